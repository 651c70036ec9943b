/-! split: all the children -/
def NB : Nat → Nat
  | 0 => 0
  | k + 1 => NB k + (416 + 4 * k)
theorem NB_mono : ∀ {a b : Nat}, a ≤ b → NB a ≤ NB b := by
  intro a b h
  induction b with
  | zero => rw [show a = 0 by omega]; exact Nat.le_refl _
  | succ b ih =>
    rcases Nat.lt_or_ge b a with q | q
    · rw [show a = b + 1 by omega]; exact Nat.le_refl _
    · have := ih q
      show _ ≤ NB b + _
      omega
def NewAt (K : Rows) (n : Nat) (P : PS) (i f : Nat) (Γ : List Tm) (T : Tm) (ps : List Tm) : Prop := ∃ Z, NewC K n Z f Γ T ps ∧ PSame (addG P i Z) P i
theorem NewAt_add {K : Rows} {n i f : Nat} {P : PS} {Z : CS} {Γ : List Tm} {T : Tm} {ps : List Tm} (h : NewC K n Z f Γ T ps) : NewAt K n (addG P i Z) i f Γ T ps :=
  ⟨Z, h, (vu_at _ _ _).trans (vu_at _ _ _).symm, (vu_at _ _ _).trans (vu_at _ _ _).symm, (vu_at _ _ _).trans (vu_at _ _ _).symm, (vu_at _ _ _).trans (vu_at _ _ _).symm, (vu_at _ _ _).trans (vu_at _ _ _).symm, (vu_at _ _ _).trans (vu_at _ _ _).symm, (vu_at _ _ _).trans (vu_at _ _ _).symm, (vu_at _ _ _).trans (vu_at _ _ _).symm, (vu_at _ _ _).trans (vu_at _ _ _).symm, (vu_at _ _ _).trans (vu_at _ _ _).symm, (vu_at _ _ _).trans (vu_at _ _ _).symm⟩
theorem NewAt_keep {K K' : Rows} {n n' i f : Nat} {P P' : PS} {Γ : List Tm} {T : Tm} {ps : List Tm} (h : NewAt K n P i f Γ T ps) (hx : Ext K K' n) (hn : n ≤ n') (hp : PSame P P' i) : NewAt K' n' P' i f Γ T ps := by
  obtain ⟨Z, h1, g1, g2, g3, g4, g5, g6, g7, g8, g9, g10, g11⟩ := h
  obtain ⟨p1, p2, p3, p4, p5, p6, p7, p8, p9, p10, p11⟩ := hp
  refine ⟨Z, NewC_ext h1 hx hn, ?_, ?_, ?_, ?_, ?_, ?_, ?_, ?_, ?_, ?_, ?_⟩
  · exact p1.trans (g1.trans ((vu_at _ _ _).trans (vu_at _ _ _).symm))
  · exact p2.trans (g2.trans ((vu_at _ _ _).trans (vu_at _ _ _).symm))
  · exact p3.trans (g3.trans ((vu_at _ _ _).trans (vu_at _ _ _).symm))
  · exact p4.trans (g4.trans ((vu_at _ _ _).trans (vu_at _ _ _).symm))
  · exact p5.trans (g5.trans ((vu_at _ _ _).trans (vu_at _ _ _).symm))
  · exact p6.trans (g6.trans ((vu_at _ _ _).trans (vu_at _ _ _).symm))
  · exact p7.trans (g7.trans ((vu_at _ _ _).trans (vu_at _ _ _).symm))
  · exact p8.trans (g8.trans ((vu_at _ _ _).trans (vu_at _ _ _).symm))
  · exact p9.trans (g9.trans ((vu_at _ _ _).trans (vu_at _ _ _).symm))
  · exact p10.trans (g10.trans ((vu_at _ _ _).trans (vu_at _ _ _).symm))
  · exact p11.trans (g11.trans ((vu_at _ _ _).trans (vu_at _ _ _).symm))
theorem PSame_trans {P P' P'' : PS} {g : Nat} (h : PSame P P' g) (h2 : PSame P' P'' g) : PSame P P'' g := by
  obtain ⟨a1, a2, a3, a4, a5, a6, a7, a8, a9, a10, a11⟩ := h
  obtain ⟨b1, b2, b3, b4, b5, b6, b7, b8, b9, b10, b11⟩ := h2
  exact ⟨b1.trans a1, b2.trans a2, b3.trans a3, b4.trans a4, b5.trans a5, b6.trans a6, b7.trans a7, b8.trans a8, b9.trans a9, b10.trans a10, b11.trans a11⟩
theorem PSame_refl (P : PS) (g : Nat) : PSame P P g := ⟨rfl, rfl, rfl, rfl, rfl, rfl, rfl, rfl, rfl, rfl, rfl⟩
theorem owner_ok {K : Rows} {n c : Nat} {S : SS} {A : SG} (h : SigC K n S A) (h16 : sCc A ≤ 16) (hc : c < sCc A) : g_X7_ownerOf S (nz c) = some (nz (sOwn A c)) := by
  obtain ⟨a1, a2, a3, a4⟩ := h
  unfold g_X7_ownerOf f_X7_ownerOf f_X7_hasConstructor
  rw [map_same, a2, if_neg (nz_neg (by omega)), if_neg (fun hq => absurd ((nz_le (by omega) (by omega)).mp hq) (by omega)), Option.bind_some, if_neg (by decide), if_pos (nz_inb (by omega) (by decide)), nz_nat (by omega), (a3 c hc).1]
theorem cntd_le (A : SG) (d : Nat) : ∀ k, cntd A d k ≤ k := by
  intro k
  induction k with
  | zero => exact Nat.le_refl 0
  | succ k ih =>
    show cntd A d k + (if sOwn A k = d then 1 else 0) ≤ k + 1
    split <;> omega
theorem cntd_none {A : SG} {d : Nat} (h : ∀ c, c < sCc A → sOwn A c < d) : ∀ k, k ≤ sCc A → cntd A d k = 0 := by
  intro k
  induction k with
  | zero => intro _; rfl
  | succ k ih =>
    intro hk
    show cntd A d k + (if sOwn A k = d then 1 else 0) = 0
    rw [ih (by omega), if_neg (by have := h k (by omega); omega)]
theorem cons_ok {K : Rows} {n d : Nat} {S : SS} {A : SG} (h : SigC K n S A) (hs : SigOK A) (hd : d < 1000000) : g_X7_constructorsOf S (nz d) = some (nz (cntd A d (sCc A))) := by
  obtain ⟨a1, a2, a3, a4⟩ := h
  have h6 := hs.2.1
  unfold g_X7_constructorsOf f_X7_constructorsOf f_X7_hasData
  rw [map_same, a1, if_neg (nz_neg (by omega))]
  by_cases hlt : d < sDc A
  · rw [if_neg (fun hq => absurd ((nz_le (by omega) (by omega)).mp hq) (by omega)), Option.bind_some, if_neg (by decide), if_pos (nz_inb (by omega) (by decide)), nz_nat (by omega), a4 d hlt]
  · rw [if_pos ((nz_le (by omega) (by omega)).mpr (by omega)), Option.bind_some, if_pos rfl, cntd_none (fun c hc => by have := (hs.2.2 c hc).1; omega) _ (Nat.le_refl _)]
    rfl
theorem note_ok {K : Rows} {n : Nat} {x : Int32} {S S' : SS} {A : SG} (h : SigC K n S A) (he : g_X7_noteSplit S x = some S') : SigC K n S' A := by
  unfold g_X7_noteSplit f_X7_noteSplit f_X7_hasData at he
  have w : ∀ (y : Nat → Int32), SigC K n (S.1, S.2.1, y, S.2.2.2.1, S.2.2.2.2.1, S.2.2.2.2.2.1, S.2.2.2.2.2.2.1, S.2.2.2.2.2.2.2.1, S.2.2.2.2.2.2.2.2) A := fun y => h
  revert he
  split
  · intro he
    have e : S' = (S.1, S.2.1, S.2.2.1, S.2.2.2.1, S.2.2.2.2.1, S.2.2.2.2.2.1, S.2.2.2.2.2.2.1, S.2.2.2.2.2.2.2.1, S.2.2.2.2.2.2.2.2) := by
      have q : some (S.1, S.2.1, S.2.2.1, S.2.2.2.1, S.2.2.2.2.1, S.2.2.2.2.2.1, S.2.2.2.2.2.2.1, S.2.2.2.2.2.2.2.1, S.2.2.2.2.2.2.2.2) = some S' := he
      injection q with q
      exact q.symm
    rw [e]; exact w _
  · split
    · intro he
      have e : S' = (S.1, S.2.1, S.2.2.1, S.2.2.2.1, S.2.2.2.2.1, S.2.2.2.2.2.1, S.2.2.2.2.2.2.1, S.2.2.2.2.2.2.2.1, S.2.2.2.2.2.2.2.2) := by
        have q : some (S.1, S.2.1, S.2.2.1, S.2.2.2.1, S.2.2.2.2.1, S.2.2.2.2.2.1, S.2.2.2.2.2.2.1, S.2.2.2.2.2.2.2.1, S.2.2.2.2.2.2.2.2) = some S' := he
        injection q with q
        exact q.symm
      rw [e]; exact w _
    · intro he
      by_cases hi : inb x 6 = true
      · have q : (if inb x 6 = true then some (S.1, upd S.2.2.1 (Int32.toNatClampNeg x) (vp_nar .boolean 1)) else none).map (fun z : Int32 × IA => (z.1, S.2.1, z.2, S.2.2.2.1, S.2.2.2.2.1, S.2.2.2.2.2.1, S.2.2.2.2.2.2.1, S.2.2.2.2.2.2.2.1, S.2.2.2.2.2.2.2.2)) = some S' := he
        rw [if_pos hi] at q
        have q2 : some (S.1, S.2.1, upd S.2.2.1 (Int32.toNatClampNeg x) (vp_nar .boolean 1), S.2.2.2.1, S.2.2.2.2.1, S.2.2.2.2.2.1, S.2.2.2.2.2.2.1, S.2.2.2.2.2.2.2.1, S.2.2.2.2.2.2.2.2) = some S' := q
        injection q2 with q2
        rw [← q2]; exact w _
      · have q : (if inb x 6 = true then some (S.1, upd S.2.2.1 (Int32.toNatClampNeg x) (vp_nar .boolean 1)) else none).map (fun z : Int32 × IA => (z.1, S.2.1, z.2, S.2.2.2.1, S.2.2.2.2.1, S.2.2.2.2.2.1, S.2.2.2.2.2.2.1, S.2.2.2.2.2.2.2.1, S.2.2.2.2.2.2.2.2)) = some S' := he
        rw [if_neg hi] at q
        cases q
theorem note_some {d : Nat} {S : SS} {dc : Nat} (h : S.1 = nz dc) (h6 : dc ≤ 6) (hd : d < 1000000) : ∃ S', g_X7_noteSplit S (nz d) = some S' := by
  unfold g_X7_noteSplit f_X7_noteSplit f_X7_hasData
  rw [h, if_neg (nz_neg (by omega))]
  by_cases hlt : d < dc
  · rw [if_neg (fun hq => absurd ((nz_le (by omega) (by omega)).mp hq) (by omega)), Option.bind_some, if_neg (by decide), if_pos (nz_inb (by omega) (by decide))]
    exact ⟨_, rfl⟩
  · rw [if_pos ((nz_le (by omega) (by omega)).mpr (by omega)), Option.bind_some, if_pos rfl]
    exact ⟨_, rfl⟩
theorem much_loop {K : Rows} {n g d len : Nat} {S : SS} {D : DS} {P : PS} {A : SG} {gc : Nat} (hS : SigC K n S A) (hs : SigOK A) (hD : D.2.1 = nz gc) (hgc : gc ≤ 40) (hg : g < 40) (hmn : P.2.2.2.2.2.2.2.2.2.2.1 g = nz len) (hl1 : 1 ≤ len) (hl : len ≤ 12) (hd : d < 1000000) :
    ∀ (k f c : Nat), c + k = sCc A → k < f → (∀ c', c' < c → sOwn A c' = d → len - 1 + (sPrt A c').length ≤ 12) →
      ∃ r, f_X0_splitIsTooMuch_L36 f K S D P (nz g) (nz d) (nz c) = some r ∧ (r = 0 ∨ r = 1) ∧ (r = 0 → (∀ c', c' < sCc A → sOwn A c' = d → len - 1 + (sPrt A c').length ≤ 12) ∧ gc + cntd A d (sCc A) ≤ 40) := by
  intro k
  have h16 := hs.1
  induction k with
  | zero =>
    intro f c hc hf h
    obtain ⟨f, rfl⟩ : ∃ e, f = e + 1 := ⟨f - 1, by omega⟩
    have hc' : c = sCc A := by omega
    subst hc'
    have hcl := cntd_le A d (sCc A)
    unfold f_X0_splitIsTooMuch_L36
    rw [hS.2.1, if_pos ((nz_le (by omega) (by omega)).mpr (Nat.le_refl _)), cons_ok hS hs hd, Option.bind_some, hD, nz_add]
    by_cases q : gc + cntd A d (sCc A) ≤ 40
    · rw [if_pos (show nz _ ≤ (40 : Int32) from (nz_le (j := 40) (by omega) (by decide)).mpr q)]
      exact ⟨0, rfl, Or.inl rfl, fun _ => ⟨h, q⟩⟩
    · rw [if_neg (show ¬ nz _ ≤ (40 : Int32) from fun hq => q ((nz_le (j := 40) (by omega) (by decide)).mp hq))]
      exact ⟨1, rfl, Or.inr rfl, fun w => absurd w (by decide)⟩
  | succ k ih =>
    intro f c hc hf h
    obtain ⟨f, rfl⟩ : ∃ e, f = e + 1 := ⟨f - 1, by omega⟩
    have hcl : c < sCc A := by omega
    have hm := (hs.2.2 c hcl).2.1
    have ho := (hs.2.2 c hcl).1
    have h6 := hs.2.1
    have q1 : ¬ nz (sCc A) ≤ nz c := fun hq => absurd ((nz_le (by omega) (by omega)).mp hq) (by omega)
    have hmn' : P.2.2.2.2.2.2.2.2.2.2.1 (Int32.toNatClampNeg (nz g)) = nz len := by rw [nz_nat (by omega)]; exact hmn
    have st : f_X0_splitIsTooMuch_L36 (f + 1) K S D P (nz g) (nz d) (nz c) = (if sOwn A c = d then (if len - 1 + (sPrt A c).length ≤ 12 then f_X0_splitIsTooMuch_L36 f K S D P (nz g) (nz d) (nz (c + 1)) else some 1) else f_X0_splitIsTooMuch_L36 f K S D P (nz g) (nz d) (nz (c + 1))) := by
      conv => lhs; unfold f_X0_splitIsTooMuch_L36
      rw [hS.2.1, if_neg q1, owner_ok hS h16 hcl, Option.bind_some, show nz c + 1 = nz (c + 1) from nz_add c 1]
      by_cases e : sOwn A c = d
      · rw [if_pos e, if_pos (by rw [e]), partsOf_ok hS h16 hcl, Option.bind_some, hmn', show (1 : Int32) = nz 1 from rfl, nz_sub hl1, nz_add]
        by_cases w : len - 1 + (sPrt A c).length ≤ 12
        · rw [if_pos w, if_pos (show nz _ ≤ (12 : Int32) from (nz_le (j := 12) (by omega) (by decide)).mpr w)]
        · rw [if_neg w, if_neg (show ¬ nz _ ≤ (12 : Int32) from fun hq => w ((nz_le (j := 12) (by omega) (by decide)).mp hq))]
      · rw [if_neg e, if_neg (nz_ne (by omega) (by omega) e)]
    rw [st]
    by_cases e : sOwn A c = d
    · rw [if_pos e]
      by_cases w : len - 1 + (sPrt A c).length ≤ 12
      · rw [if_pos w]
        refine ih f (c + 1) (by omega) (by omega) ?_
        intro c' h1 h2
        rcases Nat.lt_succ_iff_lt_or_eq.mp h1 with q | rfl
        · exact h c' q h2
        · exact w
      · rw [if_neg w]
        exact ⟨1, rfl, Or.inr rfl, fun w => absurd w (by decide)⟩
    · rw [if_neg e]
      refine ih f (c + 1) (by omega) (by omega) ?_
      intro c' h1 h2
      rcases Nat.lt_succ_iff_lt_or_eq.mp h1 with q | rfl
      · exact h c' q h2
      · exact absurd h2 e
