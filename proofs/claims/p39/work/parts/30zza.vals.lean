/-! values for variables: a right side with its values, and matching -/
def ptn (σ : Nat → Tm) (d : Nat) : Nat → Tm := fun k => if k < d then .index k else σ (k - d)
theorem ren_zero {t : Tm} (h : freeT t = 0) (ρ : Nat → Nat) : ren t ρ = t := by rw [ren_sbs_eq]; exact sbs_zero h _
theorem ups_ptn {σ : Nat → Tm} (h : ∀ k, freeT (σ k) = 0) (d : Nat) : ups (ptn σ d) = ptn σ (d + 1) := by
  funext k
  cases k with
  | zero => show Jvm.Term.index 0 = _; unfold ptn; rw [if_pos (Nat.succ_pos d)]
  | succ k =>
    show ren (ptn σ d k) Nat.succ = _
    unfold ptn
    by_cases q : k < d
    · rw [if_pos q, if_pos (by omega)]; rfl
    · rw [if_neg q, if_neg (by omega), ren_zero (h _), show k + 1 - (d + 1) = k - d by omega]
theorem ptn_zero (σ : Nat → Tm) : ptn σ 0 = σ := by
  funext k
  unfold ptn
  rw [if_neg (Nat.not_lt_zero k)]
  rfl
theorem ptn_low {t : Tm} {σ : Nat → Tm} {d : Nat} (h : freeT t ≤ d) : sbs t (ptn σ d) = t := by
  rw [sbs_agree t (ptn σ d) (fun k => .index k) (fun k hk => if_pos (by omega))]
  exact sbs_id t
/-- the values, the variable 0 last -/
def Vals (K : Rows) (n cnt : Nat) (wv : Nat → Int32) (σ : Nat → Tm) : Prop := ∀ k, k < cnt → ∃ j, wv (cnt - 1 - k) = nz j ∧ Rep K n (σ k) j
theorem Vals_ext {K K' : Rows} {n n' cnt : Nat} {wv : Nat → Int32} {σ : Nat → Tm} (h : Vals K n cnt wv σ) (hx : Ext K K' n) (hn : n ≤ n') : Vals K' n' cnt wv σ := fun k hk => by
  obtain ⟨j, q1, q2⟩ := h k hk
  exact ⟨j, q1, Rep_ext hx hn _ j q2⟩
abbrev WO : Type := Int32 × Int32 × (Nat → Int32) × Rows
def rWV (d : Nat) (vc : Int32) (wv : Nat → Int32) (K : Rows) (p1 p2 : Int32) : Option WO := f_X5_withValues d vc wv K.1 K.2.1 K.2.2.1 K.2.2.2.1 K.2.2.2.2.1 K.2.2.2.2.2.1 K.2.2.2.2.2.2.1 K.2.2.2.2.2.2.2.1 K.2.2.2.2.2.2.2.2 p1 p2
theorem rWV_step (d : Nat) (vc : Int32) (wv : Nat → Int32) (K : Rows) (p1 p2 : Int32) : rWV (d + 1) vc wv K p1 p2 = (rFree K p1).bind (fun q => if p2 < q then (rKind K p1).bind (fun k => if k = 1 then (rFirst K p1).bind (fun f => if (vc - 1) - (f - p2) < 0 then some ((-1), vc, wv, K) else if vc ≤ (vc - 1) - (f - p2) then some ((-1), vc, wv, K) else if inb ((vc - 1) - (f - p2)) 12 = true then some (wv (Int32.toNatClampNeg ((vc - 1) - (f - p2))), vc, wv, K) else none) else
    (rFirst K p1).bind (fun f => (rWV d vc wv K f p2).bind (fun u => if u.1 = (-1) then some ((-1), u.2.1, u.2.2.1, u.2.2.2) else (rSecond u.2.2.2 p1).bind (fun s => if k = 7 then (rWV d u.2.1 u.2.2.1 u.2.2.2 s p2).bind (fun w => (rPair w.2.2.2 k u.1 w.1).bind (fun z => some (z.1, w.2.1, w.2.2.1, z.2))) else
      (rWV d u.2.1 u.2.2.1 u.2.2.2 s (p2 + 1)).bind (fun w => (rPair w.2.2.2 k u.1 w.1).bind (fun z => some (z.1, w.2.1, w.2.2.1, z.2))))))) else some (p1, vc, wv, K)) := rfl
def TriedV (o : Option WO) (vc : Int32) (wv : Nat → Int32) (K : Rows) (n : Nat) (r : Tm) (s : Nat) : Prop := ∃ K' n', WF K' n' ∧ n ≤ n' ∧ n' ≤ n + s ∧ Ext K K' n ∧
  ((sizeT r ≤ 200 ∧ ∃ m, o = some (nz m, vc, wv, K') ∧ Rep K' n' r m) ∨ (200 < sizeT r ∧ o = some ((-1), vc, wv, K')))
theorem rWV_pair {d : Nat} {vc : Int32} {wv : Nat → Int32} {K : Rows} {n i j l k depth depth' sa sb : Nat} {ra rb b : Tm} (hw : WF K n) (hi : i < n) (hi2 : K.2.1 i = nz k) (hk5 : 5 ≤ k) (hk : k < 8) (hf : nz depth < K.2.2.2.2.2.2.1 i)
    (h6 : K.2.2.1 i = nz j) (h7 : K.2.2.2.1 i = nz l) (hb : Rep K n b l) (hroom : n + (1 + sa + sb) ≤ 32768) (hd : depth' = if k = 7 then depth else depth + 1)
    (iha : TriedV (rWV d vc wv K (nz j) (nz depth)) vc wv K n ra sa)
    (ihb : ∀ K' n', WF K' n' → Ext K K' n → n ≤ n' → Rep K' n' b l → n' + sb ≤ 32768 → TriedV (rWV d vc wv K' (nz l) (nz depth')) vc wv K' n' rb sb) :
    TriedV (rWV (d + 1) vc wv K (nz i) (nz depth)) vc wv K n (mkT k ra rb) (1 + sa + sb) := by
  have hk1 : ¬ nz k = 1 := fun hq => absurd ((nz_inj (by omega) (by decide)).mp (show nz k = nz 1 from hq)) (by omega)
  obtain ⟨K1, n1, w1, m1, m2, x1, q1⟩ := iha
  have start : rWV (d + 1) vc wv K (nz i) (nz depth) = (rWV d vc wv K (nz j) (nz depth)).bind (fun u => if u.1 = (-1) then some ((-1), u.2.1, u.2.2.1, u.2.2.2) else (rSecond u.2.2.2 (nz i)).bind (fun s => if nz k = 7 then (rWV d u.2.1 u.2.2.1 u.2.2.2 s (nz depth)).bind (fun w => (rPair w.2.2.2 (nz k) u.1 w.1).bind (fun z => some (z.1, w.2.1, w.2.2.1, z.2))) else
      (rWV d u.2.1 u.2.2.1 u.2.2.2 s (nz depth + 1)).bind (fun w => (rPair w.2.2.2 (nz k) u.1 w.1).bind (fun z => some (z.1, w.2.1, w.2.2.1, z.2))))) := by
    rw [rWV_step, rFree_at hw hi, Option.bind_some, if_pos hf, rKind_at hw hi, Option.bind_some, hi2, if_neg hk1, rFirst_at hw hi, Option.bind_some, h6]
  rcases q1 with ⟨s1, j1, e1, r1⟩ | ⟨s1, e1⟩
  · obtain ⟨K2, n2, w2, m3, m4, x2, q2⟩ := ihb K1 n1 w1 x1 m1 (Rep_ext x1 m1 b l hb) (by omega)
    have r1' := Rep_ext x2 m3 _ _ r1
    have hj1 : j1 < n1 := Rep_lt r1
    have hno : ¬ nz j1 = -1 := nz_no (by have := w1.2.1; omega)
    have hs1 : K1.2.2.2.1 i = nz l := ((x1 i hi).2.2.1).trans h7
    have next : ∀ (x : Int32) (K' : Rows), rWV d vc wv K1 (nz l) (nz depth') = some (x, vc, wv, K') → rWV (d + 1) vc wv K (nz i) (nz depth) = (rPair K' (nz k) (nz j1) x).bind (fun z => some (z.1, vc, wv, z.2)) := by
      intro x K' ho
      rw [start, e1, Option.bind_some]
      show (if nz j1 = -1 then _ else _) = _
      rw [if_neg hno]
      show Option.bind (rSecond K1 (nz i)) _ = _
      rw [rSecond_at w1 (Nat.lt_of_lt_of_le hi m1), Option.bind_some, hs1]
      by_cases c7 : k = 7
      · have c7' : nz k = 7 := by rw [c7]; rfl
        rw [if_pos c7] at hd
        rw [if_pos c7', ← hd]
        show (rWV d vc wv K1 (nz l) (nz depth')).bind _ = _
        rw [ho, Option.bind_some]
      · have c7' : ¬ nz k = 7 := fun hq => c7 ((nz_inj (by omega) (by decide)).mp (show nz k = nz 7 from hq))
        rw [if_neg c7] at hd
        have hd2 : nz depth + 1 = nz depth' := by rw [hd]; exact nz_add depth 1
        rw [if_neg c7', hd2]
        show (rWV d vc wv K1 (nz l) (nz depth')).bind _ = _
        rw [ho, Option.bind_some]
    rcases q2 with ⟨s2, j2, e2, r2⟩ | ⟨s2, e2⟩
    · by_cases hs : sizeT ra + sizeT rb < 200
      · obtain ⟨K3, e3, w3, x3, r3⟩ := pair_tree w2 (by omega) hk5 hk r1' r2 hs
        refine ⟨K3, n2 + 1, w3, by omega, by omega, Ext_trans x1 (Ext_trans x2 x3 m3) m1, Or.inl ⟨by rw [mkT_size]; omega, n2, ?_, r3⟩⟩
        rw [next _ _ e2, e3]; rfl
      · refine ⟨K2, n2, w2, by omega, by omega, Ext_trans x1 x2 m1, Or.inr ⟨by rw [mkT_size]; omega, ?_⟩⟩
        rw [next _ _ e2, pair_big w2 hk5 hk r1' r2 (by omega)]; rfl
    · refine ⟨K2, n2, w2, by omega, by omega, Ext_trans x1 x2 m1, Or.inr ⟨by rw [mkT_size]; omega, ?_⟩⟩
      rw [next _ _ e2, pair_none w2 hk5 hk r1']; rfl
  · refine ⟨K1, n1, w1, m1, by omega, x1, Or.inr ⟨by rw [mkT_size]; omega, ?_⟩⟩
    rw [start, e1, Option.bind_some]
    show (if (-1 : Int32) = -1 then _ else _) = _
    rw [if_pos rfl]
theorem rWV_made {cnt : Nat} {wv : Nat → Int32} {σ : Nat → Tm} (hc12 : cnt ≤ 12) (hσ : ∀ k, freeT (σ k) = 0) : ∀ (t : Tm) (d : Nat) (K : Rows) (n i depth : Nat), WF K n → Rep K n t i → Vals K n cnt wv σ → sizeT t ≤ d → freeT t ≤ cnt + depth → depth + sizeT t < 1000000 → n + sizeT t ≤ 32768 →
    TriedV (rWV d (nz cnt) wv K (nz i) (nz depth)) (nz cnt) wv K n (sbs t (ptn σ depth)) (sizeT t) := by
  have early : ∀ (t : Tm) (d : Nat) (K : Rows) (n i depth : Nat), WF K n → Rep K n t i → freeT t ≤ depth → depth < 1000000 → TriedV (rWV (d + 1) (nz cnt) wv K (nz i) (nz depth)) (nz cnt) wv K n (sbs t (ptn σ depth)) (sizeT t) := by
    intro t d K n i depth hw hr hc hdp
    have hi := Rep_lt hr
    have hf := (Rep_calls_loose hr).2.2.1
    have hb := Rep_free t i hr
    rw [ptn_low hc]
    refine ⟨K, n, hw, Nat.le_refl n, Nat.le_add_right n _, Ext_refl K n, Or.inl ⟨Rep_size t i hr, i, ?_, hr⟩⟩
    rw [rWV_step, rFree_at hw hi, Option.bind_some, hf, if_neg (fun hq => absurd ((nz_lt (by omega) (by omega)).mp hq) (by omega))]
  intro t
  refine tm_ind (P := fun t => ∀ (d : Nat) (K : Rows) (n i depth : Nat), WF K n → Rep K n t i → Vals K n cnt wv σ → sizeT t ≤ d → freeT t ≤ cnt + depth → depth + sizeT t < 1000000 → n + sizeT t ≤ 32768 → TriedV (rWV d (nz cnt) wv K (nz i) (nz depth)) (nz cnt) wv K n (sbs t (ptn σ depth)) (sizeT t)) ?_ ?_ ?_ ?_ ?_ t
  · intro k d K n i depth hw hr hv hd hfr hdp hroom
    obtain ⟨d, rfl⟩ : ∃ e, d = e + 1 := ⟨d - 1, by have := sizeT_pos (.index k : Tm); omega⟩
    by_cases hc : freeT (.index k : Tm) ≤ depth
    · exact early _ d K n i depth hw hr hc (by omega)
    · have hc1 : ¬ k + 1 ≤ depth := hc
      have hfr' : k + 1 ≤ cnt + depth := hfr
      have hi := Rep_lt hr
      obtain ⟨-, hk, h3, h4⟩ := hr
      obtain ⟨j, v1, v2⟩ := hv (k - depth) (by omega)
      have esub : nz cnt - 1 - (nz k - nz depth) = nz (cnt - 1 - (k - depth)) := by
        rw [nz_sub (by omega), show (1 : Int32) = nz 1 from rfl, nz_sub (by omega), nz_sub (by omega)]
      have q1 : ¬ nz cnt ≤ nz (cnt - 1 - (k - depth)) := fun hq => absurd ((nz_le (by omega) (by omega)).mp hq) (by omega)
      have es : sbs (.index k) (ptn σ depth) = σ (k - depth) := by show ptn σ depth k = _; unfold ptn; rw [if_neg (by omega)]
      rw [es]
      refine ⟨K, n, hw, Nat.le_refl n, Nat.le_add_right n _, Ext_refl K n, Or.inl ⟨Rep_size _ j v2, j, ?_, v2⟩⟩
      rw [rWV_step, rFree_at hw hi, Option.bind_some, h4.2.2.2.1]
      show (if nz depth < nz (k + 1) then _ else _) = _
      rw [if_pos ((nz_lt (by omega) (by omega)).mpr (by omega)), rKind_at hw hi, Option.bind_some, h4.1, if_pos (show nz 1 = 1 from rfl), rFirst_at hw hi, Option.bind_some, h3, esub, if_neg (nz_neg (by omega)), if_neg q1, if_pos (nz_inb (by omega) (by decide)), nz_nat (by omega), v1]
  · intro t hc d K n i depth hw hr hv hd hfr hdp hroom
    obtain ⟨d, rfl⟩ : ∃ e, d = e + 1 := ⟨d - 1, by have := sizeT_pos t; omega⟩
    exact early t d K n i depth hw hr (by rw [freeT_c hc]; exact Nat.zero_le _) (by omega)
  · intro a b iha ihb d K n i depth hw hr hv hd hfr hdp hroom
    have hsz : sizeT (.add a b : Tm) = 1 + sizeT a + sizeT b := rfl
    have hfz : freeT (.add a b : Tm) = max (freeT a) (freeT b - 1) := rfl
    have hsb : sbs (.add a b) (ptn σ depth) = mkT 5 (sbs a (ptn σ depth)) (sbs b (ptn σ (depth + 1))) := by
      show Jvm.Term.add _ (sbs b (ups _)) = _
      rw [ups_ptn hσ]; rfl
    rw [hsz] at hd hdp
    rw [hfz] at hfr
    obtain ⟨d, rfl⟩ : ∃ e, d = e + 1 := ⟨d - 1, by omega⟩
    by_cases hc : freeT (.add a b : Tm) ≤ depth
    · exact early _ d K n i depth hw hr hc (by omega)
    · have hi := Rep_lt hr
      have hff := Rep_free _ i hr
      obtain ⟨-, hs, hat, j, l, h4, h5, h6, h7, h8, h9⟩ := hr
      rw [hsz] at hroom
      rw [hsb]
      exact rWV_pair (depth' := depth + 1) hw hi hat.1 (by decide) (by decide) (by
        rw [hat.2.2.2.1]
        exact (nz_lt (by omega) (by omega)).mpr (by omega)) h6 h7 h9 hroom rfl
        (iha d K n j depth hw h8 hv (by omega) (by omega) (by omega) (by omega))
        (fun K' n' w' x' m' r' hr' => ihb d K' n' l (depth + 1) w' r' (Vals_ext hv x' m') (by omega) (by omega) (by omega) hr')
  · intro a b iha ihb d K n i depth hw hr hv hd hfr hdp hroom
    have hsz : sizeT (.sub a b : Tm) = 1 + sizeT a + sizeT b := rfl
    have hfz : freeT (.sub a b : Tm) = max (freeT a) (freeT b - 1) := rfl
    have hsb : sbs (.sub a b) (ptn σ depth) = mkT 6 (sbs a (ptn σ depth)) (sbs b (ptn σ (depth + 1))) := by
      show Jvm.Term.sub _ (sbs b (ups _)) = _
      rw [ups_ptn hσ]; rfl
    rw [hsz] at hd hdp
    rw [hfz] at hfr
    obtain ⟨d, rfl⟩ : ∃ e, d = e + 1 := ⟨d - 1, by omega⟩
    by_cases hc : freeT (.sub a b : Tm) ≤ depth
    · exact early _ d K n i depth hw hr hc (by omega)
    · have hi := Rep_lt hr
      have hff := Rep_free _ i hr
      obtain ⟨-, hs, hat, j, l, h4, h5, h6, h7, h8, h9⟩ := hr
      rw [hsz] at hroom
      rw [hsb]
      exact rWV_pair (depth' := depth + 1) hw hi hat.1 (by decide) (by decide) (by
        rw [hat.2.2.2.1]
        exact (nz_lt (by omega) (by omega)).mpr (by omega)) h6 h7 h9 hroom rfl
        (iha d K n j depth hw h8 hv (by omega) (by omega) (by omega) (by omega))
        (fun K' n' w' x' m' r' hr' => ihb d K' n' l (depth + 1) w' r' (Vals_ext hv x' m') (by omega) (by omega) (by omega) hr')
  · intro a b iha ihb d K n i depth hw hr hv hd hfr hdp hroom
    have hsz : sizeT (.mul a b : Tm) = 1 + sizeT a + sizeT b := rfl
    have hfz : freeT (.mul a b : Tm) = max (freeT a) (freeT b) := rfl
    have hsb : sbs (.mul a b) (ptn σ depth) = mkT 7 (sbs a (ptn σ depth)) (sbs b (ptn σ depth)) := rfl
    rw [hsz] at hd hdp
    rw [hfz] at hfr
    obtain ⟨d, rfl⟩ : ∃ e, d = e + 1 := ⟨d - 1, by omega⟩
    by_cases hc : freeT (.mul a b : Tm) ≤ depth
    · exact early _ d K n i depth hw hr hc (by omega)
    · have hi := Rep_lt hr
      have hff := Rep_free _ i hr
      obtain ⟨-, hs, hat, j, l, h4, h5, h6, h7, h8, h9⟩ := hr
      rw [hsz] at hroom
      rw [hsb]
      exact rWV_pair (depth' := depth) hw hi hat.1 (by decide) (by decide) (by
        rw [hat.2.2.2.1]
        exact (nz_lt (by omega) (by omega)).mpr (by omega)) h6 h7 h9 hroom rfl
        (iha d K n j depth hw h8 hv (by omega) (by omega) (by omega) (by omega))
        (fun K' n' w' x' m' r' hr' => ihb d K' n' l depth w' r' (Vals_ext hv x' m') (by omega) (by omega) (by omega) hr')
def TriedS (o : Option (Int32 × Rows)) (K : Rows) (n : Nat) (r : Tm) (s : Nat) : Prop := ∃ K' n', WF K' n' ∧ n ≤ n' ∧ n' ≤ n + s ∧ Ext K K' n ∧
  ((sizeT r ≤ 200 ∧ ∃ m, o = some (nz m, K') ∧ Rep K' n' r m) ∨ (200 < sizeT r ∧ o = some ((-1), K')))
theorem cPut_pair {d : Nat} {K : Rows} {n i j l k depth depth' vj sa sb : Nat} {ra rb b : Tm} (hw : WF K n) (hi : i < n) (hi2 : K.2.1 i = nz k) (hk5 : 5 ≤ k) (hk : k < 8) (hf : nz depth < K.2.2.2.2.2.2.1 i)
    (h6 : K.2.2.1 i = nz j) (h7 : K.2.2.2.1 i = nz l) (hb : Rep K n b l) (hroom : n + (1 + sa + sb) ≤ 32768)
    (hd : depth' = if k = 7 then depth else depth + 1)
    (iha : TriedS (rPut d K (nz j) (nz vj) (nz depth)) K n ra sa)
    (ihb : ∀ K' n', WF K' n' → Ext K K' n → n ≤ n' → Rep K' n' b l → n' + sb ≤ 32768 → TriedS (rPut d K' (nz l) (nz vj) (nz depth')) K' n' rb sb) :
    TriedS (rPut (d + 1) K (nz i) (nz vj) (nz depth)) K n (mkT k ra rb) (1 + sa + sb) := by
  have hk1 : ¬ nz k = 1 := fun hq => absurd ((nz_inj (by omega) (by decide)).mp (show nz k = nz 1 from hq)) (by omega)
  obtain ⟨K1, n1, w1, m1, m2, x1, q1⟩ := iha
  have start : rPut (d + 1) K (nz i) (nz vj) (nz depth) = (rPut d K (nz j) (nz vj) (nz depth)).bind (fun u => if u.1 = (-1) then some ((-1), u.2) else
        (rSecond u.2 (nz i)).bind (fun s => if nz k = 7 then (rPut d u.2 s (nz vj) (nz depth)).bind (fun w => (rPair w.2 (nz k) u.1 w.1).bind some) else
          (rPut d u.2 s (nz vj) (nz depth + 1)).bind (fun w => (rPair w.2 (nz k) u.1 w.1).bind some))) := by
    rw [rPut_step, rFree_at hw hi, Option.bind_some, if_pos hf, rKind_at hw hi, Option.bind_some, hi2, if_neg hk1, rFirst_at hw hi, Option.bind_some, h6]
  rcases q1 with ⟨s1, j1, e1, r1⟩ | ⟨s1, e1⟩
  · obtain ⟨K2, n2, w2, m3, m4, x2, q2⟩ := ihb K1 n1 w1 x1 m1 (Rep_ext x1 m1 b l hb) (by omega)
    have r1' := Rep_ext x2 m3 _ _ r1
    have hj1 : j1 < n1 := Rep_lt r1
    have hno : ¬ nz j1 = -1 := nz_no (by have := w1.2.1; omega)
    have hs1 : K1.2.2.2.1 i = nz l := ((x1 i hi).2.2.1).trans h7
    have next : ∀ o, rPut d K1 (nz l) (nz vj) (nz depth') = some o → rPut (d + 1) K (nz i) (nz vj) (nz depth) = (rPair o.2 (nz k) (nz j1) o.1).bind some := by
      intro o ho
      rw [start, e1, Option.bind_some]
      show (if nz j1 = -1 then _ else _) = _
      rw [if_neg hno]
      show Option.bind (rSecond K1 (nz i)) _ = _
      rw [rSecond_at w1 (Nat.lt_of_lt_of_le hi m1), Option.bind_some, hs1]
      by_cases c7 : k = 7
      · have c7' : nz k = 7 := by rw [c7]; rfl
        rw [if_pos c7] at hd
        rw [if_pos c7', ← hd, ho, Option.bind_some]
      · have c7' : ¬ nz k = 7 := fun hq => c7 ((nz_inj (by omega) (by decide)).mp (show nz k = nz 7 from hq))
        rw [if_neg c7] at hd
        have hd2 : nz depth + 1 = nz depth' := by rw [hd]; exact nz_add depth 1
        rw [if_neg c7', hd2, ho, Option.bind_some]
    rcases q2 with ⟨s2, j2, e2, r2⟩ | ⟨s2, e2⟩
    · by_cases hs : sizeT ra + sizeT rb < 200
      · obtain ⟨K3, e3, w3, x3, r3⟩ := pair_tree w2 (by omega) hk5 hk r1' r2 hs
        refine ⟨K3, n2 + 1, w3, by omega, by omega, Ext_trans x1 (Ext_trans x2 x3 m3) m1, Or.inl ⟨by rw [mkT_size]; omega, n2, ?_, r3⟩⟩
        rw [next _ e2, e3]; rfl
      · refine ⟨K2, n2, w2, by omega, by omega, Ext_trans x1 x2 m1, Or.inr ⟨by rw [mkT_size]; omega, ?_⟩⟩
        rw [next _ e2, pair_big w2 hk5 hk r1' r2 (by omega)]; rfl
    · refine ⟨K2, n2, w2, by omega, by omega, Ext_trans x1 x2 m1, Or.inr ⟨by rw [mkT_size]; omega, ?_⟩⟩
      rw [next _ e2, pair_none w2 hk5 hk r1']; rfl
  · refine ⟨K1, n1, w1, m1, by omega, x1, Or.inr ⟨by rw [mkT_size]; omega, ?_⟩⟩
    rw [start, e1, Option.bind_some]
    show (if (-1 : Int32) = -1 then _ else _) = _
    rw [if_pos rfl]
theorem cPut_made (v : Tm) (vj : Nat) (hv0 : freeT v = 0) : ∀ (t : Tm) (d : Nat) (K : Rows) (n i depth : Nat), WF K n → Rep K n t i → Rep K n v vj → sizeT t ≤ d → freeT v + depth + sizeT t + 200 < 1000000 → n + sizeT t ≤ 32768 → TriedS (rPut d K (nz i) (nz vj) (nz depth)) K n (sbs t (pt v depth)) (sizeT t) := by
  have early : ∀ (t : Tm) (d : Nat) (K : Rows) (n i depth : Nat), WF K n → Rep K n t i → freeT t ≤ depth → depth < 1000000 → TriedS (rPut (d + 1) K (nz i) (nz vj) (nz depth)) K n (sbs t (pt v depth)) (sizeT t) := by
    intro t d K n i depth hw hr hc hdp
    have hi := Rep_lt hr
    have hf := (Rep_calls_loose hr).2.2.1
    have hb := Rep_free t i hr
    rw [sbs_closed v t depth hc]
    refine ⟨K, n, hw, Nat.le_refl n, Nat.le_add_right n _, Ext_refl K n, Or.inl ⟨Rep_size t i hr, i, ?_, hr⟩⟩
    rw [rPut_step, rFree_at hw hi, Option.bind_some, hf, if_neg (fun hq => absurd ((nz_lt (by omega) (by omega)).mp hq) (by omega))]
  intro t
  refine tm_ind (P := fun t => ∀ (d : Nat) (K : Rows) (n i depth : Nat), WF K n → Rep K n t i → Rep K n v vj → sizeT t ≤ d → freeT v + depth + sizeT t + 200 < 1000000 → n + sizeT t ≤ 32768 → TriedS (rPut d K (nz i) (nz vj) (nz depth)) K n (sbs t (pt v depth)) (sizeT t)) ?_ ?_ ?_ ?_ ?_ t
  · intro k d K n i depth hw hr hv hd hfr hroom
    obtain ⟨d, rfl⟩ : ∃ e, d = e + 1 := ⟨d - 1, by have := sizeT_pos (.index k : Tm); omega⟩
    by_cases hc : freeT (.index k : Tm) ≤ depth
    · exact early _ d K n i depth hw hr hc (by omega)
    · have hc1 : ¬ k + 1 ≤ depth := hc
      have hi := Rep_lt hr
      obtain ⟨-, hk, h3, h4⟩ := hr
      have start : rPut (d + 1) K (nz i) (nz vj) (nz depth) = (if nz k = nz depth then (rLift 200 K (nz vj) (nz depth) 0).bind some else (rLeaf K 1 (nz k - 1)).bind some) := by
        rw [rPut_step, rFree_at hw hi, Option.bind_some, h4.2.2.2.1]
        show (if nz depth < nz (k + 1) then _ else _) = _
        rw [if_pos ((nz_lt (by omega) (by omega)).mpr (by omega)), rKind_at hw hi, Option.bind_some, h4.1, if_pos (show nz 1 = 1 from rfl), rFirst_at hw hi, Option.bind_some, h3]
      have hsb : sbs (.index k) (pt v depth) = if k = depth then ren v (shift depth 0) else .index (k - 1) := by
        show pt v depth k = _
        rw [pt, if_neg (by omega)]
      by_cases he : k = depth
      · rw [hsb, if_pos he, ren_zero hv0]
        rw [start, if_pos (by rw [he]), Option.bind_fun_some]
        have q : rLift 200 K (nz vj) (nz depth) (nz 0) = some (nz vj, K) := lift_closed' 199 hw hv (by omega) (by omega)
        exact ⟨K, n, hw, Nat.le_refl n, Nat.le_add_right n _, Ext_refl K n, Or.inl ⟨Rep_size v vj hv, vj, q, hv⟩⟩
      · rw [hsb, if_neg he]
        have hne : ¬ nz k = nz depth := fun hq => he ((nz_inj (by omega) (by omega)).mp hq)
        have e1 : nz k - 1 = nz (k - 1) := by
          have e2 : nz k = nz (k - 1) + 1 := by
            show nz k = nz (k - 1) + nz 1
            rw [nz_add]
            congr 1
            omega
          rw [e2]
          exact Int32.add_sub_cancel _ _
        have hroom' : n + 1 ≤ 32768 := hroom
        obtain ⟨K', e, w, xx, r⟩ := leaf_var (k := k - 1) hw (by omega) (by omega)
        rw [start, if_neg hne, e1, e]
        exact ⟨K', n + 1, w, Nat.le_succ n, Nat.le_refl _, xx, Or.inl ⟨(by decide : 1 ≤ 200), n, rfl, r⟩⟩
  · intro t hc d K n i depth hw hr hv hd hfr hroom
    obtain ⟨d, rfl⟩ : ∃ e, d = e + 1 := ⟨d - 1, by have := sizeT_pos t; omega⟩
    refine early t d K n i depth hw hr ?_ (by omega)
    cases t <;> first | exact Nat.zero_le _ | (cases hc; done)
  · intro a b iha ihb d K n i depth hw hr hv hd hfr hroom
    have hsz : sizeT (.add a b : Tm) = 1 + sizeT a + sizeT b := rfl
    have hfz : freeT (.add a b : Tm) = max (freeT a) (freeT b - 1) := rfl
    have hsb : sbs (.add a b) (pt v depth) = mkT 5 (sbs a (pt v depth)) (sbs b (pt v (depth + 1))) := by
      show Jvm.Term.add _ (sbs b (ups _)) = _
      rw [ups_pt]; rfl
    rw [hsz] at hd hfr
    have hpa := sizeT_pos a
    have hpb := sizeT_pos b
    obtain ⟨d, rfl⟩ : ∃ e, d = e + 1 := ⟨d - 1, by omega⟩
    by_cases hc : freeT (.add a b : Tm) ≤ depth
    · exact early _ d K n i depth hw hr hc (by omega)
    · have hi := Rep_lt hr
      have hff := Rep_free _ i hr
      obtain ⟨-, hs, hat, j, l, h4, h5, h6, h7, h8, h9⟩ := hr
      rw [hsz] at hroom
      rw [hsb]
      exact cPut_pair (depth' := depth + 1) hw hi hat.1 (by decide) (by decide) (by
        rw [hat.2.2.2.1]
        exact (nz_lt (by omega) (by omega)).mpr (by omega)) h6 h7 h9 hroom rfl
        (iha d K n j depth hw h8 hv (by omega) (by omega) (by omega))
        (fun K' n' w' x' m' r' hr' => ihb d K' n' l (depth + 1) w' r' (Rep_ext x' m' v vj hv) (by omega) (by omega) hr')
  · intro a b iha ihb d K n i depth hw hr hv hd hfr hroom
    have hsz : sizeT (.sub a b : Tm) = 1 + sizeT a + sizeT b := rfl
    have hsb : sbs (.sub a b) (pt v depth) = mkT 6 (sbs a (pt v depth)) (sbs b (pt v (depth + 1))) := by
      show Jvm.Term.sub _ (sbs b (ups _)) = _
      rw [ups_pt]; rfl
    rw [hsz] at hd hfr
    have hpa := sizeT_pos a
    have hpb := sizeT_pos b
    obtain ⟨d, rfl⟩ : ∃ e, d = e + 1 := ⟨d - 1, by omega⟩
    by_cases hc : freeT (.sub a b : Tm) ≤ depth
    · exact early _ d K n i depth hw hr hc (by omega)
    · have hi := Rep_lt hr
      have hff := Rep_free _ i hr
      obtain ⟨-, hs, hat, j, l, h4, h5, h6, h7, h8, h9⟩ := hr
      rw [hsz] at hroom
      rw [hsb]
      exact cPut_pair (depth' := depth + 1) hw hi hat.1 (by decide) (by decide) (by
        rw [hat.2.2.2.1]
        exact (nz_lt (by omega) (by omega)).mpr (by omega)) h6 h7 h9 hroom rfl
        (iha d K n j depth hw h8 hv (by omega) (by omega) (by omega))
        (fun K' n' w' x' m' r' hr' => ihb d K' n' l (depth + 1) w' r' (Rep_ext x' m' v vj hv) (by omega) (by omega) hr')
  · intro a b iha ihb d K n i depth hw hr hv hd hfr hroom
    have hsz : sizeT (.mul a b : Tm) = 1 + sizeT a + sizeT b := rfl
    have hsb : sbs (.mul a b) (pt v depth) = mkT 7 (sbs a (pt v depth)) (sbs b (pt v depth)) := rfl
    rw [hsz] at hd hfr
    have hpa := sizeT_pos a
    have hpb := sizeT_pos b
    obtain ⟨d, rfl⟩ : ∃ e, d = e + 1 := ⟨d - 1, by omega⟩
    by_cases hc : freeT (.mul a b : Tm) ≤ depth
    · exact early _ d K n i depth hw hr hc (by omega)
    · have hi := Rep_lt hr
      have hff := Rep_free _ i hr
      obtain ⟨-, hs, hat, j, l, h4, h5, h6, h7, h8, h9⟩ := hr
      rw [hsz] at hroom
      rw [hsb]
      exact cPut_pair (depth' := depth) hw hi hat.1 (by decide) (by decide) (by
        rw [hat.2.2.2.1]
        exact (nz_lt (by omega) (by omega)).mpr (by omega)) h6 h7 h9 hroom rfl
        (iha d K n j depth hw h8 hv (by omega) (by omega) (by omega))
        (fun K' n' w' x' m' r' hr' => ihb d K' n' l depth w' r' (Rep_ext x' m' v vj hv) (by omega) (by omega) hr')
