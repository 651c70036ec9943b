/-! isSound -/
theorem stW_115 {s : Nat} (hs : s ≤ 2) : stW s = 115 ↔ s = 1 := by
  have hq : s = 0 ∨ s = 1 ∨ s = 2 := by omega
  rcases hq with rfl | rfl | rfl <;> decide
theorem stW_102 {s : Nat} (hs : s ≤ 2) : stW s = 102 ↔ s = 2 := by
  have hq : s = 0 ∨ s = 1 ∨ s = 2 := by omega
  rcases hq with rfl | rfl | rfl <;> decide
theorem alike_loop {K : Rows} {n g g' k : Nat} {D : DS} {P : PS} {ps qs : List Tm} {p q : Tm} (hw : WF K n) (hp : PatsC K n P g ps) (hq : PatsC K n P g' qs) (hg : g < 1000000) (hg' : g' < 1000000) (h1 : ps[k]? = some p) (h2 : qs[k]? = some q) (h3 : meetT p q = false) : ∀ (m fu v : Nat), v + m = k → m < fu → f_X0_areAlike_L43 fu K D P (nz g) (nz g') (nz v) = some 0 := by
  obtain ⟨a1, a2, a3⟩ := hp
  obtain ⟨b1, b2, b3⟩ := hq
  have hkp : k < ps.length := by
    rcases Nat.lt_or_ge k ps.length with w | w
    · exact w
    · rw [List.getElem?_eq_none w] at h1; cases h1
  have hkq : k < qs.length := by
    rcases Nat.lt_or_ge k qs.length with w | w
    · exact w
    · rw [List.getElem?_eq_none w] at h2; cases h2
  intro m
  induction m with
  | zero =>
    intro fu v hv hf
    obtain ⟨fu, rfl⟩ : ∃ e, fu = e + 1 := ⟨fu - 1, by omega⟩
    obtain rfl : v = k := by omega
    obtain ⟨j, j1, j2⟩ := a3 v p h1
    obtain ⟨l, l1, l2⟩ := b3 v q h2
    unfold f_X0_areAlike_L43
    rw [nz_nat (show g < 2147483648 by omega), nz_nat (show g' < 2147483648 by omega), a2, b2, if_neg (show ¬ Int32.ofNat ps.length ≤ nz v from fun w => absurd ((nz_le (i := ps.length) (by omega) (by omega)).mp w) (by omega)), if_neg (show ¬ Int32.ofNat qs.length ≤ nz v from fun w => absurd ((nz_le (i := qs.length) (by omega) (by omega)).mp w) (by omega)), if_pos (nz_inb hkp (by omega)), if_pos (nz_inb hkq (by omega)), nz_nat (show v < 2147483648 by omega), j1, l1, g_meet, rMeet_yes hw 200 p q j l (Rep_size _ _ j2) j2 l2, h3, Option.bind_some, if_pos (show (if false = true then (1 : Int32) else 0) = 0 from rfl)]
  | succ m ih =>
    intro fu v hv hf
    obtain ⟨fu, rfl⟩ : ∃ e, fu = e + 1 := ⟨fu - 1, by omega⟩
    have hvp : v < ps.length := by omega
    have hvq : v < qs.length := by omega
    obtain ⟨j, j1, j2⟩ := a3 v ps[v] (List.getElem?_eq_getElem hvp)
    obtain ⟨l, l1, l2⟩ := b3 v qs[v] (List.getElem?_eq_getElem hvq)
    unfold f_X0_areAlike_L43
    rw [nz_nat (show g < 2147483648 by omega), nz_nat (show g' < 2147483648 by omega), a2, b2, if_neg (show ¬ Int32.ofNat ps.length ≤ nz v from fun w => absurd ((nz_le (i := ps.length) (by omega) (by omega)).mp w) (by omega)), if_neg (show ¬ Int32.ofNat qs.length ≤ nz v from fun w => absurd ((nz_le (i := qs.length) (by omega) (by omega)).mp w) (by omega)), if_pos (nz_inb hvp (by omega)), if_pos (nz_inb hvq (by omega)), nz_nat (show v < 2147483648 by omega), j1, l1, g_meet, rMeet_yes hw 200 ps[v] qs[v] j l (Rep_size _ _ j2) j2 l2, Option.bind_some, show nz v + 1 = nz (v + 1) from nz_add v 1]
    by_cases w : meetT ps[v] qs[v] = true
    · rw [if_pos w, if_neg (by decide)]
      exact ih fu (v + 1) (by omega) (by omega)
    · rw [if_neg w, if_pos rfl]
theorem court_pats {K : Rows} {n g : Nat} {S : SS} {D : DS} {P : PS} {A : SG} {B : FG} {G : GG} (h : CourtC K n S D P A B G) (ht : CourtT A B G) (hg : g < qN G) : PatsC K n P g (qP G g) := by
  obtain ⟨y1, y2, y3, y4, y5, y6, y7, y8, y9⟩ := h.2.2.2.2 g hg
  have hgo := ht.2.2.2.1 g hg
  refine ⟨?_, y4, y5⟩
  have e := hgo.2.2.2.2.2.1.1
  obtain ⟨l, Rr, q1, q2, q3, q4, -⟩ := ht.2.1.2 _ hgo.1
  omega
theorem alike_no {K : Rows} {n g g' : Nat} {S : SS} {D : DS} {P : PS} {A : SG} {B : FG} {G : GG} (h : CourtC K n S D P A B G) (ht : CourtT A B G) (hg : g < qN G) (hg' : g' < qN G) (hne : g < g') : f_X0_areAlike K D P (nz g) (nz g') = some 0 := by
  have h40 := ht.2.2.1
  have h8 := ht.2.1.1
  obtain ⟨y1, y2, y3, y4, y5, y6, y7, y8, y9⟩ := h.2.2.2.2 g hg
  obtain ⟨z1, z2, z3, z4, z5, z6, z7, z8, z9⟩ := h.2.2.2.2 g' hg'
  have f1 := (ht.2.2.2.1 g hg).1
  have f2 := (ht.2.2.2.1 g' hg').1
  unfold f_X0_areAlike
  rw [nz_nat (show g < 2147483648 by omega), nz_nat (show g' < 2147483648 by omega), y1, z1, y7, z7]
  by_cases hF : qF G g = qF G g'
  · rw [if_pos (by rw [hF])]
    by_cases s1 : qS G g = 1
    · rw [if_pos ((stW_115 y6).mpr s1)]
    · rw [if_neg (fun w => s1 ((stW_115 y6).mp w))]
      by_cases s2 : qS G g' = 1
      · rw [if_pos ((stW_115 z6).mpr s2)]
      · rw [if_neg (fun w => s2 ((stW_115 z6).mp w))]
        rcases ht.2.2.2.2.1 g g' hg hg' hF s2 with q | ⟨k, p, q, q1, q2, q3⟩ | q
        · omega
        · have hk : k < 4 := by
            have hl := (court_pats h ht hg).1
            rcases Nat.lt_or_ge k (qP G g).length with w | w
            · omega
            · rw [List.getElem?_eq_none w] at q1; cases q1
          exact alike_loop h.1 (court_pats h ht hg) (court_pats h ht hg') (by omega) (by omega) q1 q2 q3 k 100000 0 (by omega) (by omega)
        · exact absurd q.1 s1
  · rw [if_neg (nz_ne (by omega) (by omega) hF)]
theorem two_loop {K : Rows} {n : Nat} {S : SS} {D : DS} {P : PS} {A : SG} {B : FG} {G : GG} (h : CourtC K n S D P A B G) (ht : CourtT A B G) : ∀ fu : Nat,
    (∀ (i : Nat) (x : Int32), i ≤ qN G → (40 - i) * 42 + 1 < fu → f_X0_twoAreAlike_L fu 0 K D P (nz i) x = some 0) ∧
    (∀ (i j : Nat), i < qN G → i < j → j ≤ qN G → (40 - j) + 1 + (39 - i) * 42 + 1 < fu → f_X0_twoAreAlike_L fu 1 K D P (nz i) (nz j) = some 0) := by
  have h40 := ht.2.2.1
  have hD2 := h.2.2.2.1
  intro fu
  induction fu with
  | zero => exact ⟨fun i x _ h => absurd h (by omega), fun i j _ _ _ h => absurd h (by omega)⟩
  | succ fu ih =>
    obtain ⟨ih0, ih1⟩ := ih
    refine ⟨?_, ?_⟩
    · intro i x hi hf
      unfold f_X0_twoAreAlike_L
      rw [if_pos rfl, hD2]
      by_cases q : qN G ≤ i
      · rw [if_pos ((nz_le (by omega) (by omega)).mpr q)]
      · rw [if_neg (fun w => q ((nz_le (by omega) (by omega)).mp w)), show nz i + 1 = nz (i + 1) from nz_add i 1]
        exact ih1 i (i + 1) (by omega) (by omega) (by omega) (by omega)
    · intro i j hi hij hj hf
      unfold f_X0_twoAreAlike_L
      rw [if_neg (by decide), hD2]
      by_cases q : qN G ≤ j
      · rw [if_pos ((nz_le (by omega) (by omega)).mpr q), show nz i + 1 = nz (i + 1) from nz_add i 1]
        exact ih0 (i + 1) 0 (by omega) (by omega)
      · rw [if_neg (fun w => q ((nz_le (by omega) (by omega)).mp w)), goal_at hD2 h40 (by omega), if_pos hi, Option.bind_some, if_neg (nz_neg (by omega)), if_pos (gix_at hD2 h40 hi), goal_at hD2 h40 (by omega), if_pos (show j < qN G by omega), Option.bind_some, if_neg (nz_neg (by omega)), if_pos (gix_at hD2 h40 (by omega)), alike_no h ht hi (show j < qN G by omega) hij, Option.bind_some, if_pos rfl, show nz j + 1 = nz (j + 1) from nz_add j 1]
        exact ih1 i (j + 1) hi (by omega) (by omega) (by omega)
/-- what is accepted has no open goal -/
def AccOK (acc : Int32) (B : FG) (G : GG) : Prop := ∀ f, f < 8 → accB acc f = true → f < fFc B ∧ opn G f (qN G) = 0
theorem acc_open_no {K : Rows} {n : Nat} {S : SS} {D : DS} {P : PS} {A : SG} {B : FG} {G : GG} (h : CourtC K n S D P A B G) (ht : CourtT A B G) (ha : AccOK D.2.2 B G) : ∀ (k fu i : Nat), i + k = fFc B → k < fu → f_X0_anAcceptedOneIsOpen_L2 fu D P (nz i) = some 0 := by
  have h8 := ht.2.1.1
  have hD1 := h.2.2.1.1
  intro k
  induction k with
  | zero =>
    intro fu i hi hf
    obtain ⟨fu, rfl⟩ : ∃ e, fu = e + 1 := ⟨fu - 1, by omega⟩
    unfold f_X0_anAcceptedOneIsOpen_L2
    rw [hD1, if_pos ((nz_le (by omega) (by omega)).mpr (by omega))]
  | succ k ih =>
    intro fu i hi hf
    obtain ⟨fu, rfl⟩ : ∃ e, fu = e + 1 := ⟨fu - 1, by omega⟩
    unfold f_X0_anAcceptedOneIsOpen_L2
    rw [hD1, if_neg (fun w => absurd ((nz_le (by omega) (by omega)).mp w) (by omega)), hasAcc_at D (by omega), Option.bind_some, open_ok h ht (show i < 1000000 by omega), show nz i + 1 = nz (i + 1) from nz_add i 1]
    by_cases q : accB D.2.2 i = true
    · rw [if_pos q, if_neg (by decide), Option.bind_some, (ha i (by omega) q).2, if_pos (by decide)]
      exact ih fu (i + 1) (by omega) (by omega)
    · rw [if_neg q, if_pos rfl]
      exact ih fu (i + 1) (by omega) (by omega)
theorem sound_loop {n : Nat} {S : SS} {D : DS} {P : PS} {A : SG} {B : FG} {G : GG} (ht : CourtT A B G) (ha : AccOK D.2.2 B G) (hn : n + 8100 ≤ 32768) : ∀ (k fu i : Nat) (K : Rows) (F : FS) (U : US), i + k = qN G → k < fu → CourtC K n S D P A B G → ∃ K' F' U', f_X11_isSound_L2 fu K F U S D P (nz i) = some (1, K', F', U') := by
  have h40 := ht.2.2.1
  intro k
  induction k with
  | zero =>
    intro fu i K F U hi hf h
    obtain ⟨fu, rfl⟩ : ∃ e, fu = e + 1 := ⟨fu - 1, by omega⟩
    have hD2 := h.2.2.2.1
    have e1 : f_X0_anAcceptedOneIsOpen D P = some 0 := acc_open_no h ht ha (fFc B) 100000 0 (by omega) (by have := ht.2.1.1; omega)
    have e2 : f_X0_twoAreAlike K D P = some 0 := (two_loop h ht 100000).1 0 0 (by omega) (by omega)
    unfold f_X11_isSound_L2
    rw [hD2, if_pos ((nz_le (by omega) (by omega)).mpr (by omega)), e1, Option.bind_some, if_pos rfl, e2, Option.bind_some, if_pos rfl]
    exact ⟨K, F, U, rfl⟩
  | succ k ih =>
    intro fu i K F U hi hf h
    obtain ⟨fu, rfl⟩ : ∃ e, fu = e + 1 := ⟨fu - 1, by omega⟩
    have hD2 := h.2.2.2.1
    have hil : i < qN G := by omega
    obtain ⟨y1, ⟨jt, y2, y2'⟩, y3, y4, y5, y6, y7, y8, y9⟩ := h.2.2.2.2 i hil
    have hgo := ht.2.2.2.1 i hil
    unfold f_X11_isSound_L2
    rw [hD2, if_neg (fun w => absurd ((nz_le (by omega) (by omega)).mp w) (by omega)), goal_at hD2 h40 (by omega), if_pos hil, Option.bind_some, if_neg (nz_neg (by omega)), if_pos (gix_at hD2 h40 hil), nz_nat (show i < 2147483648 by omega), y7, show nz i + 1 = nz (i + 1) from nz_add i 1]
    by_cases s2 : qS G i = 2
    · obtain ⟨j, j1, j2⟩ := y8 s2
      obtain ⟨f1, f2, f3⟩ := hgo.2.2.2.2.2.2.2.1 s2
      obtain ⟨K', F', U', r, e1, e2, e3, e4, e5⟩ := fits_ok (ask_goal h ht hil j2 f2 f3 hn) y3 (show i < 2147483648 by omega) y2' F U
      rw [if_pos ((stW_102 y6).mpr s2), j1, y2, e1, Option.bind_some, e4 f1, if_neg (show ¬ ((1, K', F', U') : Int32 × TS × FS × US).1 = 0 from (by decide : ¬ (1 : Int32) = 0))]
      exact ih fu (i + 1) K' F' U' (by omega) (by omega) (CourtC_ext h e2 e3 (Nat.le_refl n))
    · rw [if_neg (fun w => s2 ((stW_102 y6).mp w))]
      exact ih fu (i + 1) K F U (by omega) (by omega) h
theorem X_isSound {K : Rows} {n : Nat} {S : SS} {D : DS} {P : PS} {A : SG} {B : FG} {G : GG} (h : CourtC K n S D P A B G) (ht : CourtT A B G) (ha : AccOK D.2.2 B G) (hn : n + 8100 ≤ 32768) (F : FS) (U : US) : ∃ K' F' U', f_X11_isSound K F U S D P = some (1, K', F', U') :=
  sound_loop ht ha hn (qN G) 100000 0 K F U (by omega) (by have := ht.2.2.1; omega) h
