/-! graphs: what is reckoned with them comes to an answer -/
theorem add_loop {m : Nat} (hm : m ≤ 200) (gt : Int32) (gf : Nat → Int32) (v : Int32) : ∀ (k fu i : Nat), i + k = m → k < fu → ∃ m' gt' gf', f_X4_add_L2 fu (nz m) gt gf v (nz i) = some (nz m', gt', gf') ∧ m' ≤ 200 := by
  intro k
  induction k with
  | zero =>
    intro fu i hi hf
    obtain ⟨fu, rfl⟩ : ∃ e, fu = e + 1 := ⟨fu - 1, by omega⟩
    unfold f_X4_add_L2
    rw [if_pos ((nz_le (by omega) (by omega)).mpr (by omega))]
    by_cases q : m < 200
    · rw [if_pos (show nz m < (200 : Int32) from (nz_lt (j := 200) (by omega) (by decide)).mpr q), if_pos (nz_inb q (by decide))]
      exact ⟨m + 1, gt, _, by rw [show nz m + 1 = nz (m + 1) from nz_add m 1], by omega⟩
    · rw [if_neg (show ¬ nz m < (200 : Int32) from fun w => q ((nz_lt (j := 200) (by omega) (by decide)).mp w))]
      exact ⟨m, 1, gf, rfl, hm⟩
  | succ k ih =>
    intro fu i hi hf
    obtain ⟨fu, rfl⟩ : ∃ e, fu = e + 1 := ⟨fu - 1, by omega⟩
    unfold f_X4_add_L2
    rw [if_neg (fun w => absurd ((nz_le (by omega) (by omega)).mp w) (by omega)), if_pos (nz_inb (by omega) (by decide)), show nz i + 1 = nz (i + 1) from nz_add i 1]
    split
    · exact ⟨m, gt, gf, rfl, hm⟩
    · exact ih fu (i + 1) (by omega) (by omega)
theorem add_ok {m : Nat} (hm : m ≤ 200) (gt : Int32) (gf : Nat → Int32) (v : Int32) : ∃ m' gt' gf', f_X4_add (nz m) gt gf v = some (nz m', gt', gf') ∧ m' ≤ 200 :=
  add_loop hm gt gf v m 100000 0 (by omega) (by omega)
theorem behind_loop {a : Nat} (ha : a ≤ 4) (v1 v2 : Int32) : ∀ fu : Nat,
    (∀ (i : Nat) (v3 x y : Int32), i ≤ a → (4 - i) * 26 + 1 < fu → ∃ r, f_X4_behind_L fu 0 (nz a) v1 v2 v3 (nz i) x y = some r) ∧
    (∀ (i j : Nat) (v3 y : Int32), i < a → j ≤ a → (4 - j) * 6 + 1 + (3 - i) * 26 + 1 < fu → ∃ r, f_X4_behind_L fu 1 (nz a) v1 v2 v3 (nz i) (nz j) y = some r) ∧
    (∀ (i j l : Nat) (v3 : Int32), i < a → j < a → l ≤ a → (4 - l) + 1 + (3 - j) * 6 + 1 + (3 - i) * 26 + 1 < fu → ∃ r, f_X4_behind_L fu 2 (nz a) v1 v2 v3 (nz i) (nz j) (nz l) = some r) := by
  intro fu
  induction fu with
  | zero => exact ⟨fun i v3 x y _ h => absurd h (by omega), fun i j v3 y _ _ h => absurd h (by omega), fun i j l v3 _ _ _ h => absurd h (by omega)⟩
  | succ fu ih =>
    obtain ⟨ih0, ih1, ih2⟩ := ih
    refine ⟨?_, ?_, ?_⟩
    · intro i v3 x y hi hf
      unfold f_X4_behind_L
      rw [if_pos rfl]
      by_cases q : a ≤ i
      · rw [if_pos ((nz_le (by omega) (by omega)).mpr q)]; exact ⟨_, rfl⟩
      · rw [if_neg (fun w => q ((nz_le (by omega) (by omega)).mp w))]
        exact ih1 i 0 v3 0 (by omega) (by omega) (by omega)
    · intro i j v3 y hi hj hf
      unfold f_X4_behind_L
      rw [if_neg (by decide), if_pos rfl]
      by_cases q : a ≤ j
      · rw [if_pos ((nz_le (by omega) (by omega)).mpr q), show nz i + 1 = nz (i + 1) from nz_add i 1]
        exact ih0 (i + 1) v3 0 0 (by omega) (by omega)
      · rw [if_neg (fun w => q ((nz_le (by omega) (by omega)).mp w))]
        exact ih2 i j 0 v3 hi (by omega) (by omega) (by omega)
    · intro i j l v3 hi hj hl hf
      unfold f_X4_behind_L
      rw [if_neg (by decide), if_neg (by decide)]
      by_cases q : a ≤ l
      · rw [if_pos ((nz_le (by omega) (by omega)).mpr q), show nz j + 1 = nz (j + 1) from nz_add j 1]
        exact ih1 i (j + 1) v3 0 hi (by omega) (by omega)
      · rw [if_neg (fun w => q ((nz_le (by omega) (by omega)).mp w)), Option.bind_some, Option.bind_some, show nz l + 1 = nz (l + 1) from nz_add l 1]
        split
        · exact ih2 i j (l + 1) v3 hi hj (by omega) (by omega)
        · rw [Option.bind_some, Option.bind_some]
          exact ih2 i j (l + 1) _ hi hj (by omega) (by omega)
theorem behind_ok {a : Nat} (ha : a ≤ 4) (v1 v2 : Int32) : ∃ r, f_X4_behind (nz a) v1 v2 = some r := (behind_loop ha v1 v2 100000).1 0 0 0 0 (Nat.zero_le a) (by omega)
theorem less_loop {a : Nat} (ha : a ≤ 4) (v : Int32) : ∀ (k fu i : Nat), i + k = a → k < fu → ∃ r, f_X4_hasLess_L2 fu (nz a) v (nz i) = some r ∧ (r = 0 ∨ r = 1) := by
  intro k
  induction k with
  | zero =>
    intro fu i hi hf
    obtain ⟨fu, rfl⟩ : ∃ e, fu = e + 1 := ⟨fu - 1, by omega⟩
    unfold f_X4_hasLess_L2
    rw [if_pos ((nz_le (by omega) (by omega)).mpr (by omega))]
    exact ⟨0, rfl, Or.inl rfl⟩
  | succ k ih =>
    intro fu i hi hf
    obtain ⟨fu, rfl⟩ : ∃ e, fu = e + 1 := ⟨fu - 1, by omega⟩
    unfold f_X4_hasLess_L2
    rw [if_neg (fun w => absurd ((nz_le (by omega) (by omega)).mp w) (by omega)), show nz i + 1 = nz (i + 1) from nz_add i 1]
    split
    · exact ih fu (i + 1) (by omega) (by omega)
    · exact ⟨1, rfl, Or.inr rfl⟩
theorem less_ok {a : Nat} (ha : a ≤ 4) (v : Int32) : ∃ r, f_X4_hasLess (nz a) v = some r ∧ (r = 0 ∨ r = 1) := less_loop ha v a 100000 0 (by omega) (by omega)
def EndO (o : Option (Int32 × Int32 × Int32 × Int32 × (Nat → Int32))) (a : Nat) : Prop := ∃ b m' gt' gf', o = some (b, nz a, nz m', gt', gf') ∧ m' ≤ 200 ∧ (b = 0 ∨ b = 1)
theorem come_loop {a c : Nat} (ha : a ≤ 4) (hc : c ≤ 200) : ∀ fu : Nat,
    (∀ (m i : Nat) (gt x : Int32) (gf : Nat → Int32), m ≤ 200 → i ≤ 200 → (200 - i) * 203 + 204 < fu → EndO (f_X4_comeToAnEnd_L fu 0 (nz a) (nz m) gt gf (nz c) (nz i) x) a) ∧
    (∀ (m i j : Nat) (gt : Int32) (gf : Nat → Int32), m ≤ 200 → i < 200 → j ≤ c → (200 - j) + 1 + (199 - i) * 203 + 204 < fu → EndO (f_X4_comeToAnEnd_L fu 1 (nz a) (nz m) gt gf (nz c) (nz i) (nz j)) a) ∧
    (∀ (m i : Nat) (gt v1 v3 : Int32) (gf : Nat → Int32), m ≤ 200 → i ≤ 200 → (200 - i) + 1 < fu → EndO (f_X4_comeToAnEnd_L fu 2 (nz a) (nz m) gt gf v1 (nz i) v3) a) := by
  intro fu
  induction fu with
  | zero => exact ⟨fun m i gt x gf _ _ h => absurd h (by omega), fun m i j gt gf _ _ _ h => absurd h (by omega), fun m i gt x y gf _ _ h => absurd h (by omega)⟩
  | succ fu ih =>
    obtain ⟨ih0, ih1, ih2⟩ := ih
    refine ⟨?_, ?_, ?_⟩
    · intro m i gt x gf hm hi hf
      unfold f_X4_comeToAnEnd_L
      rw [if_pos rfl]
      by_cases q : 200 ≤ i
      · rw [if_pos (show (200 : Int32) ≤ nz i from (nz_le (i := 200) (by decide) (by omega)).mpr q)]
        exact ih2 m 0 gt 0 0 gf hm (by omega) (by omega)
      · rw [if_neg (show ¬ (200 : Int32) ≤ nz i from fun w => q ((nz_le (i := 200) (by decide) (by omega)).mp w))]
        split
        · exact ih2 m 0 gt 0 0 gf hm (by omega) (by omega)
        · split
          · exact ih1 m i 0 gt gf hm (by omega) (by omega) (by omega)
          · exact ih2 m 0 gt 0 0 gf hm (by omega) (by omega)
    · intro m i j gt gf hm hi hj hf
      unfold f_X4_comeToAnEnd_L
      rw [if_neg (by decide), if_pos rfl, show nz i + 1 = nz (i + 1) from nz_add i 1, show nz j + 1 = nz (j + 1) from nz_add j 1]
      by_cases q : c ≤ j
      · rw [if_pos ((nz_le (by omega) (by omega)).mpr q)]
        exact ih0 m (i + 1) gt 0 gf hm (by omega) (by omega)
      · rw [if_neg (fun w => q ((nz_le (by omega) (by omega)).mp w))]
        split
        · rw [if_pos (nz_inb hi (by decide)), if_pos (nz_inb (by omega) (by decide))]
          obtain ⟨r, hr⟩ := behind_ok ha (gf (Int32.toNatClampNeg (nz i))) (gf (Int32.toNatClampNeg (nz j)))
          obtain ⟨m', gt', gf', h1, h2⟩ := add_ok hm gt gf r
          rw [hr, Option.bind_some, h1, Option.bind_some]
          exact ih1 m' i (j + 1) gt' gf' h2 hi (by omega) (by omega)
        · exact ih0 m (i + 1) gt 0 gf hm (by omega) (by omega)
    · intro m i gt v1 v3 gf hm hi hf
      have fin : EndO (if gt = 0 then some (1, nz a, nz m, gt, gf) else some (0, nz a, nz m, gt, gf)) a := by
        split
        · exact ⟨1, m, gt, gf, rfl, hm, Or.inr rfl⟩
        · exact ⟨0, m, gt, gf, rfl, hm, Or.inl rfl⟩
      unfold f_X4_comeToAnEnd_L
      rw [if_neg (by decide), if_neg (by decide), show nz i + 1 = nz (i + 1) from nz_add i 1]
      by_cases q : m ≤ i
      · rw [if_pos ((nz_le (by omega) (by omega)).mpr q)]
        exact fin
      · rw [if_neg (fun w => q ((nz_le (by omega) (by omega)).mp w))]
        by_cases hg : gt = 0
        · obtain ⟨r, hr⟩ := behind_ok ha (gf (Int32.toNatClampNeg (nz i))) (gf (Int32.toNatClampNeg (nz i)))
          obtain ⟨s, hs, hs2⟩ := less_ok ha (gf (Int32.toNatClampNeg (nz i)))
          have hin : inb (nz i) 200 = true := nz_inb (by omega) (by decide)
          rw [if_pos hg, if_pos hin, if_pos hin, hr, Option.bind_some, if_pos hin]
          split
          · rw [hs, Option.bind_some]
            split
            · exact ⟨0, m, gt, gf, rfl, hm, Or.inl rfl⟩
            · exact ih2 m (i + 1) gt 0 0 gf hm (by omega) (by omega)
          · exact ih2 m (i + 1) gt 0 0 gf hm (by omega) (by omega)
        · rw [if_neg hg]
          exact fin
theorem come_ok {a m : Nat} (ha : a ≤ 4) (hm : m ≤ 200) (gt : Int32) (gf : Nat → Int32) : EndO (f_X4_comeToAnEnd (nz a) (nz m) gt gf) a := (come_loop ha hm 100000).1 m 0 gt 0 gf hm (by omega) (by omega)
