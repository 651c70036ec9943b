/-! a new pair is the pair of the trees -/
def mkT : Nat → Tm → Tm → Tm
  | 5, a, b => .add a b
  | 6, a, b => .sub a b
  | _, a, b => .mul a b
theorem Rep_calls_loose {K : Rows} {n i : Nat} {t : Tm} (h : Rep K n t i) : K.2.2.2.2.1 i = nz (sizeT t) ∧ K.2.2.2.2.2.1 i = numT t ∧ K.2.2.2.2.2.2.1 i = nz (freeT t) ∧ K.2.2.2.2.2.2.2.1 i = callsT t ∧ K.2.2.2.2.2.2.2.2 i = (if looseT t = true then 1 else 0) := by
  cases t <;> first | exact h.elim | exact h.2.2.2.2 | exact h.2.2.2.2.2 | exact h.2.2.1.2
theorem Rep_isL {K : Rows} {n i : Nat} {t : Tm} (h : Rep K n t i) : K.2.1 i = 6 ↔ isL t = true := by
  have w : ∀ k, k < 8 → k ≠ 6 → (nz k = 6 ↔ False) := fun k hk hne => ⟨fun hq => hne ((nz_inj (by omega) (by decide)).mp (show nz k = nz 6 from hq)), False.elim⟩
  cases t with
  | index k => rw [show K.2.1 i = nz 1 from h.2.2.2.1, w 1 (by decide) (by decide)]; exact ⟨False.elim, fun h => by cases h⟩
  | arg m => rw [show K.2.1 i = nz (m % 8) from h.2.2.2.2.1, w (m % 8) (by omega) (by have := h.2.2.1; omega)]; exact ⟨False.elim, fun h => by cases h⟩
  | add a b => rw [show K.2.1 i = nz 5 from h.2.2.1.1, w 5 (by decide) (by decide)]; exact ⟨False.elim, fun h => by cases h⟩
  | sub a b => rw [show K.2.1 i = nz 6 from h.2.2.1.1]; exact ⟨fun _ => rfl, fun _ => rfl⟩
  | mul a b => rw [show K.2.1 i = nz 7 from h.2.2.1.1, w 7 (by decide) (by decide)]; exact ⟨False.elim, fun h => by cases h⟩
  | _ => exact h.elim
theorem maxW_nz {x y : Nat} (hx : x < 2147483648) (hy : y < 2147483648) : maxW (nz x) (nz y) = nz (max x y) := by
  unfold maxW
  by_cases h : x < y
  · rw [if_pos ((nz_lt hx hy).mpr h), Nat.max_eq_right (Nat.le_of_lt h)]
  · rw [if_neg (fun hq => h ((nz_lt hx hy).mp hq)), Nat.max_eq_left (Nat.le_of_not_lt h)]
theorem maxW_pred {x y : Nat} (hx : x < 2147483648) (hy : y < 2147483648) : maxW (nz x) (nz y - 1) = nz (max x (y - 1)) := by
  cases y with
  | zero =>
    unfold maxW
    have e : (nz 0 - 1).toInt = -1 := by decide
    rw [if_neg ?_]
    · congr 1; omega
    · intro hq
      rw [Int32.lt_iff_toInt_lt, e, nz_toInt hx] at hq
      omega
  | succ y =>
    have e : nz (y + 1) - 1 = nz y := by
      rw [← nz_add y 1]
      exact Int32.add_sub_cancel _ _
    rw [e]
    exact maxW_nz hx (by omega)
theorem pair_tree {K : Rows} {n k i j : Nat} {a b : Tm} (hw : WF K n) (h1 : n < 32768) (hk5 : 5 ≤ k) (hk : k < 8) (ha : Rep K n a i) (hb : Rep K n b j) (hs : sizeT a + sizeT b < 200) :
    ∃ K', rPair K (nz k) (nz i) (nz j) = some (nz n, K') ∧ WF K' (n + 1) ∧ Ext K K' n ∧ Rep K' (n + 1) (mkT k a b) n := by
  obtain ⟨a1, a2, a3, a4, a5⟩ := Rep_calls_loose ha
  obtain ⟨b1, b2, b3, b4, b5⟩ := Rep_calls_loose hb
  have hfa := Rep_free a i ha
  have hfb := Rep_free b j hb
  have hi := Rep_lt ha
  have hj := Rep_lt hb
  have e := rPair_yes hw.1 h1 hk5 hk hi hj (by
    rw [a1, b1, nz_add]
    exact (nz_lt (by omega) (by decide)).mpr hs)
  have s1 : (1 + K.2.2.2.2.1 i) + K.2.2.2.2.1 j = nz (1 + sizeT a + sizeT b) := by
    rw [a1, b1]
    show nz 1 + _ + _ = _
    rw [nz_add, nz_add]
  have s2 : ∀ P : Prop, [Decidable P] → (P ↔ isL a = true) → ∀ (c : Bool), (if K.2.2.2.2.2.2.2.2 i = 0 ∧ K.2.2.2.2.2.2.2.2 j = 0 ∧ (c = true → ¬ K.2.1 i = 6) then (0 : Int32) else 1) = (if (looseT a || looseT b || (c && isL a)) = true then 1 else 0) := by
    intro P _ _ c
    have hL := Rep_isL ha
    rw [a5, b5]
    cases c <;> cases h2 : looseT a <;> cases h3 : looseT b <;> cases h4 : isL a <;> simp_all
  obtain rfl | rfl | rfl : k = 5 ∨ k = 6 ∨ k = 7 := by omega
  · have ht : Rep (pairRow K n 5 i j) (n + 1) (.add a b) n := by
      refine ⟨Nat.lt_succ_self n, hs, ⟨if_pos rfl, (if_pos rfl).trans s1, (if_pos rfl).trans ?_, (if_pos rfl).trans ?_, (if_pos rfl).trans ?_, (if_pos rfl).trans ?_⟩, i, j, hi, hj, if_pos rfl, if_pos rfl, Rep_ext (Ext_add K n _ _ _ _ _ _ _ _) (Nat.le_succ n) a i ha, Rep_ext (Ext_add K n _ _ _ _ _ _ _ _) (Nat.le_succ n) b j hb⟩
      · rw [a2, b2]; rfl
      · rw [a3, b3]; exact maxW_pred (by omega) (by omega)
      · rw [a4, b4]; rfl
      · have := s2 (isL a = true) Iff.rfl false
        simpa [looseT] using this
    exact ⟨_, e, WF_add hw h1 ht, Ext_add K n _ _ _ _ _ _ _ _, ht⟩
  · have ht : Rep (pairRow K n 6 i j) (n + 1) (.sub a b) n := by
      refine ⟨Nat.lt_succ_self n, hs, ⟨if_pos rfl, (if_pos rfl).trans s1, (if_pos rfl).trans ?_, (if_pos rfl).trans ?_, (if_pos rfl).trans ?_, (if_pos rfl).trans ?_⟩, i, j, hi, hj, if_pos rfl, if_pos rfl, Rep_ext (Ext_add K n _ _ _ _ _ _ _ _) (Nat.le_succ n) a i ha, Rep_ext (Ext_add K n _ _ _ _ _ _ _ _) (Nat.le_succ n) b j hb⟩
      · rw [a2, b2]; rfl
      · rw [a3, b3]; exact maxW_pred (by omega) (by omega)
      · rw [a4, b4]; rfl
      · have := s2 (isL a = true) Iff.rfl false
        simpa [looseT] using this
    exact ⟨_, e, WF_add hw h1 ht, Ext_add K n _ _ _ _ _ _ _ _, ht⟩
  · have ht : Rep (pairRow K n 7 i j) (n + 1) (.mul a b) n := by
      refine ⟨Nat.lt_succ_self n, hs, ⟨if_pos rfl, (if_pos rfl).trans s1, (if_pos rfl).trans ?_, (if_pos rfl).trans ?_, (if_pos rfl).trans ?_, (if_pos rfl).trans ?_⟩, i, j, hi, hj, if_pos rfl, if_pos rfl, Rep_ext (Ext_add K n _ _ _ _ _ _ _ _) (Nat.le_succ n) a i ha, Rep_ext (Ext_add K n _ _ _ _ _ _ _ _) (Nat.le_succ n) b j hb⟩
      · rw [a2, b2]; rfl
      · rw [a3, b3]; exact maxW_nz (by omega) (by omega)
      · rw [a4, b4]; rfl
      · have := s2 (isL a = true) Iff.rfl true
        simpa [looseT] using this
    exact ⟨_, e, WF_add hw h1 ht, Ext_add K n _ _ _ _ _ _ _ _, ht⟩
