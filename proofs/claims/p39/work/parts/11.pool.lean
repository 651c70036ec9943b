/-! worlds with a tail: cells that are named, and a list P of cells behind them, of any length -/
theorem va_Dapp {A : Nat → Prop} {u v : va_W} (hu : va_D A u) (hv : va_D A v) (h : ∀ (p q : Nat × va_E), p ∈ u → q ∈ v → p.1 ≠ q.1) : va_D A (u ++ v) := by
  refine ⟨fun i j p q hp hq he => ?_, fun k q hk => ?_⟩
  · by_cases hi : i < u.length
    · rw [List.getElem?_append_left hi] at hp
      by_cases hj : j < u.length
      · rw [List.getElem?_append_left hj] at hq
        exact hu.1 i j p q hp hq he
      · rw [List.getElem?_append_right (Nat.le_of_not_lt hj)] at hq
        exact absurd he (h p q (List.mem_of_getElem? hp) (List.mem_of_getElem? hq))
    · rw [List.getElem?_append_right (Nat.le_of_not_lt hi)] at hp
      by_cases hj : j < u.length
      · rw [List.getElem?_append_left hj] at hq
        exact absurd he.symm (h q p (List.mem_of_getElem? hq) (List.mem_of_getElem? hp))
      · rw [List.getElem?_append_right (Nat.le_of_not_lt hj)] at hq
        have := hv.1 _ _ p q hp hq he
        omega
  · by_cases hi : k < u.length
    · rw [List.getElem?_append_left hi] at hk
      exact hu.2 k q hk
    · rw [List.getElem?_append_right (Nat.le_of_not_lt hi)] at hk
      exact hv.2 _ q hk
theorem va_Pleft {D : va_G} {cl : List vw_C} {u v : va_W} {H : Heap} (h : va_P D cl (u ++ v) H) : va_P D cl u H := fun k q hk => h k q (by rw [List.getElem?_append_left (List.getElem?_eq_some_iff.mp hk).1]; exact hk)
theorem va_Pright {D : va_G} {cl : List vw_C} {u v : va_W} {H : Heap} (h : va_P D cl (u ++ v) H) : va_P D cl v H := fun k q hk => h (u.length + k) q (by rw [List.getElem?_append_right (Nat.le_add_right _ _), Nat.add_sub_cancel_left]; exact hk)
theorem va_Dleft {A : Nat → Prop} {u v : va_W} (h : va_D A (u ++ v)) : va_D A u := ⟨fun i j p q hp hq he => h.1 i j p q (by rw [List.getElem?_append_left (List.getElem?_eq_some_iff.mp hp).1]; exact hp) (by rw [List.getElem?_append_left (List.getElem?_eq_some_iff.mp hq).1]; exact hq) he, fun k q hk => h.2 k q (by rw [List.getElem?_append_left (List.getElem?_eq_some_iff.mp hk).1]; exact hk)⟩
theorem va_Dright {A : Nat → Prop} {u v : va_W} (h : va_D A (u ++ v)) : va_D A v := ⟨fun i j p q hp hq he => by
  have := h.1 (u.length + i) (u.length + j) p q (by rw [List.getElem?_append_right (Nat.le_add_right _ _), Nat.add_sub_cancel_left]; exact hp) (by rw [List.getElem?_append_right (Nat.le_add_right _ _), Nat.add_sub_cancel_left]; exact hq) he
  omega, fun k q hk => h.2 (u.length + k) q (by rw [List.getElem?_append_right (Nat.le_add_right _ _), Nat.add_sub_cancel_left]; exact hk)⟩
theorem va_Dcross {A : Nat → Prop} {u v : va_W} (h : va_D A (u ++ v)) {p q : Nat × va_E} (hp : p ∈ u) (hq : q ∈ v) : p.1 ≠ q.1 := by
  intro he
  obtain ⟨i, hi⟩ := List.mem_iff_getElem?.mp hp
  obtain ⟨j, hj⟩ := List.mem_iff_getElem?.mp hq
  have hl := (List.getElem?_eq_some_iff.mp hi).1
  have := h.1 i (u.length + j) p q (by rw [List.getElem?_append_left hl]; exact hi) (by rw [List.getElem?_append_right (Nat.le_add_right _ _), Nat.add_sub_cancel_left]; exact hj) he
  omega
theorem va_pickmem {W1 wc : va_W} {is : List Nat} (h : is.map (fun i => W1[i]?) = wc.map some) {q : Nat × va_E} (hq : q ∈ wc) : q ∈ W1 := by
  have h1 : some q ∈ is.map (fun i => W1[i]?) := by rw [h]; exact List.mem_map.mpr ⟨q, hq, rfl⟩
  obtain ⟨i, -, hi⟩ := List.mem_map.mp h1
  exact List.mem_of_getElem? hi
/-- behind a call: the caller's other named cells, the callee's world, and the tail as it was -/
theorem va_joinT {A0 : Nat → Prop} {D : va_G} {cl : List vw_C} {W1 wc wr w1 P : va_W} {H H1 : Heap} (hP : va_P D cl (W1 ++ P) H) (hD : va_D A0 (W1 ++ P)) (isC isR : List Nat) (hC : isC.map (fun i => W1[i]?) = wc.map some) (hR : isR.map (fun i => W1[i]?) = wr.map some) (hn : va_nd isR = true) (hdis : ∀ i ∈ isR, i ∉ isC)
    (hk : ∀ q : Nat, q < H.size → ¬ va_A wc H.size q → H1[q]? = H[q]?) (hF : ∀ q, va_A wc H.size q → A0 q) (hP1 : va_P D cl w1 H1) (hD1 : va_D (va_A wc H.size) w1) : va_P D cl ((wr ++ w1) ++ P) H1 ∧ va_D A0 ((wr ++ w1) ++ P) := by
  obtain ⟨a, b⟩ := va_join (va_Pleft hP) (va_Dleft hD) isC isR hC hR hn hdis hk hF hP1 hD1
  have hPP := va_Pright hP
  have hnot : ∀ q : Nat × va_E, q ∈ P → q.1 < H.size ∧ ¬ va_A wc H.size q.1 := by
    intro q hq
    obtain ⟨k, hk1⟩ := List.mem_iff_getElem?.mp hq
    have hl := (hPP k q hk1).lt
    refine ⟨hl, fun hz => ?_⟩
    rcases hz with ⟨j, e, hj⟩ | hz
    · exact va_Dcross hD (va_pickmem hC (List.mem_of_getElem? hj)) hq rfl
    · omega
  refine ⟨a.app (fun k q hk1 => ?_), va_Dapp b (va_Dright hD) (fun p q hp hq he => ?_)⟩
  · obtain ⟨g1, g2⟩ := hnot q (List.mem_of_getElem? hk1)
    exact (hPP k q hk1).kept (hk q.1 g1 g2)
  · rcases List.mem_append.mp hp with h1 | h1
    · exact va_Dcross hD (va_pickmem hR h1) hq he
    · obtain ⟨k, hk1⟩ := List.mem_iff_getElem?.mp h1
      obtain ⟨g1, g2⟩ := hnot q hq
      exact g2 (by rw [← he]; exact hD1.2 k p hk1)
/-- the order of a world's cells says nothing -/
theorem va_Pmem {D : va_G} {cl : List vw_C} {u v : va_W} {H : Heap} (h : va_P D cl u H) (hm : ∀ q ∈ v, q ∈ u) : va_P D cl v H := fun k q hk => by
  obtain ⟨j, hj⟩ := List.mem_iff_getElem?.mp (hm q (List.mem_of_getElem? hk))
  exact h j q hj
theorem va_Dnd {A : Nat → Prop} {w : va_W} (hw : va_D A w) : (w.map Prod.fst).Pairwise (fun a b => a ≠ b) := by
  rw [List.pairwise_iff_getElem]
  intro i j hi hj hij he
  rw [List.getElem_map, List.getElem_map] at he
  rw [List.length_map] at hi hj
  have := hw.1 i j _ _ (List.getElem?_eq_getElem hi) (List.getElem?_eq_getElem hj) he
  omega
theorem va_Dperm {A : Nat → Prop} {u v : va_W} (h : va_D A u) (hp : u.Perm v) : va_D A v := by
  have hv : (v.map Prod.fst).Pairwise (fun a b => a ≠ b) := ((hp.map Prod.fst).pairwise_iff (fun h => Ne.symm h)).mp (va_Dnd h)
  rw [List.pairwise_iff_getElem] at hv
  refine ⟨fun i j p q hi hj he => ?_, fun k q hk => ?_⟩
  · obtain ⟨hi2, hi3⟩ := List.getElem?_eq_some_iff.mp hi
    obtain ⟨hj2, hj3⟩ := List.getElem?_eq_some_iff.mp hj
    rcases Nat.lt_trichotomy i j with hl | hl | hl
    · exact absurd (by rw [List.getElem_map, List.getElem_map, hi3, hj3]; exact he) (hv i j (by rw [List.length_map]; exact hi2) (by rw [List.length_map]; exact hj2) hl)
    · exact hl
    · exact absurd (by rw [List.getElem_map, List.getElem_map, hi3, hj3]; exact he.symm) (hv j i (by rw [List.length_map]; exact hj2) (by rw [List.length_map]; exact hi2) hl)
  · obtain ⟨j, hj⟩ := List.mem_iff_getElem?.mp (hp.mem_iff.mpr (List.mem_of_getElem? hk))
    exact h.2 j q hj
