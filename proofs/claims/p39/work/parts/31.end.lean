theorem lt_of {w : Cond} (i : Nat) (h : tables_1[i]? = some w) : w ∈ lw_tbl := List.mem_append_right _ (List.mem_of_getElem? h)
theorem known_all {s : State} {cl : List vw_C} (h : ∀ (k : Nat) (q : vw_C), cl[k]? = some q → ∃ (c : ClassId) (i : Nat → Nat), u_Kn s q.1 q.2.1 q.2.2 c i) : ∃ (dC : Nat → ClassId) (dI : Nat → Nat → Nat), ∀ (k : Nat) (q : vw_C), cl[k]? = some q → u_Kn s q.1 q.2.1 q.2.2 (dC k) (dI k) := by
  have h2 : ∀ k : Nat, ∃ (c : ClassId) (i : Nat → Nat), ∀ q : vw_C, cl[k]? = some q → u_Kn s q.1 q.2.1 q.2.2 c i := by
    intro k
    by_cases hk : ∃ q, cl[k]? = some q
    · obtain ⟨q, hq⟩ := hk
      obtain ⟨c, i, hc⟩ := h k q hq
      exact ⟨c, i, fun q2 hq2 => by rw [hq] at hq2; cases hq2; exact hc⟩
    · exact ⟨0, fun _ => 0, fun q hq => absurd ⟨q, hq⟩ hk⟩
  exact ⟨fun k => (h2 k).choose, fun k => (h2 k).choose_spec.choose, fun k q hq => (h2 k).choose_spec.choose_spec q hq⟩
theorem arr_prim {s : State} {args : Array Value} {ty : FieldType} (h : (Cond.arrayClass ty).before args s = true) (hty : ty = .int ∨ ty = .boolean ∨ ty = .long ∨ ty = .double) : ∃ cA : ClassId, ArrOfT s cA ty ∧ va_RA s cA ty := by
  obtain ⟨cA, k, comp, h1, h2, h3⟩ := Cond.arrayClass_spec (h : (Cond.arrayClass ty).holds args s none s [] = true)
  refine ⟨cA, fun n z => ⟨fun k h => (by cases h), k, h2, comp, h3⟩, ?_⟩
  rcases hty with rfl | rfl | rfl | rfl <;> exact h1
theorem arr_obj {s : State} {C : String} (h : va_AO C s) : ∃ cA : ClassId, ArrOfT s cA (.object C) ∧ va_RA s cA (.object C) := by
  obtain ⟨comp, cA, k, h1, h2, h3, h4, h5⟩ := Cond.arrayOver_spec h
  exact ⟨cA, fun n z => ⟨fun k h => (by cases h), k, h3, comp, h4⟩, k, comp, h3, h4, h1, h5⟩
theorem str_of {s : State} {args : Array Value} {own tx : String} {k : Nat} (h1 : (Cond.stringRef own k tx).before args s = true) (h2 : (Cond.exactly (.string own k) "java/lang/String").before args s = true) : ∃ sa, vk_R own k tx sa s := by
  obtain ⟨a, c, cell, kk, e1, -⟩ := Cond.exactly_spec (h2 : (Cond.exactly (.string own k) "java/lang/String").holds args s none s [] = true)
  exact ⟨a, vk_R.of h1 e1⟩
theorem kn_all {s : State} {args : Array Value} (hts : ∀ w ∈ W0, w.before args s = true) : ∃ (dC : Nat → ClassId) (dI : Nat → Nat → Nat), ∀ (k : Nat) (q : vw_C), clP3[k]? = some q → u_Kn s q.1 q.2.1 q.2.2 (dC k) (dI k) := by
  refine known_all (fun k q hq => ?_)
  match k, hq with
  | 0, hq => cases hq; exact u_known hts inW_X0 (hts _ wm130)
  | 1, hq => cases hq; exact u_known hts inW_X1 (hts _ wm74)
  | 2, hq => cases hq; exact u_known hts inW_X2 (hts _ wm879)
  | 3, hq => cases hq; exact u_known hts inW_X3 (hts _ wm898)
  | 4, hq => cases hq; exact u_known hts inW_X4 (hts _ wm215)
  | 5, hq => cases hq; exact u_known hts inW_X5 (hts _ wm241)
  | 6, hq => cases hq; exact u_known hts inW_X7 (hts _ wm90)
  | 7, hq => cases hq; exact u_known hts inW_X8 (hts _ wm176)
  | 8, hq => cases hq; exact u_known hts inW_X9 (hts _ wm34)
  | 9, hq => cases hq; exact u_known hts inW_X10 (hts _ wm170)
  | 10, hq => cases hq; exact u_known hts inW_X11 (hts _ wm26)
  | k + 11, hq => simp [clP3] at hq
def ad37 (l : List Nat) : Nat → Nat := fun k => l.getD k 0
set_option maxHeartbeats 4000000 in
set_option maxRecDepth 100000 in
theorem whole_start {p : Program} {e : Env} {s : State} {m : MethodId} {below : List Frame} {meth : Method} {c : Code} (l : Launch) (hflags : l.flags = flags0) {b L : Nat} {xs : Nat → Int32} (hL : L ≤ 260) (C0 : lw_At p s m meth c b L xs) : W p l e room_1 s m #[Value.ref b] below meth c s.heap [] 0 0 (lw_Z below #[Value.ref b] s) (entryFrame m ([Value.ref b] : List Value).toArray 26) := by
  obtain ⟨hx, hb, hr, hml, hown, hts0, hX, hbl, hlocks, hgv⟩ := C0
  have hfl : l.stackTraces = false := by rw [Launch.stackTraces, hflags]; decide
  have hts : ∀ w ∈ W0, w.before #[Value.ref b] s = true := fun w h => hts0 w (List.mem_filter.mp h).1
  have hq := flat_of_before _ hgv
  have hA0 : ∀ a : Nat, a < s.heap.size → ¬ (fun q : Nat => s.heap.size ≤ q) a := fun a h => Nat.not_le.mpr h
  obtain ⟨dC, dI, hKc⟩ := kn_all hts
  obtain ⟨c_int, hA_int⟩ := arr_prim (hts _ wm71) (Or.inl rfl)
  obtain ⟨c_boolean, hA_boolean⟩ := arr_prim (hts _ wm72) (Or.inr (Or.inl rfl))
  have ho0 : va_AO "TelescopeCourt$Function" s := va_AO.of (hts0 _ (lt_of 136 (by decide +kernel)))
  obtain ⟨c_o0, hA_o0⟩ := arr_obj ho0
  have ho1 : va_AO "TelescopeCourt$Goal" s := va_AO.of (hts0 _ (lt_of 138 (by decide +kernel)))
  obtain ⟨c_o1, hA_o1⟩ := arr_obj ho1
  have hel0 : ∀ j : Nat, j < 5 → (Term.elem (.static "TelescopeCourt" "NUMBER_OF_LEAF" "[I") (.int (Int32.ofNat j))).eval #[Value.ref b] s none [] s = some (.int (sa_0 j)) := fun j hj => by
    rcases (show j = 0 ∨ j = 1 ∨ j = 2 ∨ j = 3 ∨ j = 4 by omega) with rfl | rfl | rfl | rfl | rfl
    · exact va_eqt (hq (.eq (.elem (.static "TelescopeCourt" "NUMBER_OF_LEAF" "[I") (.int 0)) (.int 3)) (by decide +kernel))
    · exact va_eqt (hq (.eq (.elem (.static "TelescopeCourt" "NUMBER_OF_LEAF" "[I") (.int 1)) (.int 11)) (by decide +kernel))
    · exact va_eqt (hq (.eq (.elem (.static "TelescopeCourt" "NUMBER_OF_LEAF" "[I") (.int 2)) (.int 101)) (by decide +kernel))
    · exact va_eqt (hq (.eq (.elem (.static "TelescopeCourt" "NUMBER_OF_LEAF" "[I") (.int 3)) (.int 201)) (by decide +kernel))
    · exact va_eqt (hq (.eq (.elem (.static "TelescopeCourt" "NUMBER_OF_LEAF" "[I") (.int 4)) (.int 301)) (by decide +kernel))
  obtain ⟨tL0, hvL0, hTL0⟩ := va_Tof (N := 5) (f := fun j => .int (sa_0 j)) (A := fun q : Nat => s.heap.size ≤ q) (by decide) (hq (.arrayOf (.static "TelescopeCourt" "NUMBER_OF_LEAF" "[I") .int) (by decide +kernel)) (va_eqt (hq (.eq (.length (.static "TelescopeCourt" "NUMBER_OF_LEAF" "[I")) (.int 5)) (by decide +kernel))) hel0 hA0
  have hel1 : ∀ j : Nat, j < 3 → (Term.elem (.static "TelescopeCourt" "FACTOR_OF_FIRST" "[I") (.int (Int32.ofNat j))).eval #[Value.ref b] s none [] s = some (.int (sa_1 j)) := fun j hj => by
    rcases (show j = 0 ∨ j = 1 ∨ j = 2 by omega) with rfl | rfl | rfl
    · exact va_eqt (hq (.eq (.elem (.static "TelescopeCourt" "FACTOR_OF_FIRST" "[I") (.int 0)) (.int 7)) (by decide +kernel))
    · exact va_eqt (hq (.eq (.elem (.static "TelescopeCourt" "FACTOR_OF_FIRST" "[I") (.int 1)) (.int 11)) (by decide +kernel))
    · exact va_eqt (hq (.eq (.elem (.static "TelescopeCourt" "FACTOR_OF_FIRST" "[I") (.int 2)) (.int 29)) (by decide +kernel))
  obtain ⟨tL1, hvL1, hTL1⟩ := va_Tof (N := 3) (f := fun j => .int (sa_1 j)) (A := fun q : Nat => s.heap.size ≤ q) (by decide) (hq (.arrayOf (.static "TelescopeCourt" "FACTOR_OF_FIRST" "[I") .int) (by decide +kernel)) (va_eqt (hq (.eq (.length (.static "TelescopeCourt" "FACTOR_OF_FIRST" "[I")) (.int 3)) (by decide +kernel))) hel1 hA0
  have hel2 : ∀ j : Nat, j < 3 → (Term.elem (.static "TelescopeCourt" "FACTOR_OF_SECOND" "[I") (.int (Int32.ofNat j))).eval #[Value.ref b] s none [] s = some (.int (sa_2 j)) := fun j hj => by
    rcases (show j = 0 ∨ j = 1 ∨ j = 2 by omega) with rfl | rfl | rfl
    · exact va_eqt (hq (.eq (.elem (.static "TelescopeCourt" "FACTOR_OF_SECOND" "[I") (.int 0)) (.int 13)) (by decide +kernel))
    · exact va_eqt (hq (.eq (.elem (.static "TelescopeCourt" "FACTOR_OF_SECOND" "[I") (.int 1)) (.int 19)) (by decide +kernel))
    · exact va_eqt (hq (.eq (.elem (.static "TelescopeCourt" "FACTOR_OF_SECOND" "[I") (.int 2)) (.int 31)) (by decide +kernel))
  obtain ⟨tL2, hvL2, hTL2⟩ := va_Tof (N := 3) (f := fun j => .int (sa_2 j)) (A := fun q : Nat => s.heap.size ≤ q) (by decide) (hq (.arrayOf (.static "TelescopeCourt" "FACTOR_OF_SECOND" "[I") .int) (by decide +kernel)) (va_eqt (hq (.eq (.length (.static "TelescopeCourt" "FACTOR_OF_SECOND" "[I")) (.int 3)) (by decide +kernel))) hel2 hA0
  have hel3 : ∀ j : Nat, j < 3 → (Term.elem (.static "TelescopeCourt" "ADDED_TO_PAIR" "[I") (.int (Int32.ofNat j))).eval #[Value.ref b] s none [] s = some (.int (sa_3 j)) := fun j hj => by
    rcases (show j = 0 ∨ j = 1 ∨ j = 2 by omega) with rfl | rfl | rfl
    · exact va_eqt (hq (.eq (.elem (.static "TelescopeCourt" "ADDED_TO_PAIR" "[I") (.int 0)) (.int 17)) (by decide +kernel))
    · exact va_eqt (hq (.eq (.elem (.static "TelescopeCourt" "ADDED_TO_PAIR" "[I") (.int 1)) (.int 23)) (by decide +kernel))
    · exact va_eqt (hq (.eq (.elem (.static "TelescopeCourt" "ADDED_TO_PAIR" "[I") (.int 2)) (.int 37)) (by decide +kernel))
  obtain ⟨tL3, hvL3, hTL3⟩ := va_Tof (N := 3) (f := fun j => .int (sa_3 j)) (A := fun q : Nat => s.heap.size ≤ q) (by decide) (hq (.arrayOf (.static "TelescopeCourt" "ADDED_TO_PAIR" "[I") .int) (by decide +kernel)) (va_eqt (hq (.eq (.length (.static "TelescopeCourt" "ADDED_TO_PAIR" "[I")) (.int 3)) (by decide +kernel))) hel3 hA0
  obtain ⟨G, hG⟩ : ∃ G : GC, G = ((dC, dI), (fun k => match k with | 0 => c_int | 1 => c_boolean | 2 => c_o0 | _ => c_o1)) := ⟨_, rfl⟩
  have hK : va_K (DG G) clP3 (TY G) s := by
    subst hG
    refine ⟨hKc, fun k q h => ?_⟩
    match k, h with
    | 0, h => cases h; exact hA_int
    | 1, h => cases h; exact hA_boolean
    | 2, h => cases h; exact hA_o0
    | 3, h => cases h; exact hA_o1
    | k + 4, h => simp at h
  have hs0 : ∃ sa, vk_R "TelescopeCourt" 342 "no such node" sa s := str_of (hts0 _ (lt_of 367 (by decide +kernel))) (hq (.exactly (.string "TelescopeCourt" 342) "java/lang/String") (by decide +kernel))
  have hs1 : ∃ sa, vk_R "TelescopeCourt" 347 "no such function" sa s := str_of (hts0 _ (lt_of 585 (by decide +kernel))) (hq (.exactly (.string "TelescopeCourt" 347) "java/lang/String") (by decide +kernel))
  have hs2 : ∃ sa, vk_R "TelescopeCourt" 72 "a level is 0 to 3" sa s := str_of (hts0 _ (lt_of 658 (by decide +kernel))) (hq (.exactly (.string "TelescopeCourt" 72) "java/lang/String") (by decide +kernel))
  have hs3 : ∃ sa, vk_R "TelescopeCourt" 333 "there are 250 nodes" sa s := str_of (hts0 _ (lt_of 678 (by decide +kernel))) (hq (.exactly (.string "TelescopeCourt" 333) "java/lang/String") (by decide +kernel))
  have hs4 : ∃ sa, vk_R "TelescopeCourt" 81 "an index is 0 to 15" sa s := str_of (hts0 _ (lt_of 695 (by decide +kernel))) (hq (.exactly (.string "TelescopeCourt" 81) "java/lang/String") (by decide +kernel))
  have hs5 : ∃ sa, vk_R "TelescopeCourt" 335 "there are 250 nodes, or this one would be too large" sa s := str_of (hts0 _ (lt_of 728 (by decide +kernel))) (hq (.exactly (.string "TelescopeCourt" 335) "java/lang/String") (by decide +kernel))
  have hs6 : ∃ sa, vk_R "TelescopeCourt" 93 "no such data type" sa s := str_of (hts0 _ (lt_of 757 (by decide +kernel))) (hq (.exactly (.string "TelescopeCourt" 93) "java/lang/String") (by decide +kernel))
  have hs7 : ∃ sa, vk_R "TelescopeCourt" 99 "no such constructor" sa s := str_of (hts0 _ (lt_of 767 (by decide +kernel))) (hq (.exactly (.string "TelescopeCourt" 99) "java/lang/String") (by decide +kernel))
  have hs8 : ∃ sa, vk_R "TelescopeCourt" 111 "there are 6 data types" sa s := str_of (hts0 _ (lt_of 782 (by decide +kernel))) (hq (.exactly (.string "TelescopeCourt" 111) "java/lang/String") (by decide +kernel))
  have hs9 : ∃ sa, vk_R "TelescopeCourt" 118 "a constructor takes 0 to 3 arguments" sa s := str_of (hts0 _ (lt_of 794 (by decide +kernel))) (hq (.exactly (.string "TelescopeCourt" 118) "java/lang/String") (by decide +kernel))
  have hs10 : ∃ sa, vk_R "TelescopeCourt" 129 "no more constructors for this data type" sa s := str_of (hts0 _ (lt_of 800 (by decide +kernel))) (hq (.exactly (.string "TelescopeCourt" 129) "java/lang/String") (by decide +kernel))
  have hs11 : ∃ sa, vk_R "TelescopeCourt" 355 "there is no such term" sa s := str_of (hts0 _ (lt_of 828 (by decide +kernel))) (hq (.exactly (.string "TelescopeCourt" 355) "java/lang/String") (by decide +kernel))
  have hs12 : ∃ sa, vk_R "TelescopeCourt" 160 "the term has no level" sa s := str_of (hts0 _ (lt_of 854 (by decide +kernel))) (hq (.exactly (.string "TelescopeCourt" 160) "java/lang/String") (by decide +kernel))
  have hs13 : ∃ sa, vk_R "TelescopeCourt" 176 "no function can be declared with this type" sa s := str_of (hts0 _ (lt_of 868 (by decide +kernel))) (hq (.exactly (.string "TelescopeCourt" 176) "java/lang/String") (by decide +kernel))
  have hs14 : ∃ sa, vk_R "TelescopeCourt" 184 "there are 8 functions or 40 goals" sa s := str_of (hts0 _ (lt_of 869 (by decide +kernel))) (hq (.exactly (.string "TelescopeCourt" 184) "java/lang/String") (by decide +kernel))
  have hs15 : ∃ sa, vk_R "TelescopeCourt" 349 "no such goal" sa s := str_of (hts0 _ (lt_of 960 (by decide +kernel))) (hq (.exactly (.string "TelescopeCourt" 349) "java/lang/String") (by decide +kernel))
  have hs16 : ∃ sa, vk_R "TelescopeCourt" 351 "no such place in the context" sa s := str_of (hts0 _ (lt_of 964 (by decide +kernel))) (hq (.exactly (.string "TelescopeCourt" 351) "java/lang/String") (by decide +kernel))
  have hs17 : ∃ sa, vk_R "TelescopeCourt" 207 "the goal is not open, or there would be too much of it" sa s := str_of (hts0 _ (lt_of 982 (by decide +kernel))) (hq (.exactly (.string "TelescopeCourt" 207) "java/lang/String") (by decide +kernel))
  have hs18 : ∃ sa, vk_R "TelescopeCourt" 213 "no data type, or a normal form is not there" sa s := str_of (hts0 _ (lt_of 1018 (by decide +kernel))) (hq (.exactly (.string "TelescopeCourt" 213) "java/lang/String") (by decide +kernel))
  have hs19 : ∃ sa, vk_R "TelescopeCourt" 353 "the goal is not open" sa s := str_of (hts0 _ (lt_of 1029 (by decide +kernel))) (hq (.exactly (.string "TelescopeCourt" 353) "java/lang/String") (by decide +kernel))
  have hs20 : ∃ sa, vk_R "TelescopeCourt" 236 "no right side for this goal" sa s := str_of (hts0 _ (lt_of 1034 (by decide +kernel))) (hq (.exactly (.string "TelescopeCourt" 236) "java/lang/String") (by decide +kernel))
  have hs21 : ∃ sa, vk_R "TelescopeCourt" 248 "no variable has the type of the goal" sa s := str_of (hts0 _ (lt_of 1052 (by decide +kernel))) (hq (.exactly (.string "TelescopeCourt" 248) "java/lang/String") (by decide +kernel))
  have hs22 : ∃ sa, vk_R "TelescopeCourt" 261 "the goal is not filled, or its function is accepted" sa s := str_of (hts0 _ (lt_of 1060 (by decide +kernel))) (hq (.exactly (.string "TelescopeCourt" 261) "java/lang/String") (by decide +kernel))
  have hs23 : ∃ sa, vk_R "TelescopeCourt" 272 "the function is accepted, or has open goals" sa s := str_of (hts0 _ (lt_of 1101 (by decide +kernel))) (hq (.exactly (.string "TelescopeCourt" 272) "java/lang/String") (by decide +kernel))
  have hs24 : ∃ sa, vk_R "TelescopeCourt" 293 "the function does not come to an end" sa s := str_of (hts0 _ (lt_of 1150 (by decide +kernel))) (hq (.exactly (.string "TelescopeCourt" 293) "java/lang/String") (by decide +kernel))
  have hnc0 : va_Nc "java/lang/IllegalArgumentException" "java/lang/IllegalStateException" s := va_Nc.of (hq (.not (.castable "java/lang/IllegalArgumentException" "java/lang/IllegalStateException")) (by decide +kernel))
  have hnc1 : va_Nc "java/lang/IllegalArgumentException" "java/lang/IndexOutOfBoundsException" s := va_Nc.of (hq (.not (.castable "java/lang/IllegalArgumentException" "java/lang/IndexOutOfBoundsException")) (by decide +kernel))
  have hnc2 : va_Nc "java/lang/IllegalArgumentException" "java/util/NoSuchElementException" s := va_Nc.of (hq (.not (.castable "java/lang/IllegalArgumentException" "java/util/NoSuchElementException")) (by decide +kernel))
  have hnc3 : va_Nc "java/lang/IllegalArgumentException" "java/lang/UnsupportedOperationException" s := va_Nc.of (hq (.not (.castable "java/lang/IllegalArgumentException" "java/lang/UnsupportedOperationException")) (by decide +kernel))
  have hnc4 : va_Nc "java/lang/IllegalStateException" "java/lang/IllegalArgumentException" s := va_Nc.of (hq (.not (.castable "java/lang/IllegalStateException" "java/lang/IllegalArgumentException")) (by decide +kernel))
  have hnc5 : va_Nc "java/lang/IllegalStateException" "java/lang/IndexOutOfBoundsException" s := va_Nc.of (hq (.not (.castable "java/lang/IllegalStateException" "java/lang/IndexOutOfBoundsException")) (by decide +kernel))
  have hnc6 : va_Nc "java/lang/IllegalStateException" "java/util/NoSuchElementException" s := va_Nc.of (hq (.not (.castable "java/lang/IllegalStateException" "java/util/NoSuchElementException")) (by decide +kernel))
  have hnc7 : va_Nc "java/lang/IllegalStateException" "java/lang/UnsupportedOperationException" s := va_Nc.of (hq (.not (.castable "java/lang/IllegalStateException" "java/lang/UnsupportedOperationException")) (by decide +kernel))
  have hnc8 : va_Nc "java/lang/IndexOutOfBoundsException" "java/lang/IllegalArgumentException" s := va_Nc.of (hq (.not (.castable "java/lang/IndexOutOfBoundsException" "java/lang/IllegalArgumentException")) (by decide +kernel))
  have hnc9 : va_Nc "java/lang/IndexOutOfBoundsException" "java/lang/IllegalStateException" s := va_Nc.of (hq (.not (.castable "java/lang/IndexOutOfBoundsException" "java/lang/IllegalStateException")) (by decide +kernel))
  have hnc10 : va_Nc "java/lang/IndexOutOfBoundsException" "java/util/NoSuchElementException" s := va_Nc.of (hq (.not (.castable "java/lang/IndexOutOfBoundsException" "java/util/NoSuchElementException")) (by decide +kernel))
  have hnc11 : va_Nc "java/lang/IndexOutOfBoundsException" "java/lang/UnsupportedOperationException" s := va_Nc.of (hq (.not (.castable "java/lang/IndexOutOfBoundsException" "java/lang/UnsupportedOperationException")) (by decide +kernel))
  have hnc12 : va_Nc "java/util/NoSuchElementException" "java/lang/IllegalArgumentException" s := va_Nc.of (hq (.not (.castable "java/util/NoSuchElementException" "java/lang/IllegalArgumentException")) (by decide +kernel))
  have hnc13 : va_Nc "java/util/NoSuchElementException" "java/lang/IllegalStateException" s := va_Nc.of (hq (.not (.castable "java/util/NoSuchElementException" "java/lang/IllegalStateException")) (by decide +kernel))
  have hnc14 : va_Nc "java/util/NoSuchElementException" "java/lang/IndexOutOfBoundsException" s := va_Nc.of (hq (.not (.castable "java/util/NoSuchElementException" "java/lang/IndexOutOfBoundsException")) (by decide +kernel))
  have hnc15 : va_Nc "java/util/NoSuchElementException" "java/lang/UnsupportedOperationException" s := va_Nc.of (hq (.not (.castable "java/util/NoSuchElementException" "java/lang/UnsupportedOperationException")) (by decide +kernel))
  have hnc16 : va_Nc "java/lang/UnsupportedOperationException" "java/lang/IllegalArgumentException" s := va_Nc.of (hq (.not (.castable "java/lang/UnsupportedOperationException" "java/lang/IllegalArgumentException")) (by decide +kernel))
  have hnc17 : va_Nc "java/lang/UnsupportedOperationException" "java/lang/IllegalStateException" s := va_Nc.of (hq (.not (.castable "java/lang/UnsupportedOperationException" "java/lang/IllegalStateException")) (by decide +kernel))
  have hnc18 : va_Nc "java/lang/UnsupportedOperationException" "java/lang/IndexOutOfBoundsException" s := va_Nc.of (hq (.not (.castable "java/lang/UnsupportedOperationException" "java/lang/IndexOutOfBoundsException")) (by decide +kernel))
  have hnc19 : va_Nc "java/lang/UnsupportedOperationException" "java/util/NoSuchElementException" s := va_Nc.of (hq (.not (.castable "java/lang/UnsupportedOperationException" "java/util/NoSuchElementException")) (by decide +kernel))
  have hE : EV G (fun q : Nat => s.heap.size ≤ q) s s.heap := by
    refine ⟨fun w hw => va_Nw.of (nw_tab (List.mem_filter.mp hw).2) (hts0 w (List.mem_filter.mp hw).1), ?_, ?_, ?_, vx_Zqof (hts0 _ (lt_of 350 (by decide +kernel))) (hts _ wm11) (hq (.isRef (.static Bundle.tN "UNASSIGNED_STACK" "[Ljava/lang/StackTraceElement;")) (by decide +kernel)) hA0, vx_Zqof (hts0 _ (lt_of 352 (by decide +kernel))) (hts _ wm11) (hq (.isRef (.static Bundle.tN "SUPPRESSED_SENTINEL" "Ljava/util/List;")) (by decide +kernel)) hA0, ?_⟩
    · exact List.forall_mem_cons.mpr ⟨hs0, List.forall_mem_cons.mpr ⟨hs1, List.forall_mem_cons.mpr ⟨hs2, List.forall_mem_cons.mpr ⟨hs3, List.forall_mem_cons.mpr ⟨hs4, List.forall_mem_cons.mpr ⟨hs5, List.forall_mem_cons.mpr ⟨hs6, List.forall_mem_cons.mpr ⟨hs7, List.forall_mem_cons.mpr ⟨hs8, List.forall_mem_cons.mpr ⟨hs9, List.forall_mem_cons.mpr ⟨hs10, List.forall_mem_cons.mpr ⟨hs11, List.forall_mem_cons.mpr ⟨hs12, List.forall_mem_cons.mpr ⟨hs13, List.forall_mem_cons.mpr ⟨hs14, List.forall_mem_cons.mpr ⟨hs15, List.forall_mem_cons.mpr ⟨hs16, List.forall_mem_cons.mpr ⟨hs17, List.forall_mem_cons.mpr ⟨hs18, List.forall_mem_cons.mpr ⟨hs19, List.forall_mem_cons.mpr ⟨hs20, List.forall_mem_cons.mpr ⟨hs21, List.forall_mem_cons.mpr ⟨hs22, List.forall_mem_cons.mpr ⟨hs23, List.forall_mem_cons.mpr ⟨hs24, fun _ h => absurd h List.not_mem_nil⟩⟩⟩⟩⟩⟩⟩⟩⟩⟩⟩⟩⟩⟩⟩⟩⟩⟩⟩⟩⟩⟩⟩⟩⟩
    · exact List.forall_mem_cons.mpr ⟨hnc0, List.forall_mem_cons.mpr ⟨hnc1, List.forall_mem_cons.mpr ⟨hnc2, List.forall_mem_cons.mpr ⟨hnc3, List.forall_mem_cons.mpr ⟨hnc4, List.forall_mem_cons.mpr ⟨hnc5, List.forall_mem_cons.mpr ⟨hnc6, List.forall_mem_cons.mpr ⟨hnc7, List.forall_mem_cons.mpr ⟨hnc8, List.forall_mem_cons.mpr ⟨hnc9, List.forall_mem_cons.mpr ⟨hnc10, List.forall_mem_cons.mpr ⟨hnc11, List.forall_mem_cons.mpr ⟨hnc12, List.forall_mem_cons.mpr ⟨hnc13, List.forall_mem_cons.mpr ⟨hnc14, List.forall_mem_cons.mpr ⟨hnc15, List.forall_mem_cons.mpr ⟨hnc16, List.forall_mem_cons.mpr ⟨hnc17, List.forall_mem_cons.mpr ⟨hnc18, List.forall_mem_cons.mpr ⟨hnc19, fun _ h => absurd h List.not_mem_nil⟩⟩⟩⟩⟩⟩⟩⟩⟩⟩⟩⟩⟩⟩⟩⟩⟩⟩⟩⟩
    · exact List.forall_mem_cons.mpr ⟨ho0, List.forall_mem_cons.mpr ⟨ho1, fun _ h => absurd h List.not_mem_nil⟩⟩
    · exact List.forall_mem_cons.mpr ⟨⟨tL0, va_Zref (hts0 _ (lt_of 443 (by decide +kernel))) (hts _ wm1) hvL0 hA0, hTL0⟩, List.forall_mem_cons.mpr ⟨⟨tL1, va_Zref (hts0 _ (lt_of 468 (by decide +kernel))) (hts _ wm1) hvL1 hA0, hTL1⟩, List.forall_mem_cons.mpr ⟨⟨tL2, va_Zref (hts0 _ (lt_of 470 (by decide +kernel))) (hts _ wm1) hvL2 hA0, hTL2⟩, List.forall_mem_cons.mpr ⟨⟨tL3, va_Zref (hts0 _ (lt_of 472 (by decide +kernel))) (hts _ wm1) hvL3 hA0, hTL3⟩, fun _ h => absurd h List.not_mem_nil⟩⟩⟩⟩
  obtain ⟨A, hAe⟩ : ∃ A : Nat → Prop, A = fun q : Nat => s.heap.size ≤ q := ⟨_, rfl⟩
  rw [← hAe] at hE
  have hA : ∀ q : Nat, s.heap.size ≤ q → A q := fun q h => by rw [hAe]; exact h
  have hA2 : ∀ q : Nat, A q → s.heap.size ≤ q := fun q h => by rw [hAe] at h; exact h
  have hbA : ¬ A b := fun h => Nat.not_le.mpr hbl (hA2 b h)
  have hS : va_S A s.heap s.heap [] := va_S.rf
  have hP : va_P (DG G) clP3 [] s.heap := nilP
  have hD : va_D A [] := nilD
  obtain ⟨H, hHe⟩ : ∃ H : Heap, H = s.heap := ⟨_, rfl⟩
  have hP : va_P (DG G) clP3 [] H := by rw [hHe]; exact hP
  have hS : va_S A s.heap H [] := by rw [hHe]; exact hS
  have hl := lv_entry ([.ref b]) (n := 26) (Nat.le_of_ble_eq_true rfl)
  rw [lg_entry_eq, ← hHe]
  generalize (lg_sl ([.ref b]) ++ List.replicate (26 - (lg_sl ([.ref b])).length) Slot.unset).toArray = ls at hl ⊢
  have hl : lv_has ls 26 [(0, .ref b)] := hl
  refine va_new (ci := 10) (fs := [.null, .null, .null, .null, .null, .null, .null, .null, .int 0, .long 0]) (C := RX11) (T := TX11) (N := 10) hx hb hts inW_X11 tyX11 tyX11_ok hown (hts _ wm25) (hts _ wm26) (hts _ wm1) hK hP hD hS hA rfl (by decide +kernel) (Nat.le_of_ble_eq_true rfl) (Nat.le_of_ble_eq_true rfl) dL_law_0 (fun q_1 H hP hD hS => ?_)
  have hP : va_P (DG G) clP3 [(q_1, .inr (10, [.null, .null, .null, .null, .null, .null, .null, .null, .int 0, .long 0]))] H := hP
  have hD : va_D A [(q_1, .inr (10, [.null, .null, .null, .null, .null, .null, .null, .null, .int 0, .long 0]))] := hD
  refine W.widen (k := 1) (n := 10) (Nat.le_of_ble_eq_true rfl) (Nat.le_of_ble_eq_true rfl) ?_
  refine lv_dup hx hb dL_law_3 rfl ?_
  have hFc := free_all hD hS hA
  refine va_callv (va_runI (As := []) (rest := [.ref q_1]) ⟨hx, hb, hml, hown, hts⟩ (k_X11_init l hfl G q_1 H.size) (cwI 0 hts (gC wm29) rfl rfl rfl (hts _ wm1) (hts _ wm27) (hts _ wm28) rfl (by decide +kernel) ⟨Nat.le_of_ble_eq_true rfl, Nat.le_of_ble_eq_true rfl⟩) (pre_w hK hP hD hS hE hFc) rfl rfl hl.1 rfl (lv_room (Nat.le_of_ble_eq_true rfl)) dL_law_4 ⟨Nat.le_of_ble_eq_true rfl, Nat.le_of_ble_eq_true rfl⟩) hS (fun q _ h => hFc q h) hFc (fun u t H locs ht hvm hw hB hz1 hk1 hS => ?_)
  obtain ⟨z0, z1, z2, z3, z4, z5, z6, z7, z8, z9, z10, z11, z12, z13, z14, z15, z16, z17, z18, z19, z20, z21, z22, z23, z24, z25, z26, z27, z28, z29, z30, z31, z32, z33, z34, z35, hP1, hD1⟩ := hB
  obtain ⟨a, ha⟩ : ∃ a : AS, a = (ad37 [q_1, z0, z8, z9, z10, z11, z12, z13, z14, z15, z16, z1, z17, z2, z18, z19, z20, z21, z22, z23, z24, z3, z25, z26, z4, z27, z29, z28, z30, z5, z31, z6, z32, z33, z34, z35, z7], (fun _ => 0), (fun _ _ => 0), (fun _ => none), (fun _ => none)) := ⟨_, rfl⟩
  have hP : va_P (DG G) clP3 (wC G (a.1, a.2) (0, (fun _ => 0), (fun _ => 0), (fun _ => 0), (fun _ => 0), (fun _ => 0), (fun _ => 0), (fun _ => 0), (fun _ => 0)) (0, (fun _ => 0), (fun _ => 0)) (0, (fun _ => 0)) (0, 0, (fun _ => 0), (fun _ => 0), (fun _ => 0), (fun _ => 0), (fun _ => 0), (fun _ => 0), (fun _ => 0)) (0, 0, 0) (0, 0, 0, 0, (fun _ => 0)) ((fun _ => 0), (fun _ => 0), (fun _ => 0), (fun _ => 0), 0, 0, 0, 0, 0) ((fun _ => 0), 0, 0) ((fun _ => 0), (fun _ => 0), (fun _ => 0), (fun _ => 0), (fun _ => 0), (fun _ => 0), (fun _ => 0), (fun _ => 0), (fun _ => 0), (fun _ => 0), (fun _ => 0), (fun _ => (fun _ => 0)), (fun _ => 0), (fun _ => (fun _ => 0)))) H := by rw [ht] at hP1; subst ha; exact hP1
  have hD : va_D A (wC G (a.1, a.2) (0, (fun _ => 0), (fun _ => 0), (fun _ => 0), (fun _ => 0), (fun _ => 0), (fun _ => 0), (fun _ => 0), (fun _ => 0)) (0, (fun _ => 0), (fun _ => 0)) (0, (fun _ => 0)) (0, 0, (fun _ => 0), (fun _ => 0), (fun _ => 0), (fun _ => 0), (fun _ => 0), (fun _ => 0), (fun _ => 0)) (0, 0, 0) (0, 0, 0, 0, (fun _ => 0)) ((fun _ => 0), (fun _ => 0), (fun _ => 0), (fun _ => 0), 0, 0, 0, 0, 0) ((fun _ => 0), 0, 0) ((fun _ => 0), (fun _ => 0), (fun _ => 0), (fun _ => 0), (fun _ => 0), (fun _ => 0), (fun _ => 0), (fun _ => 0), (fun _ => 0), (fun _ => 0), (fun _ => 0), (fun _ => (fun _ => 0)), (fun _ => 0), (fun _ => (fun _ => 0)))) := by have hD2 := hD1.weaken (B := A) (fun _ p _ h => hFc p.1 h); subst ha; exact hD2
  have h00 : Int32.toNatClampNeg 0 = 0 := by decide
  have hlk : lkA (a.1, a.2) (Int32.toNatClampNeg 0) (Int32.toNatClampNeg 0) := by rw [h00]; exact ⟨fun i hi => absurd hi (Nat.not_lt_zero i), fun i hi => absurd hi (Nat.not_lt_zero i)⟩
  refine W.widen (k := 37) (n := 304141) (Nat.le_of_ble_eq_true rfl) (Nat.le_of_ble_eq_true rfl) ?_
  refine lv_astore_n (lv' := [(1, .ref q_1), (0, .ref b)]) hx hb dL_law_7 rfl hl (by decide) rfl (fun ls hl => ?_)
  have hl : lv_has ls 26 [(0, .ref b), (1, .ref (a.1 0))] := by subst ha; exact lv_sub hl [1, 0] rfl
  exact (kb_law hfl hx hb hr hml hown hts hX hbl hlocks hA hA2 hbA hE hK 100000).1 (0, (fun _ => 0), (fun _ => 0), (fun _ => 0), (fun _ => 0), (fun _ => 0), (fun _ => 0), (fun _ => 0), (fun _ => 0)) (0, (fun _ => 0), (fun _ => 0)) (0, (fun _ => 0)) (0, 0, (fun _ => 0), (fun _ => 0), (fun _ => 0), (fun _ => 0), (fun _ => 0), (fun _ => 0), (fun _ => 0)) (0, 0, 0) (0, 0, 0, 0, (fun _ => 0)) ((fun _ => 0), (fun _ => 0), (fun _ => 0), (fun _ => 0), 0, 0, 0, 0, 0) ((fun _ => 0), 0, 0) ((fun _ => 0), (fun _ => 0), (fun _ => 0), (fun _ => 0), (fun _ => 0), (fun _ => 0), (fun _ => 0), (fun _ => 0), (fun _ => 0), (fun _ => 0), (fun _ => 0), (fun _ => (fun _ => 0)), (fun _ => 0), (fun _ => (fun _ => 0))) a.2 600221 6985821 37 304141 (by omega) (by omega) hlk _ _ hP hD hS _ hl (law_true hL)
-- ===== YOUR PART ENDS =====
set_option maxHeartbeats 4000000 in
theorem lw_walk (l : Launch) (hflags : l.flags = flags0) (b : Addr) (xs : List Int32) : MetFree l x (headSpec (Jvm.Cond.code x code maxLocals ret :: tables_1) room_1) (lw_P b xs) (fun _ _ _ _ _ => True) lw_Q := by
  refine MetFree.of_bodyS (code := code) (maxLocals := maxLocals) (ret := ret) (by decide) ?_ ?_
  · intro args s m h hn
    obtain ⟨meth, c, h1, h2, h3, h4, h5, h6, -, -⟩ := Cond.code_spec hn (atoms_spec (ws := Jvm.Cond.code x code maxLocals ret :: tables_1) h _ List.mem_cons_self)
    exact ⟨meth, c, h1, h2, h3, h4, h5, h6⟩
  · intro p e s m args below meth c s₁ B hml0 hP _
    obtain ⟨rfl, hx, hbd, hgv⟩ := hP
    obtain ⟨scr, harrAt, hlist, hof, hsmall⟩ := hx
    obtain ⟨hcb, hkn, -, -⟩ := State.arrayAt?_spec harrAt
    have hown : s.vm.findClass R_law = some m.cls := findClass_of_methodNamed B.named
    have hts0 : ∀ c ∈ (Jvm.Cond.code x code maxLocals ret :: tables_1), c.before #[Value.ref b] s = true := atoms_spec (ws := Jvm.Cond.code x code maxLocals ret :: tables_1) B.pre
    have hts : ∀ w ∈ lw_tbl, w.before #[Value.ref b] s = true := k2_hts_sels lw_privs (fun w hw => hts0 w (List.mem_cons_of_mem _ hw)) lw_privs_ok
    have hml : c.maxLocals = 26 := B.maxLocals_eq (hts0 _ List.mem_cons_self)
    have X₀ : Stand p l e room_1 s m #[Value.ref b] below meth c s₁ [] 0 0 := Stand.of_body B
    have hh0 : s₁.heap = s.heap := by rw [B.state]; rfl
    have hsz : scr.slots.size = xs.length := by rw [← Array.length_toList, hlist, List.length_map]
    have hval : ∀ j : Nat, j < xs.length → scr.slots[j]? = some (.int (xs.getD j 0)) := fun j hj => by
      rw [← Array.getElem?_toList, hlist]
      simp [hj]
    have hbl : b < s.heap.size := (Array.getElem?_eq_some_iff.mp hcb).1
    have hX : va_X b xs.length (fun j => xs.getD j 0) s s.heap := ⟨scr, hcb, hof, hkn, hsz, hval⟩
    have K : W p l e room_1 s m #[Value.ref b] below meth c s₁.heap [] 0 0 (lw_Z below #[Value.ref b] s) (entryFrame m ([Value.ref b] : List Value).toArray 26) := by
      rw [hh0]
      exact whole_start l hflags hbd ⟨B.exec, B.bytes, B.returns, hml, hown, hts, hX, hbl, B.notSynchronized, hgv⟩
    obtain ⟨t, a1, o, b1, b2, b3⟩ := K s₁ rfl X₀
    exact ⟨t, o, a1, b1, b2, b3⟩
theorem lw_pre_spec {args : Array Value} {s : State} (h : (Jvm.Cond.and given_1 narrow_1).before args s = true) (hr : rest_1_c.before args s = true) : ∃ (b : Addr) (xs : List Int32), lw_P b xs args s := by
  have hs := flat_of_before _ h
  have hq := flat_of_before _ hr
  have hc : (Cond.count 1).before args s = true := hs _ (by decide +kernel)
  have harr : (Cond.arrayOf (.arg 0) .int).before args s = true := hs _ (by decide +kernel)
  have hle : (Cond.le (.length (.arg 0)) (.int 260)).before args s = true := hs _ (by decide +kernel)
  have hlen : (Cond.isInt (.length (.arg 0))).before args s = true := hq _ (by decide +kernel)
  have hall : (Cond.all (.arg 0) (.isInt (.elem (.arg 0) (.index 0)))).before args s = true := hq _ (by decide +kernel)
  obtain ⟨b, xs, hb, hx⟩ := State.ints_of_pre rfl harr hlen hall
  have hsm : xs.length < 2 ^ 31 := hx.choose_spec.2.2.2
  have hev : (Term.length (.arg 0)).eval args s none [] s = some (.int xs.length.toInt32) := hx.length_eval hb
  have hv := Cond.le_ints hev (show (Term.int 260).eval args s none [] s = some (.int 260) from rfl)
  have hd : xs.length.toInt32 ≤ 260 := by
    simpa [Cond.before, Cond.holds, hv] using hle
  have hN : xs.length ≤ 260 := (Int32.ofNat_le_ofNat hsm (by decide)).mp (show Int32.ofNat xs.length ≤ Int32.ofNat 260 from hd)
  exact ⟨b, xs, Cond.one_arg hc (show args[0]? = some (.ref b) from hb), hx, hN, h⟩
theorem lw_comes (l : Launch) (hflags : l.flags = flags0) : Comes l x (Jvm.Cond.code x code maxLocals ret :: tables_1) room_1 (fun tb e args s => Calls_1 tb e args s ∧ rest_1 tb e args s ∧ Pre_1 tb e args s)
    (fun _ _ args s o t => lw_Q args s o t) := by
  intro p e ha hc hk s m args below hf hfit hheap happ hpre
  obtain ⟨b, xs, hP⟩ := lw_pre_spec hpre.2.2 hpre.2.1
  obtain ⟨k, o, h1, h2, h3, hQ⟩ := lw_walk l hflags b xs p e ha hc hk s m args below hf ((Spec.applies_iff_loose hf).mp happ).1 hP trivial
  exact ⟨k, o, h1, h2, h3, hQ⟩
theorem lw_frame {s t : State} {o : Outcome} {args : Array Value} (h : Framed s o t [] 600258 7289962) :
    Framed s o t (fieldLocs frame_1_writes args s ++ arrayLocs frame_1_arrays args s ++ staticLocs frame_1_statics s) 600258 7289962 := h
theorem lw_limb (L : Cond) (hL : ∀ (args : Array Value) (s t : State), L.after args s (.returned (some (.int 1))) t = true) :
    ArmFor flags0 classFile x code maxLocals ret World_1 tables_1 room_1 Calls_1 rest_1 Pre_1
      (fun tb e a s o t => postC L tb e a s o t ∧ Framed s o t (fieldLocs frame_1_writes a s ++ arrayLocs frame_1_arrays a s ++ staticLocs frame_1_statics s) 600258 7289962) := by
  intro l hflags _ _ p e ha hc hk s m args below hf hfit hheap happ hpre
  obtain ⟨k, o, h1, h2, h3, rfl, hF⟩ := lw_comes l hflags p e ha hc hk s m args below hf hfit hheap happ hpre
  exact ⟨k, _, h1, h2, h3, hL args s _, lw_frame hF⟩
theorem i_vc : Claimed_1_1 ∧ Claimed_1_2 := ⟨lw_limb limb_1_1 (fun args s t => by simp [limb_1_1, Cond.after, Cond.holds, Cond.value]), lw_limb limb_1_2 (fun args s t => Cond.after_iff.mpr (by
  first | (rw [show limb_1_2 = Cond.eq .result (.int 1) from rfl, Cond.eq_ints (x := 1) (y := 1) rfl rfl]; simp; done) | (simp [limb_1_2, Cond.value, Term.eval]; done)))⟩
