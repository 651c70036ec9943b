set_option maxHeartbeats 4000000 in
set_option maxRecDepth 100000 in
theorem k_X17_laysTwo (l : Launch) (hfl : l.stackTraces = false) (G : GC) (h0 : Nat) (p0 : Int32) (p1 : Int32) (p2 : Int32) (th : Int32) (n1 : Nat) (b1 : Nat) (c1 : Nat) (f1 : Nat) (g1 : Nat) (sz : Nat) : Met l yX17_laysTwo (Cond.code yX17_laysTwo cX17_laysTwo 5 (some .int) :: W0) ({ frames := 2, cells := 0, slots := 0, locals := 43 }) (va_Pc [.ref h0, .int p0, .int p1, .int p2] (WD G [(h0, .inr (12, [.int th, .ref n1, .int 0, .ref b1, .ref c1, .ref f1, .ref g1, .long 0, .int 0])), (n1, .inr (1, [.int 0, .ref (aE G), .int 0]))] sz)) (va_Qi (fun (r : Int32) (_ : Unit) => r = 0) (fun _ t => PW G (va_A [(h0, .inr (12, [.int th, .ref n1, .int 0, .ref b1, .ref c1, .ref f1, .ref g1, .long 0, .int 0])), (n1, .inr (1, [.int 0, .ref (aE G), .int 0]))] sz) [(h0, .inr (12, [.int 1, .ref n1, .int 0, .ref b1, .ref c1, .ref f1, .ref g1, .long 0, .int 0]))] t) (va_A [(h0, .inr (12, [.int th, .ref n1, .int 0, .ref b1, .ref c1, .ref f1, .ref g1, .long 0, .int 0])), (n1, .inr (1, [.int 0, .ref (aE G), .int 0]))] sz)) 0 0 (va_A [(h0, .inr (12, [.int th, .ref n1, .int 0, .ref b1, .ref c1, .ref f1, .ref g1, .long 0, .int 0])), (n1, .inr (1, [.int 0, .ref (aE G), .int 0]))] sz) := by
  refine Met.ofW (cc := cX17_laysTwo) (maxL := 5) (ret := (some .int)) (by decide) rfl ?_
  intro p e s m args below meth c s₁ B hml hv
  obtain ⟨rfl, hsz, hP, hK, hD0, hE⟩ := hv
  have hx := B.exec
  have hb := B.bytes
  have hr := B.returns
  have hts := w0_tail B.pre
  have hown : s.vm.findClass RX17 = some m.cls := findClass_of_methodNamed B.named
  have hlocks := B.notSynchronized
  subst hsz
  have hD := hD0.self (sz := s.heap.size)
  generalize hAe : va_A [(h0, .inr (12, [.int th, .ref n1, .int 0, .ref b1, .ref c1, .ref f1, .ref g1, .long 0, .int 0])), (n1, .inr (1, [.int 0, .ref (aE G), .int 0]))] s.heap.size = A at hD hE ⊢
  have hA : ∀ q : Nat, s.heap.size ≤ q → A q := fun q h => by rw [← hAe]; exact Or.inr h
  have hS : va_S A s.heap s.heap [] := va_S.rf
  obtain ⟨H, hHe⟩ : ∃ H : Heap, H = s.heap := ⟨_, rfl⟩
  have hP : va_P (DG G) clP1 [(h0, .inr (12, [.int th, .ref n1, .int 0, .ref b1, .ref c1, .ref f1, .ref g1, .long 0, .int 0])), (n1, .inr (1, [.int 0, .ref (aE G), .int 0]))] H := by rw [hHe]; exact hP
  have hS : va_S A s.heap H [] := by rw [hHe]; exact hS
  have hl := lv_entry ([.ref h0, .int p0, .int p1, .int p2]) (n := 5) (Nat.le_of_ble_eq_true rfl)
  rw [lg_entry_eq, ← hHe]
  generalize (lg_sl ([.ref h0, .int p0, .int p1, .int p2]) ++ List.replicate (5 - (lg_sl ([.ref h0, .int p0, .int p1, .int p2])).length) Slot.unset).toArray = ls at hl ⊢
  have hl : lv_has ls 5 [(0, .ref h0), (1, .int p0), (2, .int p1), (3, .int p2)] := hl
  refine lv_aload_n hx hb dX17_laysTwo_0 rfl (lv_at hl 0 rfl) ?_
  refine lv_aload_n hx hb dX17_laysTwo_1 rfl (lv_at hl 0 rfl) ?_
  refine lv_iload_n hx hb dX17_laysTwo_2 rfl (lv_at hl 2 rfl) ?_
  have hFc := va_free (wc := [(h0, .inr (12, [.int th, .ref n1, .int 0, .ref b1, .ref c1, .ref f1, .ref g1, .long 0, .int 0])), (n1, .inr (1, [.int 0, .ref (aE G), .int 0]))]) hD hS hA [0, 1] rfl
  refine va_calli (va_runV (As := [.int p1]) (rest := [.ref h0]) ⟨hx, hb, hml, hown, hts⟩ (k_X17_isNode l hfl G h0 p1 th n1 b1 c1 f1 g1 H.size) (cwV 1 hts (gV wm1516 wm1518 ws_p35 wm11 wm1519) rfl rfl rfl (by decide +kernel) ⟨Nat.le_of_ble_eq_true rfl, Nat.le_of_ble_eq_true rfl⟩) (pre_v (pre_s hK hP hD hS hE [0, 1] rfl rfl (by decide) hFc) (va_recv hK hP (ci := 12) (q0 := 0) rfl rfl)) rfl rfl hl.1 rfl (lv_room (Nat.le_of_ble_eq_true rfl)) dX17_laysTwo_3 ⟨Nat.le_of_ble_eq_true rfl, Nat.le_of_ble_eq_true rfl⟩) hS (fun q _ h => hFc q h) hFc (fun r u t H locs ht hvm hw hB hz1 hk1 hS => ?_)
  obtain rfl : r = 0 := hw
  obtain ⟨hP1, hD1⟩ := hB
  rw [ht] at hP1
  obtain ⟨hP, hD⟩ := va_join (wr := []) (w1 := [(h0, .inr (12, [.int th, .ref n1, .int 0, .ref b1, .ref c1, .ref f1, .ref g1, .long 0, .int 0])), (n1, .inr (1, [.int 0, .ref (aE G), .int 0]))]) hP hD [0, 1] [] rfl rfl (by decide) (by decide) hk1 hFc hP1 hD1
  have hP : va_P (DG G) clP1 [(h0, .inr (12, [.int th, .ref n1, .int 0, .ref b1, .ref c1, .ref f1, .ref g1, .long 0, .int 0])), (n1, .inr (1, [.int 0, .ref (aE G), .int 0]))] H := hP
  have hD : va_D A [(h0, .inr (12, [.int th, .ref n1, .int 0, .ref b1, .ref c1, .ref f1, .ref g1, .long 0, .int 0])), (n1, .inr (1, [.int 0, .ref (aE G), .int 0]))] := hD
  refine W.widen (k := 0) (n := 0) (Nat.le_of_ble_eq_true rfl) (Nat.le_of_ble_eq_true rfl) ?_
  refine lv_if_eq (tgt := 21) hx hb dX17_laysTwo_6 (by decide) (fun _ => ?_) (fun c => absurd (by decide) c)
  refine lv_iconst (v := 1) hx hb dX17_laysTwo_21 (by decide) ?_
  have hFc := va_free (wc := [(h0, .inr (12, [.int th, .ref n1, .int 0, .ref b1, .ref c1, .ref f1, .ref g1, .long 0, .int 0]))]) hD hS hA [0] rfl
  refine va_calli (va_runV (As := [.int 1]) (rest := []) ⟨hx, hb, hml, hown, hts⟩ (k_X17_fails_1 l hfl G h0 th n1 b1 c1 f1 g1 H.size) (cwV 1 hts (gV wm1392 wm1394 ws_p29 wm11 wm1395) rfl rfl rfl (by decide +kernel) ⟨Nat.le_of_ble_eq_true rfl, Nat.le_of_ble_eq_true rfl⟩) (pre_v (pre_s hK hP hD hS hE [0] rfl rfl (by decide) hFc) (va_recv hK hP (ci := 12) (q0 := 0) rfl rfl)) rfl rfl hl.1 rfl (lv_room (Nat.le_of_ble_eq_true rfl)) dX17_laysTwo_22 ⟨Nat.le_of_ble_eq_true rfl, Nat.le_of_ble_eq_true rfl⟩) hS (fun q _ h => hFc q h) hFc (fun r u t H locs ht hvm hw hB hz1 hk1 hS => ?_)
  obtain rfl : r = 1 := hw
  obtain ⟨hP1, hD1⟩ := hB
  rw [ht] at hP1
  obtain ⟨hP, hD⟩ := va_join (wr := [(n1, .inr (1, [.int 0, .ref (aE G), .int 0]))]) (w1 := [(h0, .inr (12, [.int 1, .ref n1, .int 0, .ref b1, .ref c1, .ref f1, .ref g1, .long 0, .int 0]))]) hP hD [0] [1] rfl rfl (by decide) (by decide) hk1 hFc hP1 hD1
  have hP : va_P (DG G) clP1 [(n1, .inr (1, [.int 0, .ref (aE G), .int 0])), (h0, .inr (12, [.int 1, .ref n1, .int 0, .ref b1, .ref c1, .ref f1, .ref g1, .long 0, .int 0]))] H := hP
  have hD : va_D A [(n1, .inr (1, [.int 0, .ref (aE G), .int 0])), (h0, .inr (12, [.int 1, .ref n1, .int 0, .ref b1, .ref c1, .ref f1, .ref g1, .long 0, .int 0]))] := hD
  refine W.widen (k := 0) (n := 0) (Nat.le_of_ble_eq_true rfl) (Nat.le_of_ble_eq_true rfl) ?_
  refine lv_if_eq (tgt := 30) hx hb dX17_laysTwo_25 (by decide) (fun c => absurd c (by decide)) (fun _ => ?_)
  refine lv_iconst (v := 0) hx hb dX17_laysTwo_28 (by decide) ?_
  have hP9 := hP.sub (ws' := [(h0, .inr (12, [.int 1, .ref n1, .int 0, .ref b1, .ref c1, .ref f1, .ref g1, .long 0, .int 0]))]) [1] rfl
  have hD9 := hD.sub (ws' := [(h0, .inr (12, [.int 1, .ref n1, .int 0, .ref b1, .ref c1, .ref f1, .ref g1, .long 0, .int 0]))]) [1] (by decide) rfl
  refine W.widen (k := 0) (n := 0) (Nat.le_of_ble_eq_true rfl) (Nat.le_of_ble_eq_true rfl) ?_
  exact W.iret (v := 0) hx hb hr (fun t ht hW => ⟨⟨0, (), rfl, rfl, ⟨by rw [ht]; exact hP9, hD9⟩⟩, hS.F ht⟩) hS.2.2 dX17_laysTwo_29 hlocks
set_option maxHeartbeats 4000000 in
set_option maxRecDepth 100000 in
theorem k_X17_functions (l : Launch) (hfl : l.stackTraces = false) (G : GC) (h0 : Nat) (p0 : Int32) (p1 : Int32) (th : Int32) (n1 : Nat) (b1 : Nat) (c1 : Nat) (f1 : Nat) (g1 : Nat) (sz : Nat) : Met l yX17_functions (Cond.code yX17_functions cX17_functions 3 (some .int) :: W0) ({ frames := 3, cells := 0, slots := 0, locals := 67 }) (va_Pc [.ref h0, .int p0, .int p1] (WD G [(h0, .inr (12, [.int th, .ref n1, .int 0, .ref b1, .ref c1, .ref f1, .ref g1, .long 0, .int 0])), (n1, .inr (1, [.int 0, .ref (aE G), .int 0]))] sz)) (va_Qi (fun (r : Int32) (_ : Unit) => r = 0) (fun _ t => PW G (va_A [(h0, .inr (12, [.int th, .ref n1, .int 0, .ref b1, .ref c1, .ref f1, .ref g1, .long 0, .int 0])), (n1, .inr (1, [.int 0, .ref (aE G), .int 0]))] sz) [(h0, .inr (12, [.int 1, .ref n1, .int 0, .ref b1, .ref c1, .ref f1, .ref g1, .long 0, .int 0]))] t) (va_A [(h0, .inr (12, [.int th, .ref n1, .int 0, .ref b1, .ref c1, .ref f1, .ref g1, .long 0, .int 0])), (n1, .inr (1, [.int 0, .ref (aE G), .int 0]))] sz)) 0 0 (va_A [(h0, .inr (12, [.int th, .ref n1, .int 0, .ref b1, .ref c1, .ref f1, .ref g1, .long 0, .int 0])), (n1, .inr (1, [.int 0, .ref (aE G), .int 0]))] sz) := by
  refine Met.ofW (cc := cX17_functions) (maxL := 3) (ret := (some .int)) (by decide) rfl ?_
  intro p e s m args below meth c s₁ B hml hv
  obtain ⟨rfl, hsz, hP, hK, hD0, hE⟩ := hv
  have hx := B.exec
  have hb := B.bytes
  have hr := B.returns
  have hts := w0_tail B.pre
  have hown : s.vm.findClass RX17 = some m.cls := findClass_of_methodNamed B.named
  have hlocks := B.notSynchronized
  subst hsz
  have hD := hD0.self (sz := s.heap.size)
  generalize hAe : va_A [(h0, .inr (12, [.int th, .ref n1, .int 0, .ref b1, .ref c1, .ref f1, .ref g1, .long 0, .int 0])), (n1, .inr (1, [.int 0, .ref (aE G), .int 0]))] s.heap.size = A at hD hE ⊢
  have hA : ∀ q : Nat, s.heap.size ≤ q → A q := fun q h => by rw [← hAe]; exact Or.inr h
  have hS : va_S A s.heap s.heap [] := va_S.rf
  obtain ⟨H, hHe⟩ : ∃ H : Heap, H = s.heap := ⟨_, rfl⟩
  have hP : va_P (DG G) clP1 [(h0, .inr (12, [.int th, .ref n1, .int 0, .ref b1, .ref c1, .ref f1, .ref g1, .long 0, .int 0])), (n1, .inr (1, [.int 0, .ref (aE G), .int 0]))] H := by rw [hHe]; exact hP
  have hS : va_S A s.heap H [] := by rw [hHe]; exact hS
  have hl := lv_entry ([.ref h0, .int p0, .int p1]) (n := 3) (Nat.le_of_ble_eq_true rfl)
  rw [lg_entry_eq, ← hHe]
  generalize (lg_sl ([.ref h0, .int p0, .int p1]) ++ List.replicate (3 - (lg_sl ([.ref h0, .int p0, .int p1])).length) Slot.unset).toArray = ls at hl ⊢
  have hl : lv_has ls 3 [(0, .ref h0), (1, .int p0), (2, .int p1)] := hl
  refine lv_aload_n hx hb dX17_functions_0 rfl (lv_at hl 0 rfl) ?_
  refine lv_bipush (v := 112) hx hb dX17_functions_1 (by decide) ?_
  refine lv_iload_n hx hb dX17_functions_3 rfl (lv_at hl 1 rfl) ?_
  refine lv_iload_n hx hb dX17_functions_4 rfl (lv_at hl 2 rfl) ?_
  have hFc := va_free (wc := [(h0, .inr (12, [.int th, .ref n1, .int 0, .ref b1, .ref c1, .ref f1, .ref g1, .long 0, .int 0])), (n1, .inr (1, [.int 0, .ref (aE G), .int 0]))]) hD hS hA [0, 1] rfl
  refine va_calli (va_runV (As := [.int 112, .int p0, .int p1]) (rest := []) ⟨hx, hb, hml, hown, hts⟩ (k_X17_laysTwo l hfl G h0 112 p0 p1 th n1 b1 c1 f1 g1 H.size) (cwV 3 hts (gV wm1512 wm1514 ws_p34 wm11 wm1515) rfl rfl rfl (by decide +kernel) ⟨Nat.le_of_ble_eq_true rfl, Nat.le_of_ble_eq_true rfl⟩) (pre_v (pre_s hK hP hD hS hE [0, 1] rfl rfl (by decide) hFc) (va_recv hK hP (ci := 12) (q0 := 0) rfl rfl)) rfl rfl hl.1 rfl (lv_room (Nat.le_of_ble_eq_true rfl)) dX17_functions_5 ⟨Nat.le_of_ble_eq_true rfl, Nat.le_of_ble_eq_true rfl⟩) hS (fun q _ h => hFc q h) hFc (fun r u t H locs ht hvm hw hB hz1 hk1 hS => ?_)
  obtain rfl : r = 0 := hw
  obtain ⟨hP1, hD1⟩ := hB
  rw [ht] at hP1
  obtain ⟨hP, hD⟩ := va_join (wr := []) (w1 := [(h0, .inr (12, [.int 1, .ref n1, .int 0, .ref b1, .ref c1, .ref f1, .ref g1, .long 0, .int 0]))]) hP hD [0, 1] [] rfl rfl (by decide) (by decide) hk1 hFc hP1 hD1
  have hP : va_P (DG G) clP1 [(h0, .inr (12, [.int 1, .ref n1, .int 0, .ref b1, .ref c1, .ref f1, .ref g1, .long 0, .int 0]))] H := hP
  have hD : va_D A [(h0, .inr (12, [.int 1, .ref n1, .int 0, .ref b1, .ref c1, .ref f1, .ref g1, .long 0, .int 0]))] := hD
  refine W.widen (k := 0) (n := 0) (Nat.le_of_ble_eq_true rfl) (Nat.le_of_ble_eq_true rfl) ?_
  have hP9 := hP.sub (ws' := [(h0, .inr (12, [.int 1, .ref n1, .int 0, .ref b1, .ref c1, .ref f1, .ref g1, .long 0, .int 0]))]) [0] rfl
  have hD9 := hD.sub (ws' := [(h0, .inr (12, [.int 1, .ref n1, .int 0, .ref b1, .ref c1, .ref f1, .ref g1, .long 0, .int 0]))]) [0] (by decide) rfl
  refine W.widen (k := 0) (n := 0) (Nat.le_of_ble_eq_true rfl) (Nat.le_of_ble_eq_true rfl) ?_
  exact W.iret (v := 0) hx hb hr (fun t ht hW => ⟨⟨0, (), rfl, rfl, ⟨by rw [ht]; exact hP9, hD9⟩⟩, hS.F ht⟩) hS.2.2 dX17_functions_8 hlocks
set_option maxHeartbeats 4000000 in
set_option maxRecDepth 100000 in
theorem k_X17_lambda (l : Launch) (hfl : l.stackTraces = false) (G : GC) (h0 : Nat) (p0 : Int32) (p1 : Int32) (th : Int32) (n1 : Nat) (b1 : Nat) (c1 : Nat) (f1 : Nat) (g1 : Nat) (sz : Nat) : Met l yX17_lambda (Cond.code yX17_lambda cX17_lambda 3 (some .int) :: W0) ({ frames := 3, cells := 0, slots := 0, locals := 67 }) (va_Pc [.ref h0, .int p0, .int p1] (WD G [(h0, .inr (12, [.int th, .ref n1, .int 0, .ref b1, .ref c1, .ref f1, .ref g1, .long 0, .int 0])), (n1, .inr (1, [.int 0, .ref (aE G), .int 0]))] sz)) (va_Qi (fun (r : Int32) (_ : Unit) => r = 0) (fun _ t => PW G (va_A [(h0, .inr (12, [.int th, .ref n1, .int 0, .ref b1, .ref c1, .ref f1, .ref g1, .long 0, .int 0])), (n1, .inr (1, [.int 0, .ref (aE G), .int 0]))] sz) [(h0, .inr (12, [.int 1, .ref n1, .int 0, .ref b1, .ref c1, .ref f1, .ref g1, .long 0, .int 0]))] t) (va_A [(h0, .inr (12, [.int th, .ref n1, .int 0, .ref b1, .ref c1, .ref f1, .ref g1, .long 0, .int 0])), (n1, .inr (1, [.int 0, .ref (aE G), .int 0]))] sz)) 0 0 (va_A [(h0, .inr (12, [.int th, .ref n1, .int 0, .ref b1, .ref c1, .ref f1, .ref g1, .long 0, .int 0])), (n1, .inr (1, [.int 0, .ref (aE G), .int 0]))] sz) := by
  refine Met.ofW (cc := cX17_lambda) (maxL := 3) (ret := (some .int)) (by decide) rfl ?_
  intro p e s m args below meth c s₁ B hml hv
  obtain ⟨rfl, hsz, hP, hK, hD0, hE⟩ := hv
  have hx := B.exec
  have hb := B.bytes
  have hr := B.returns
  have hts := w0_tail B.pre
  have hown : s.vm.findClass RX17 = some m.cls := findClass_of_methodNamed B.named
  have hlocks := B.notSynchronized
  subst hsz
  have hD := hD0.self (sz := s.heap.size)
  generalize hAe : va_A [(h0, .inr (12, [.int th, .ref n1, .int 0, .ref b1, .ref c1, .ref f1, .ref g1, .long 0, .int 0])), (n1, .inr (1, [.int 0, .ref (aE G), .int 0]))] s.heap.size = A at hD hE ⊢
  have hA : ∀ q : Nat, s.heap.size ≤ q → A q := fun q h => by rw [← hAe]; exact Or.inr h
  have hS : va_S A s.heap s.heap [] := va_S.rf
  obtain ⟨H, hHe⟩ : ∃ H : Heap, H = s.heap := ⟨_, rfl⟩
  have hP : va_P (DG G) clP1 [(h0, .inr (12, [.int th, .ref n1, .int 0, .ref b1, .ref c1, .ref f1, .ref g1, .long 0, .int 0])), (n1, .inr (1, [.int 0, .ref (aE G), .int 0]))] H := by rw [hHe]; exact hP
  have hS : va_S A s.heap H [] := by rw [hHe]; exact hS
  have hl := lv_entry ([.ref h0, .int p0, .int p1]) (n := 3) (Nat.le_of_ble_eq_true rfl)
  rw [lg_entry_eq, ← hHe]
  generalize (lg_sl ([.ref h0, .int p0, .int p1]) ++ List.replicate (3 - (lg_sl ([.ref h0, .int p0, .int p1])).length) Slot.unset).toArray = ls at hl ⊢
  have hl : lv_has ls 3 [(0, .ref h0), (1, .int p0), (2, .int p1)] := hl
  refine lv_aload_n hx hb dX17_lambda_0 rfl (lv_at hl 0 rfl) ?_
  refine lv_bipush (v := 108) hx hb dX17_lambda_1 (by decide) ?_
  refine lv_iload_n hx hb dX17_lambda_3 rfl (lv_at hl 1 rfl) ?_
  refine lv_iload_n hx hb dX17_lambda_4 rfl (lv_at hl 2 rfl) ?_
  have hFc := va_free (wc := [(h0, .inr (12, [.int th, .ref n1, .int 0, .ref b1, .ref c1, .ref f1, .ref g1, .long 0, .int 0])), (n1, .inr (1, [.int 0, .ref (aE G), .int 0]))]) hD hS hA [0, 1] rfl
  refine va_calli (va_runV (As := [.int 108, .int p0, .int p1]) (rest := []) ⟨hx, hb, hml, hown, hts⟩ (k_X17_laysTwo l hfl G h0 108 p0 p1 th n1 b1 c1 f1 g1 H.size) (cwV 3 hts (gV wm1512 wm1514 ws_p34 wm11 wm1515) rfl rfl rfl (by decide +kernel) ⟨Nat.le_of_ble_eq_true rfl, Nat.le_of_ble_eq_true rfl⟩) (pre_v (pre_s hK hP hD hS hE [0, 1] rfl rfl (by decide) hFc) (va_recv hK hP (ci := 12) (q0 := 0) rfl rfl)) rfl rfl hl.1 rfl (lv_room (Nat.le_of_ble_eq_true rfl)) dX17_lambda_5 ⟨Nat.le_of_ble_eq_true rfl, Nat.le_of_ble_eq_true rfl⟩) hS (fun q _ h => hFc q h) hFc (fun r u t H locs ht hvm hw hB hz1 hk1 hS => ?_)
  obtain rfl : r = 0 := hw
  obtain ⟨hP1, hD1⟩ := hB
  rw [ht] at hP1
  obtain ⟨hP, hD⟩ := va_join (wr := []) (w1 := [(h0, .inr (12, [.int 1, .ref n1, .int 0, .ref b1, .ref c1, .ref f1, .ref g1, .long 0, .int 0]))]) hP hD [0, 1] [] rfl rfl (by decide) (by decide) hk1 hFc hP1 hD1
  have hP : va_P (DG G) clP1 [(h0, .inr (12, [.int 1, .ref n1, .int 0, .ref b1, .ref c1, .ref f1, .ref g1, .long 0, .int 0]))] H := hP
  have hD : va_D A [(h0, .inr (12, [.int 1, .ref n1, .int 0, .ref b1, .ref c1, .ref f1, .ref g1, .long 0, .int 0]))] := hD
  refine W.widen (k := 0) (n := 0) (Nat.le_of_ble_eq_true rfl) (Nat.le_of_ble_eq_true rfl) ?_
  have hP9 := hP.sub (ws' := [(h0, .inr (12, [.int 1, .ref n1, .int 0, .ref b1, .ref c1, .ref f1, .ref g1, .long 0, .int 0]))]) [0] rfl
  have hD9 := hD.sub (ws' := [(h0, .inr (12, [.int 1, .ref n1, .int 0, .ref b1, .ref c1, .ref f1, .ref g1, .long 0, .int 0]))]) [0] (by decide) rfl
  refine W.widen (k := 0) (n := 0) (Nat.le_of_ble_eq_true rfl) (Nat.le_of_ble_eq_true rfl) ?_
  exact W.iret (v := 0) hx hb hr (fun t ht hW => ⟨⟨0, (), rfl, rfl, ⟨by rw [ht]; exact hP9, hD9⟩⟩, hS.F ht⟩) hS.2.2 dX17_lambda_8 hlocks
set_option maxHeartbeats 4000000 in
set_option maxRecDepth 100000 in
theorem k_X17_apply (l : Launch) (hfl : l.stackTraces = false) (G : GC) (h0 : Nat) (p0 : Int32) (p1 : Int32) (th : Int32) (n1 : Nat) (b1 : Nat) (c1 : Nat) (f1 : Nat) (g1 : Nat) (sz : Nat) : Met l yX17_apply (Cond.code yX17_apply cX17_apply 3 (some .int) :: W0) ({ frames := 3, cells := 0, slots := 0, locals := 67 }) (va_Pc [.ref h0, .int p0, .int p1] (WD G [(h0, .inr (12, [.int th, .ref n1, .int 0, .ref b1, .ref c1, .ref f1, .ref g1, .long 0, .int 0])), (n1, .inr (1, [.int 0, .ref (aE G), .int 0]))] sz)) (va_Qi (fun (r : Int32) (_ : Unit) => r = 0) (fun _ t => PW G (va_A [(h0, .inr (12, [.int th, .ref n1, .int 0, .ref b1, .ref c1, .ref f1, .ref g1, .long 0, .int 0])), (n1, .inr (1, [.int 0, .ref (aE G), .int 0]))] sz) [(h0, .inr (12, [.int 1, .ref n1, .int 0, .ref b1, .ref c1, .ref f1, .ref g1, .long 0, .int 0]))] t) (va_A [(h0, .inr (12, [.int th, .ref n1, .int 0, .ref b1, .ref c1, .ref f1, .ref g1, .long 0, .int 0])), (n1, .inr (1, [.int 0, .ref (aE G), .int 0]))] sz)) 0 0 (va_A [(h0, .inr (12, [.int th, .ref n1, .int 0, .ref b1, .ref c1, .ref f1, .ref g1, .long 0, .int 0])), (n1, .inr (1, [.int 0, .ref (aE G), .int 0]))] sz) := by
  refine Met.ofW (cc := cX17_apply) (maxL := 3) (ret := (some .int)) (by decide) rfl ?_
  intro p e s m args below meth c s₁ B hml hv
  obtain ⟨rfl, hsz, hP, hK, hD0, hE⟩ := hv
  have hx := B.exec
  have hb := B.bytes
  have hr := B.returns
  have hts := w0_tail B.pre
  have hown : s.vm.findClass RX17 = some m.cls := findClass_of_methodNamed B.named
  have hlocks := B.notSynchronized
  subst hsz
  have hD := hD0.self (sz := s.heap.size)
  generalize hAe : va_A [(h0, .inr (12, [.int th, .ref n1, .int 0, .ref b1, .ref c1, .ref f1, .ref g1, .long 0, .int 0])), (n1, .inr (1, [.int 0, .ref (aE G), .int 0]))] s.heap.size = A at hD hE ⊢
  have hA : ∀ q : Nat, s.heap.size ≤ q → A q := fun q h => by rw [← hAe]; exact Or.inr h
  have hS : va_S A s.heap s.heap [] := va_S.rf
  obtain ⟨H, hHe⟩ : ∃ H : Heap, H = s.heap := ⟨_, rfl⟩
  have hP : va_P (DG G) clP1 [(h0, .inr (12, [.int th, .ref n1, .int 0, .ref b1, .ref c1, .ref f1, .ref g1, .long 0, .int 0])), (n1, .inr (1, [.int 0, .ref (aE G), .int 0]))] H := by rw [hHe]; exact hP
  have hS : va_S A s.heap H [] := by rw [hHe]; exact hS
  have hl := lv_entry ([.ref h0, .int p0, .int p1]) (n := 3) (Nat.le_of_ble_eq_true rfl)
  rw [lg_entry_eq, ← hHe]
  generalize (lg_sl ([.ref h0, .int p0, .int p1]) ++ List.replicate (3 - (lg_sl ([.ref h0, .int p0, .int p1])).length) Slot.unset).toArray = ls at hl ⊢
  have hl : lv_has ls 3 [(0, .ref h0), (1, .int p0), (2, .int p1)] := hl
  refine lv_aload_n hx hb dX17_apply_0 rfl (lv_at hl 0 rfl) ?_
  refine lv_bipush (v := 97) hx hb dX17_apply_1 (by decide) ?_
  refine lv_iload_n hx hb dX17_apply_3 rfl (lv_at hl 1 rfl) ?_
  refine lv_iload_n hx hb dX17_apply_4 rfl (lv_at hl 2 rfl) ?_
  have hFc := va_free (wc := [(h0, .inr (12, [.int th, .ref n1, .int 0, .ref b1, .ref c1, .ref f1, .ref g1, .long 0, .int 0])), (n1, .inr (1, [.int 0, .ref (aE G), .int 0]))]) hD hS hA [0, 1] rfl
  refine va_calli (va_runV (As := [.int 97, .int p0, .int p1]) (rest := []) ⟨hx, hb, hml, hown, hts⟩ (k_X17_laysTwo l hfl G h0 97 p0 p1 th n1 b1 c1 f1 g1 H.size) (cwV 3 hts (gV wm1512 wm1514 ws_p34 wm11 wm1515) rfl rfl rfl (by decide +kernel) ⟨Nat.le_of_ble_eq_true rfl, Nat.le_of_ble_eq_true rfl⟩) (pre_v (pre_s hK hP hD hS hE [0, 1] rfl rfl (by decide) hFc) (va_recv hK hP (ci := 12) (q0 := 0) rfl rfl)) rfl rfl hl.1 rfl (lv_room (Nat.le_of_ble_eq_true rfl)) dX17_apply_5 ⟨Nat.le_of_ble_eq_true rfl, Nat.le_of_ble_eq_true rfl⟩) hS (fun q _ h => hFc q h) hFc (fun r u t H locs ht hvm hw hB hz1 hk1 hS => ?_)
  obtain rfl : r = 0 := hw
  obtain ⟨hP1, hD1⟩ := hB
  rw [ht] at hP1
  obtain ⟨hP, hD⟩ := va_join (wr := []) (w1 := [(h0, .inr (12, [.int 1, .ref n1, .int 0, .ref b1, .ref c1, .ref f1, .ref g1, .long 0, .int 0]))]) hP hD [0, 1] [] rfl rfl (by decide) (by decide) hk1 hFc hP1 hD1
  have hP : va_P (DG G) clP1 [(h0, .inr (12, [.int 1, .ref n1, .int 0, .ref b1, .ref c1, .ref f1, .ref g1, .long 0, .int 0]))] H := hP
  have hD : va_D A [(h0, .inr (12, [.int 1, .ref n1, .int 0, .ref b1, .ref c1, .ref f1, .ref g1, .long 0, .int 0]))] := hD
  refine W.widen (k := 0) (n := 0) (Nat.le_of_ble_eq_true rfl) (Nat.le_of_ble_eq_true rfl) ?_
  have hP9 := hP.sub (ws' := [(h0, .inr (12, [.int 1, .ref n1, .int 0, .ref b1, .ref c1, .ref f1, .ref g1, .long 0, .int 0]))]) [0] rfl
  have hD9 := hD.sub (ws' := [(h0, .inr (12, [.int 1, .ref n1, .int 0, .ref b1, .ref c1, .ref f1, .ref g1, .long 0, .int 0]))]) [0] (by decide) rfl
  refine W.widen (k := 0) (n := 0) (Nat.le_of_ble_eq_true rfl) (Nat.le_of_ble_eq_true rfl) ?_
  exact W.iret (v := 0) hx hb hr (fun t ht hW => ⟨⟨0, (), rfl, rfl, ⟨by rw [ht]; exact hP9, hD9⟩⟩, hS.F ht⟩) hS.2.2 dX17_apply_8 hlocks
set_option maxHeartbeats 4000000 in
set_option maxRecDepth 100000 in
theorem k_X17_laysOf (l : Launch) (hfl : l.stackTraces = false) (G : GC) (h0 : Nat) (p0 : Int32) (p1 : Int32) (th : Int32) (n1 : Nat) (b1 : Nat) (c1 : Nat) (f1 : Nat) (g1 : Nat) (sz : Nat) : Met l yX17_laysOf (Cond.code yX17_laysOf cX17_laysOf 4 (some .int) :: W0) ({ frames := 1, cells := 0, slots := 0, locals := 22 }) (va_Pc [.ref h0, .int p0, .int p1, .int 0] (WD G [(h0, .inr (12, [.int th, .ref n1, .int 0, .ref b1, .ref c1, .ref f1, .ref g1, .long 0, .int 0]))] sz)) (va_Qi (fun (r : Int32) (_ : Unit) => r = 0) (fun _ t => PW G (va_A [(h0, .inr (12, [.int th, .ref n1, .int 0, .ref b1, .ref c1, .ref f1, .ref g1, .long 0, .int 0]))] sz) [(h0, .inr (12, [.int 1, .ref n1, .int 0, .ref b1, .ref c1, .ref f1, .ref g1, .long 0, .int 0]))] t) (va_A [(h0, .inr (12, [.int th, .ref n1, .int 0, .ref b1, .ref c1, .ref f1, .ref g1, .long 0, .int 0]))] sz)) 0 0 (va_A [(h0, .inr (12, [.int th, .ref n1, .int 0, .ref b1, .ref c1, .ref f1, .ref g1, .long 0, .int 0]))] sz) := by
  refine Met.ofW (cc := cX17_laysOf) (maxL := 4) (ret := (some .int)) (by decide) rfl ?_
  intro p e s m args below meth c s₁ B hml hv
  obtain ⟨rfl, hsz, hP, hK, hD0, hE⟩ := hv
  have hx := B.exec
  have hb := B.bytes
  have hr := B.returns
  have hts := w0_tail B.pre
  have hown : s.vm.findClass RX17 = some m.cls := findClass_of_methodNamed B.named
  have hlocks := B.notSynchronized
  subst hsz
  have hD := hD0.self (sz := s.heap.size)
  generalize hAe : va_A [(h0, .inr (12, [.int th, .ref n1, .int 0, .ref b1, .ref c1, .ref f1, .ref g1, .long 0, .int 0]))] s.heap.size = A at hD hE ⊢
  have hA : ∀ q : Nat, s.heap.size ≤ q → A q := fun q h => by rw [← hAe]; exact Or.inr h
  have hS : va_S A s.heap s.heap [] := va_S.rf
  obtain ⟨H, hHe⟩ : ∃ H : Heap, H = s.heap := ⟨_, rfl⟩
  have hP : va_P (DG G) clP1 [(h0, .inr (12, [.int th, .ref n1, .int 0, .ref b1, .ref c1, .ref f1, .ref g1, .long 0, .int 0]))] H := by rw [hHe]; exact hP
  have hS : va_S A s.heap H [] := by rw [hHe]; exact hS
  have hl := lv_entry ([.ref h0, .int p0, .int p1, .int 0]) (n := 4) (Nat.le_of_ble_eq_true rfl)
  rw [lg_entry_eq, ← hHe]
  generalize (lg_sl ([.ref h0, .int p0, .int p1, .int 0]) ++ List.replicate (4 - (lg_sl ([.ref h0, .int p0, .int p1, .int 0])).length) Slot.unset).toArray = ls at hl ⊢
  have hl : lv_has ls 4 [(0, .ref h0), (1, .int p0), (2, .int p1), (3, .int 0)] := hl
  refine lv_aload_n hx hb dX17_laysOf_0 rfl (lv_at hl 0 rfl) ?_
  refine lv_iload_n hx hb dX17_laysOf_1 rfl (lv_at hl 2 rfl) ?_
  refine lv_iconst (v := 0) hx hb dX17_laysOf_2 (by decide) ?_
  refine lv_iload_n hx hb dX17_laysOf_3 rfl (lv_at hl 3 rfl) ?_
  refine lv_iconst (v := 1) hx hb dX17_laysOf_4 (by decide) ?_
  refine lv_isub hx hb dX17_laysOf_5 ?_
  refine lv_topi (fun z_1 ez_1 => ?_)
  obtain rfl : z_1 = (-1) := ez_1.trans (by decide)
  have hFc := va_free (wc := []) hD hS hA [] rfl
  refine va_calli (va_runS (As := [.int p1, .int 0, .int (-1)]) (rest := [.ref h0]) ⟨hx, hb, hml, hown, hts⟩ (k_X17_in_0 l hfl G p1 H.size) (cwS 3 hts (gS wm1381 wm1382 wm11 wm1383) rfl rfl rfl (by decide +kernel) ⟨Nat.le_of_ble_eq_true rfl, Nat.le_of_ble_eq_true rfl⟩) (pre_s hK hP hD hS hE [] rfl rfl (by decide) hFc) rfl rfl hl.1 rfl (lv_room (Nat.le_of_ble_eq_true rfl)) dX17_laysOf_6 ⟨Nat.le_of_ble_eq_true rfl, Nat.le_of_ble_eq_true rfl⟩) hS (fun q _ h => hFc q h) hFc (fun r u t H locs ht hvm hw hB hz1 hk1 hS => ?_)
  obtain rfl : r = 0 := hw
  obtain ⟨hP1, hD1⟩ := hB
  rw [ht] at hP1
  obtain ⟨hP, hD⟩ := va_join (wr := [(h0, .inr (12, [.int th, .ref n1, .int 0, .ref b1, .ref c1, .ref f1, .ref g1, .long 0, .int 0]))]) (w1 := []) hP hD [] [0] rfl rfl (by decide) (by decide) hk1 hFc hP1 hD1
  have hP : va_P (DG G) clP1 [(h0, .inr (12, [.int th, .ref n1, .int 0, .ref b1, .ref c1, .ref f1, .ref g1, .long 0, .int 0]))] H := hP
  have hD : va_D A [(h0, .inr (12, [.int th, .ref n1, .int 0, .ref b1, .ref c1, .ref f1, .ref g1, .long 0, .int 0]))] := hD
  refine W.widen (k := 0) (n := 0) (Nat.le_of_ble_eq_true rfl) (Nat.le_of_ble_eq_true rfl) ?_
  refine lv_if_ne (tgt := 16) hx hb dX17_laysOf_9 (by decide) (fun c => absurd (by decide) c) (fun _ => ?_)
  refine lv_iconst (v := 1) hx hb dX17_laysOf_12 (by decide) ?_
  refine lv_goto (tgt := 28) hx hb dX17_laysOf_13 (by decide) ?_
  have hFc := va_free (wc := [(h0, .inr (12, [.int th, .ref n1, .int 0, .ref b1, .ref c1, .ref f1, .ref g1, .long 0, .int 0]))]) hD hS hA [0] rfl
  refine va_calli (va_runV (As := [.int 1]) (rest := []) ⟨hx, hb, hml, hown, hts⟩ (k_X17_fails_1 l hfl G h0 th n1 b1 c1 f1 g1 H.size) (cwV 1 hts (gV wm1392 wm1394 ws_p29 wm11 wm1395) rfl rfl rfl (by decide +kernel) ⟨Nat.le_of_ble_eq_true rfl, Nat.le_of_ble_eq_true rfl⟩) (pre_v (pre_s hK hP hD hS hE [0] rfl rfl (by decide) hFc) (va_recv hK hP (ci := 12) (q0 := 0) rfl rfl)) rfl rfl hl.1 rfl (lv_room (Nat.le_of_ble_eq_true rfl)) dX17_laysOf_28 ⟨Nat.le_of_ble_eq_true rfl, Nat.le_of_ble_eq_true rfl⟩) hS (fun q _ h => hFc q h) hFc (fun r u t H locs ht hvm hw hB hz1 hk1 hS => ?_)
  obtain rfl : r = 1 := hw
  obtain ⟨hP1, hD1⟩ := hB
  rw [ht] at hP1
  obtain ⟨hP, hD⟩ := va_join (wr := []) (w1 := [(h0, .inr (12, [.int 1, .ref n1, .int 0, .ref b1, .ref c1, .ref f1, .ref g1, .long 0, .int 0]))]) hP hD [0] [] rfl rfl (by decide) (by decide) hk1 hFc hP1 hD1
  have hP : va_P (DG G) clP1 [(h0, .inr (12, [.int 1, .ref n1, .int 0, .ref b1, .ref c1, .ref f1, .ref g1, .long 0, .int 0]))] H := hP
  have hD : va_D A [(h0, .inr (12, [.int 1, .ref n1, .int 0, .ref b1, .ref c1, .ref f1, .ref g1, .long 0, .int 0]))] := hD
  refine W.widen (k := 0) (n := 0) (Nat.le_of_ble_eq_true rfl) (Nat.le_of_ble_eq_true rfl) ?_
  refine lv_if_eq (tgt := 38) hx hb dX17_laysOf_31 (by decide) (fun c => absurd c (by decide)) (fun _ => ?_)
  refine lv_iconst (v := 0) hx hb dX17_laysOf_34 (by decide) ?_
  refine lv_goto (tgt := 47) hx hb dX17_laysOf_35 (by decide) ?_
  have hP9 := hP.sub (ws' := [(h0, .inr (12, [.int 1, .ref n1, .int 0, .ref b1, .ref c1, .ref f1, .ref g1, .long 0, .int 0]))]) [0] rfl
  have hD9 := hD.sub (ws' := [(h0, .inr (12, [.int 1, .ref n1, .int 0, .ref b1, .ref c1, .ref f1, .ref g1, .long 0, .int 0]))]) [0] (by decide) rfl
  refine W.widen (k := 0) (n := 0) (Nat.le_of_ble_eq_true rfl) (Nat.le_of_ble_eq_true rfl) ?_
  exact W.iret (v := 0) hx hb hr (fun t ht hW => ⟨⟨0, (), rfl, rfl, ⟨by rw [ht]; exact hP9, hD9⟩⟩, hS.F ht⟩) hS.2.2 dX17_laysOf_47 hlocks
set_option maxHeartbeats 4000000 in
set_option maxRecDepth 100000 in
theorem k_X17_dataNode (l : Launch) (hfl : l.stackTraces = false) (G : GC) (h0 : Nat) (p0 : Int32) (th : Int32) (n1 : Nat) (b1 : Nat) (c1 : Nat) (f1 : Nat) (g1 : Nat) (sz : Nat) : Met l yX17_dataNode (Cond.code yX17_dataNode cX17_dataNode 2 (some .int) :: W0) ({ frames := 2, cells := 0, slots := 0, locals := 45 }) (va_Pc [.ref h0, .int p0] (WD G [(h0, .inr (12, [.int th, .ref n1, .int 0, .ref b1, .ref c1, .ref f1, .ref g1, .long 0, .int 0]))] sz)) (va_Qi (fun (r : Int32) (_ : Unit) => r = 0) (fun _ t => PW G (va_A [(h0, .inr (12, [.int th, .ref n1, .int 0, .ref b1, .ref c1, .ref f1, .ref g1, .long 0, .int 0]))] sz) [(h0, .inr (12, [.int 1, .ref n1, .int 0, .ref b1, .ref c1, .ref f1, .ref g1, .long 0, .int 0]))] t) (va_A [(h0, .inr (12, [.int th, .ref n1, .int 0, .ref b1, .ref c1, .ref f1, .ref g1, .long 0, .int 0]))] sz)) 0 0 (va_A [(h0, .inr (12, [.int th, .ref n1, .int 0, .ref b1, .ref c1, .ref f1, .ref g1, .long 0, .int 0]))] sz) := by
  refine Met.ofW (cc := cX17_dataNode) (maxL := 2) (ret := (some .int)) (by decide) rfl ?_
  intro p e s m args below meth c s₁ B hml hv
  obtain ⟨rfl, hsz, hP, hK, hD0, hE⟩ := hv
  have hx := B.exec
  have hb := B.bytes
  have hr := B.returns
  have hts := w0_tail B.pre
  have hown : s.vm.findClass RX17 = some m.cls := findClass_of_methodNamed B.named
  have hlocks := B.notSynchronized
  subst hsz
  have hD := hD0.self (sz := s.heap.size)
  generalize hAe : va_A [(h0, .inr (12, [.int th, .ref n1, .int 0, .ref b1, .ref c1, .ref f1, .ref g1, .long 0, .int 0]))] s.heap.size = A at hD hE ⊢
  have hA : ∀ q : Nat, s.heap.size ≤ q → A q := fun q h => by rw [← hAe]; exact Or.inr h
  have hS : va_S A s.heap s.heap [] := va_S.rf
  obtain ⟨H, hHe⟩ : ∃ H : Heap, H = s.heap := ⟨_, rfl⟩
  have hP : va_P (DG G) clP1 [(h0, .inr (12, [.int th, .ref n1, .int 0, .ref b1, .ref c1, .ref f1, .ref g1, .long 0, .int 0]))] H := by rw [hHe]; exact hP
  have hS : va_S A s.heap H [] := by rw [hHe]; exact hS
  have hl := lv_entry ([.ref h0, .int p0]) (n := 2) (Nat.le_of_ble_eq_true rfl)
  rw [lg_entry_eq, ← hHe]
  generalize (lg_sl ([.ref h0, .int p0]) ++ List.replicate (2 - (lg_sl ([.ref h0, .int p0])).length) Slot.unset).toArray = ls at hl ⊢
  have hl : lv_has ls 2 [(0, .ref h0), (1, .int p0)] := hl
  refine lv_aload_n hx hb dX17_dataNode_0 rfl (lv_at hl 0 rfl) ?_
  refine lv_bipush (v := 100) hx hb dX17_dataNode_1 (by decide) ?_
  refine lv_iload_n hx hb dX17_dataNode_3 rfl (lv_at hl 1 rfl) ?_
  refine lv_aload_n hx hb dX17_dataNode_4 rfl (lv_at hl 0 rfl) ?_
  refine va_get (D := DG G) (ci := 12) (v := .int 0) (C := RX17) (T := TX17) (N := 9) hx hb hts inW_X17 hown hK hP 0 rfl rfl 2 (by decide) (hts _ wm1347) (fun _ h9 => h9) rfl dX17_dataNode_5 ?_
  have hFc := va_free (wc := [(h0, .inr (12, [.int th, .ref n1, .int 0, .ref b1, .ref c1, .ref f1, .ref g1, .long 0, .int 0]))]) hD hS hA [0] rfl
  refine va_calli (va_runV (As := [.int 100, .int p0, .int 0]) (rest := []) ⟨hx, hb, hml, hown, hts⟩ (k_X17_laysOf l hfl G h0 100 p0 th n1 b1 c1 f1 g1 H.size) (cwV 3 hts (gV wm1546 wm1548 ws_p36 wm11 wm1549) rfl rfl rfl (by decide +kernel) ⟨Nat.le_of_ble_eq_true rfl, Nat.le_of_ble_eq_true rfl⟩) (pre_v (pre_s hK hP hD hS hE [0] rfl rfl (by decide) hFc) (va_recv hK hP (ci := 12) (q0 := 0) rfl rfl)) rfl rfl hl.1 rfl (lv_room (Nat.le_of_ble_eq_true rfl)) dX17_dataNode_8 ⟨Nat.le_of_ble_eq_true rfl, Nat.le_of_ble_eq_true rfl⟩) hS (fun q _ h => hFc q h) hFc (fun r u t H locs ht hvm hw hB hz1 hk1 hS => ?_)
  obtain rfl : r = 0 := hw
  obtain ⟨hP1, hD1⟩ := hB
  rw [ht] at hP1
  obtain ⟨hP, hD⟩ := va_join (wr := []) (w1 := [(h0, .inr (12, [.int 1, .ref n1, .int 0, .ref b1, .ref c1, .ref f1, .ref g1, .long 0, .int 0]))]) hP hD [0] [] rfl rfl (by decide) (by decide) hk1 hFc hP1 hD1
  have hP : va_P (DG G) clP1 [(h0, .inr (12, [.int 1, .ref n1, .int 0, .ref b1, .ref c1, .ref f1, .ref g1, .long 0, .int 0]))] H := hP
  have hD : va_D A [(h0, .inr (12, [.int 1, .ref n1, .int 0, .ref b1, .ref c1, .ref f1, .ref g1, .long 0, .int 0]))] := hD
  refine W.widen (k := 0) (n := 0) (Nat.le_of_ble_eq_true rfl) (Nat.le_of_ble_eq_true rfl) ?_
  have hP9 := hP.sub (ws' := [(h0, .inr (12, [.int 1, .ref n1, .int 0, .ref b1, .ref c1, .ref f1, .ref g1, .long 0, .int 0]))]) [0] rfl
  have hD9 := hD.sub (ws' := [(h0, .inr (12, [.int 1, .ref n1, .int 0, .ref b1, .ref c1, .ref f1, .ref g1, .long 0, .int 0]))]) [0] (by decide) rfl
  refine W.widen (k := 0) (n := 0) (Nat.le_of_ble_eq_true rfl) (Nat.le_of_ble_eq_true rfl) ?_
  exact W.iret (v := 0) hx hb hr (fun t ht hW => ⟨⟨0, (), rfl, rfl, ⟨by rw [ht]; exact hP9, hD9⟩⟩, hS.F ht⟩) hS.2.2 dX17_dataNode_11 hlocks
set_option maxHeartbeats 4000000 in
set_option maxRecDepth 100000 in
theorem k_X17_constructorNode (l : Launch) (hfl : l.stackTraces = false) (G : GC) (h0 : Nat) (p0 : Int32) (th : Int32) (n1 : Nat) (b1 : Nat) (c1 : Nat) (f1 : Nat) (g1 : Nat) (sz : Nat) : Met l yX17_constructorNode (Cond.code yX17_constructorNode cX17_constructorNode 2 (some .int) :: W0) ({ frames := 2, cells := 0, slots := 0, locals := 45 }) (va_Pc [.ref h0, .int p0] (WD G [(h0, .inr (12, [.int th, .ref n1, .int 0, .ref b1, .ref c1, .ref f1, .ref g1, .long 0, .int 0])), (c1, .inr (1, [.int 0, .ref (aE G), .int 0]))] sz)) (va_Qi (fun (r : Int32) (_ : Unit) => r = 0) (fun _ t => PW G (va_A [(h0, .inr (12, [.int th, .ref n1, .int 0, .ref b1, .ref c1, .ref f1, .ref g1, .long 0, .int 0])), (c1, .inr (1, [.int 0, .ref (aE G), .int 0]))] sz) [(h0, .inr (12, [.int 1, .ref n1, .int 0, .ref b1, .ref c1, .ref f1, .ref g1, .long 0, .int 0]))] t) (va_A [(h0, .inr (12, [.int th, .ref n1, .int 0, .ref b1, .ref c1, .ref f1, .ref g1, .long 0, .int 0])), (c1, .inr (1, [.int 0, .ref (aE G), .int 0]))] sz)) 0 0 (va_A [(h0, .inr (12, [.int th, .ref n1, .int 0, .ref b1, .ref c1, .ref f1, .ref g1, .long 0, .int 0])), (c1, .inr (1, [.int 0, .ref (aE G), .int 0]))] sz) := by
  refine Met.ofW (cc := cX17_constructorNode) (maxL := 2) (ret := (some .int)) (by decide) rfl ?_
  intro p e s m args below meth c s₁ B hml hv
  obtain ⟨rfl, hsz, hP, hK, hD0, hE⟩ := hv
  have hx := B.exec
  have hb := B.bytes
  have hr := B.returns
  have hts := w0_tail B.pre
  have hown : s.vm.findClass RX17 = some m.cls := findClass_of_methodNamed B.named
  have hlocks := B.notSynchronized
  subst hsz
  have hD := hD0.self (sz := s.heap.size)
  generalize hAe : va_A [(h0, .inr (12, [.int th, .ref n1, .int 0, .ref b1, .ref c1, .ref f1, .ref g1, .long 0, .int 0])), (c1, .inr (1, [.int 0, .ref (aE G), .int 0]))] s.heap.size = A at hD hE ⊢
  have hA : ∀ q : Nat, s.heap.size ≤ q → A q := fun q h => by rw [← hAe]; exact Or.inr h
  have hS : va_S A s.heap s.heap [] := va_S.rf
  obtain ⟨H, hHe⟩ : ∃ H : Heap, H = s.heap := ⟨_, rfl⟩
  have hP : va_P (DG G) clP1 [(h0, .inr (12, [.int th, .ref n1, .int 0, .ref b1, .ref c1, .ref f1, .ref g1, .long 0, .int 0])), (c1, .inr (1, [.int 0, .ref (aE G), .int 0]))] H := by rw [hHe]; exact hP
  have hS : va_S A s.heap H [] := by rw [hHe]; exact hS
  have hl := lv_entry ([.ref h0, .int p0]) (n := 2) (Nat.le_of_ble_eq_true rfl)
  rw [lg_entry_eq, ← hHe]
  generalize (lg_sl ([.ref h0, .int p0]) ++ List.replicate (2 - (lg_sl ([.ref h0, .int p0])).length) Slot.unset).toArray = ls at hl ⊢
  have hl : lv_has ls 2 [(0, .ref h0), (1, .int p0)] := hl
  refine lv_aload_n hx hb dX17_constructorNode_0 rfl (lv_at hl 0 rfl) ?_
  refine lv_bipush (v := 99) hx hb dX17_constructorNode_1 (by decide) ?_
  refine lv_iload_n hx hb dX17_constructorNode_3 rfl (lv_at hl 1 rfl) ?_
  refine lv_aload_n hx hb dX17_constructorNode_4 rfl (lv_at hl 0 rfl) ?_
  refine va_get (D := DG G) (ci := 12) (v := .ref c1) (C := RX17) (T := TX17) (N := 9) hx hb hts inW_X17 hown hK hP 0 rfl rfl 4 (by decide) (hts _ wm1349) (fun _ h9 => h9) rfl dX17_constructorNode_5 ?_
  have hFc := va_free (wc := [(c1, .inr (1, [.int 0, .ref (aE G), .int 0]))]) hD hS hA [1] rfl
  refine va_calli (va_runV (As := []) (rest := [.int p0, .int 99, .ref h0]) ⟨hx, hb, hml, hown, hts⟩ (k_J_alSize l hfl G c1 0 ((aE G)) 0 H.size) (cwV 0 hts (gV wm1388 wm1389 wm1390 wm14 wm1391) rfl rfl rfl (by decide +kernel) ⟨Nat.le_of_ble_eq_true rfl, Nat.le_of_ble_eq_true rfl⟩) (pre_v (pre_s hK hP hD hS hE [1] rfl rfl (by decide) hFc) (va_recv hK hP (ci := 1) (q0 := 1) rfl rfl)) rfl rfl hl.1 rfl (lv_room (Nat.le_of_ble_eq_true rfl)) dX17_constructorNode_8 ⟨Nat.le_of_ble_eq_true rfl, Nat.le_of_ble_eq_true rfl⟩) hS (fun q _ h => hFc q h) hFc (fun r u t H locs ht hvm hw hB hz1 hk1 hS => ?_)
  obtain rfl : r = 0 := hw
  obtain ⟨hP1, hD1⟩ := hB
  rw [ht] at hP1
  obtain ⟨hP, hD⟩ := va_join (wr := [(h0, .inr (12, [.int th, .ref n1, .int 0, .ref b1, .ref c1, .ref f1, .ref g1, .long 0, .int 0]))]) (w1 := [(c1, .inr (1, [.int 0, .ref (aE G), .int 0]))]) hP hD [1] [0] rfl rfl (by decide) (by decide) hk1 hFc hP1 hD1
  have hP : va_P (DG G) clP1 [(h0, .inr (12, [.int th, .ref n1, .int 0, .ref b1, .ref c1, .ref f1, .ref g1, .long 0, .int 0])), (c1, .inr (1, [.int 0, .ref (aE G), .int 0]))] H := hP
  have hD : va_D A [(h0, .inr (12, [.int th, .ref n1, .int 0, .ref b1, .ref c1, .ref f1, .ref g1, .long 0, .int 0])), (c1, .inr (1, [.int 0, .ref (aE G), .int 0]))] := hD
  refine W.widen (k := 0) (n := 0) (Nat.le_of_ble_eq_true rfl) (Nat.le_of_ble_eq_true rfl) ?_
  have hFc := va_free (wc := [(h0, .inr (12, [.int th, .ref n1, .int 0, .ref b1, .ref c1, .ref f1, .ref g1, .long 0, .int 0]))]) hD hS hA [0] rfl
  refine va_calli (va_runV (As := [.int 99, .int p0, .int 0]) (rest := []) ⟨hx, hb, hml, hown, hts⟩ (k_X17_laysOf l hfl G h0 99 p0 th n1 b1 c1 f1 g1 H.size) (cwV 3 hts (gV wm1546 wm1548 ws_p36 wm11 wm1549) rfl rfl rfl (by decide +kernel) ⟨Nat.le_of_ble_eq_true rfl, Nat.le_of_ble_eq_true rfl⟩) (pre_v (pre_s hK hP hD hS hE [0] rfl rfl (by decide) hFc) (va_recv hK hP (ci := 12) (q0 := 0) rfl rfl)) rfl rfl hl.1 rfl (lv_room (Nat.le_of_ble_eq_true rfl)) dX17_constructorNode_11 ⟨Nat.le_of_ble_eq_true rfl, Nat.le_of_ble_eq_true rfl⟩) hS (fun q _ h => hFc q h) hFc (fun r u t H locs ht hvm hw hB hz1 hk1 hS => ?_)
  obtain rfl : r = 0 := hw
  obtain ⟨hP1, hD1⟩ := hB
  rw [ht] at hP1
  obtain ⟨hP, hD⟩ := va_join (wr := [(c1, .inr (1, [.int 0, .ref (aE G), .int 0]))]) (w1 := [(h0, .inr (12, [.int 1, .ref n1, .int 0, .ref b1, .ref c1, .ref f1, .ref g1, .long 0, .int 0]))]) hP hD [0] [1] rfl rfl (by decide) (by decide) hk1 hFc hP1 hD1
  have hP : va_P (DG G) clP1 [(c1, .inr (1, [.int 0, .ref (aE G), .int 0])), (h0, .inr (12, [.int 1, .ref n1, .int 0, .ref b1, .ref c1, .ref f1, .ref g1, .long 0, .int 0]))] H := hP
  have hD : va_D A [(c1, .inr (1, [.int 0, .ref (aE G), .int 0])), (h0, .inr (12, [.int 1, .ref n1, .int 0, .ref b1, .ref c1, .ref f1, .ref g1, .long 0, .int 0]))] := hD
  refine W.widen (k := 0) (n := 0) (Nat.le_of_ble_eq_true rfl) (Nat.le_of_ble_eq_true rfl) ?_
  have hP9 := hP.sub (ws' := [(h0, .inr (12, [.int 1, .ref n1, .int 0, .ref b1, .ref c1, .ref f1, .ref g1, .long 0, .int 0]))]) [1] rfl
  have hD9 := hD.sub (ws' := [(h0, .inr (12, [.int 1, .ref n1, .int 0, .ref b1, .ref c1, .ref f1, .ref g1, .long 0, .int 0]))]) [1] (by decide) rfl
  refine W.widen (k := 0) (n := 0) (Nat.le_of_ble_eq_true rfl) (Nat.le_of_ble_eq_true rfl) ?_
  exact W.iret (v := 0) hx hb hr (fun t ht hW => ⟨⟨0, (), rfl, rfl, ⟨by rw [ht]; exact hP9, hD9⟩⟩, hS.F ht⟩) hS.2.2 dX17_constructorNode_14 hlocks
set_option maxHeartbeats 4000000 in
set_option maxRecDepth 100000 in
theorem k_X17_functionNode (l : Launch) (hfl : l.stackTraces = false) (G : GC) (h0 : Nat) (p0 : Int32) (th : Int32) (n1 : Nat) (b1 : Nat) (c1 : Nat) (f1 : Nat) (g1 : Nat) (sz : Nat) : Met l yX17_functionNode (Cond.code yX17_functionNode cX17_functionNode 2 (some .int) :: W0) ({ frames := 2, cells := 0, slots := 0, locals := 45 }) (va_Pc [.ref h0, .int p0] (WD G [(h0, .inr (12, [.int th, .ref n1, .int 0, .ref b1, .ref c1, .ref f1, .ref g1, .long 0, .int 0])), (f1, .inr (1, [.int 0, .ref (aE G), .int 0]))] sz)) (va_Qi (fun (r : Int32) (_ : Unit) => r = 0) (fun _ t => PW G (va_A [(h0, .inr (12, [.int th, .ref n1, .int 0, .ref b1, .ref c1, .ref f1, .ref g1, .long 0, .int 0])), (f1, .inr (1, [.int 0, .ref (aE G), .int 0]))] sz) [(h0, .inr (12, [.int 1, .ref n1, .int 0, .ref b1, .ref c1, .ref f1, .ref g1, .long 0, .int 0]))] t) (va_A [(h0, .inr (12, [.int th, .ref n1, .int 0, .ref b1, .ref c1, .ref f1, .ref g1, .long 0, .int 0])), (f1, .inr (1, [.int 0, .ref (aE G), .int 0]))] sz)) 0 0 (va_A [(h0, .inr (12, [.int th, .ref n1, .int 0, .ref b1, .ref c1, .ref f1, .ref g1, .long 0, .int 0])), (f1, .inr (1, [.int 0, .ref (aE G), .int 0]))] sz) := by
  refine Met.ofW (cc := cX17_functionNode) (maxL := 2) (ret := (some .int)) (by decide) rfl ?_
  intro p e s m args below meth c s₁ B hml hv
  obtain ⟨rfl, hsz, hP, hK, hD0, hE⟩ := hv
  have hx := B.exec
  have hb := B.bytes
  have hr := B.returns
  have hts := w0_tail B.pre
  have hown : s.vm.findClass RX17 = some m.cls := findClass_of_methodNamed B.named
  have hlocks := B.notSynchronized
  subst hsz
  have hD := hD0.self (sz := s.heap.size)
  generalize hAe : va_A [(h0, .inr (12, [.int th, .ref n1, .int 0, .ref b1, .ref c1, .ref f1, .ref g1, .long 0, .int 0])), (f1, .inr (1, [.int 0, .ref (aE G), .int 0]))] s.heap.size = A at hD hE ⊢
  have hA : ∀ q : Nat, s.heap.size ≤ q → A q := fun q h => by rw [← hAe]; exact Or.inr h
  have hS : va_S A s.heap s.heap [] := va_S.rf
  obtain ⟨H, hHe⟩ : ∃ H : Heap, H = s.heap := ⟨_, rfl⟩
  have hP : va_P (DG G) clP1 [(h0, .inr (12, [.int th, .ref n1, .int 0, .ref b1, .ref c1, .ref f1, .ref g1, .long 0, .int 0])), (f1, .inr (1, [.int 0, .ref (aE G), .int 0]))] H := by rw [hHe]; exact hP
  have hS : va_S A s.heap H [] := by rw [hHe]; exact hS
  have hl := lv_entry ([.ref h0, .int p0]) (n := 2) (Nat.le_of_ble_eq_true rfl)
  rw [lg_entry_eq, ← hHe]
  generalize (lg_sl ([.ref h0, .int p0]) ++ List.replicate (2 - (lg_sl ([.ref h0, .int p0])).length) Slot.unset).toArray = ls at hl ⊢
  have hl : lv_has ls 2 [(0, .ref h0), (1, .int p0)] := hl
  refine lv_aload_n hx hb dX17_functionNode_0 rfl (lv_at hl 0 rfl) ?_
  refine lv_bipush (v := 102) hx hb dX17_functionNode_1 (by decide) ?_
  refine lv_iload_n hx hb dX17_functionNode_3 rfl (lv_at hl 1 rfl) ?_
  refine lv_aload_n hx hb dX17_functionNode_4 rfl (lv_at hl 0 rfl) ?_
  refine va_get (D := DG G) (ci := 12) (v := .ref f1) (C := RX17) (T := TX17) (N := 9) hx hb hts inW_X17 hown hK hP 0 rfl rfl 5 (by decide) (hts _ wm1350) (fun _ h9 => h9) rfl dX17_functionNode_5 ?_
  have hFc := va_free (wc := [(f1, .inr (1, [.int 0, .ref (aE G), .int 0]))]) hD hS hA [1] rfl
  refine va_calli (va_runV (As := []) (rest := [.int p0, .int 102, .ref h0]) ⟨hx, hb, hml, hown, hts⟩ (k_J_alSize l hfl G f1 0 ((aE G)) 0 H.size) (cwV 0 hts (gV wm1388 wm1389 wm1390 wm14 wm1391) rfl rfl rfl (by decide +kernel) ⟨Nat.le_of_ble_eq_true rfl, Nat.le_of_ble_eq_true rfl⟩) (pre_v (pre_s hK hP hD hS hE [1] rfl rfl (by decide) hFc) (va_recv hK hP (ci := 1) (q0 := 1) rfl rfl)) rfl rfl hl.1 rfl (lv_room (Nat.le_of_ble_eq_true rfl)) dX17_functionNode_8 ⟨Nat.le_of_ble_eq_true rfl, Nat.le_of_ble_eq_true rfl⟩) hS (fun q _ h => hFc q h) hFc (fun r u t H locs ht hvm hw hB hz1 hk1 hS => ?_)
  obtain rfl : r = 0 := hw
  obtain ⟨hP1, hD1⟩ := hB
  rw [ht] at hP1
  obtain ⟨hP, hD⟩ := va_join (wr := [(h0, .inr (12, [.int th, .ref n1, .int 0, .ref b1, .ref c1, .ref f1, .ref g1, .long 0, .int 0]))]) (w1 := [(f1, .inr (1, [.int 0, .ref (aE G), .int 0]))]) hP hD [1] [0] rfl rfl (by decide) (by decide) hk1 hFc hP1 hD1
  have hP : va_P (DG G) clP1 [(h0, .inr (12, [.int th, .ref n1, .int 0, .ref b1, .ref c1, .ref f1, .ref g1, .long 0, .int 0])), (f1, .inr (1, [.int 0, .ref (aE G), .int 0]))] H := hP
  have hD : va_D A [(h0, .inr (12, [.int th, .ref n1, .int 0, .ref b1, .ref c1, .ref f1, .ref g1, .long 0, .int 0])), (f1, .inr (1, [.int 0, .ref (aE G), .int 0]))] := hD
  refine W.widen (k := 0) (n := 0) (Nat.le_of_ble_eq_true rfl) (Nat.le_of_ble_eq_true rfl) ?_
  have hFc := va_free (wc := [(h0, .inr (12, [.int th, .ref n1, .int 0, .ref b1, .ref c1, .ref f1, .ref g1, .long 0, .int 0]))]) hD hS hA [0] rfl
  refine va_calli (va_runV (As := [.int 102, .int p0, .int 0]) (rest := []) ⟨hx, hb, hml, hown, hts⟩ (k_X17_laysOf l hfl G h0 102 p0 th n1 b1 c1 f1 g1 H.size) (cwV 3 hts (gV wm1546 wm1548 ws_p36 wm11 wm1549) rfl rfl rfl (by decide +kernel) ⟨Nat.le_of_ble_eq_true rfl, Nat.le_of_ble_eq_true rfl⟩) (pre_v (pre_s hK hP hD hS hE [0] rfl rfl (by decide) hFc) (va_recv hK hP (ci := 12) (q0 := 0) rfl rfl)) rfl rfl hl.1 rfl (lv_room (Nat.le_of_ble_eq_true rfl)) dX17_functionNode_11 ⟨Nat.le_of_ble_eq_true rfl, Nat.le_of_ble_eq_true rfl⟩) hS (fun q _ h => hFc q h) hFc (fun r u t H locs ht hvm hw hB hz1 hk1 hS => ?_)
  obtain rfl : r = 0 := hw
  obtain ⟨hP1, hD1⟩ := hB
  rw [ht] at hP1
  obtain ⟨hP, hD⟩ := va_join (wr := [(f1, .inr (1, [.int 0, .ref (aE G), .int 0]))]) (w1 := [(h0, .inr (12, [.int 1, .ref n1, .int 0, .ref b1, .ref c1, .ref f1, .ref g1, .long 0, .int 0]))]) hP hD [0] [1] rfl rfl (by decide) (by decide) hk1 hFc hP1 hD1
  have hP : va_P (DG G) clP1 [(f1, .inr (1, [.int 0, .ref (aE G), .int 0])), (h0, .inr (12, [.int 1, .ref n1, .int 0, .ref b1, .ref c1, .ref f1, .ref g1, .long 0, .int 0]))] H := hP
  have hD : va_D A [(f1, .inr (1, [.int 0, .ref (aE G), .int 0])), (h0, .inr (12, [.int 1, .ref n1, .int 0, .ref b1, .ref c1, .ref f1, .ref g1, .long 0, .int 0]))] := hD
  refine W.widen (k := 0) (n := 0) (Nat.le_of_ble_eq_true rfl) (Nat.le_of_ble_eq_true rfl) ?_
  have hP9 := hP.sub (ws' := [(h0, .inr (12, [.int 1, .ref n1, .int 0, .ref b1, .ref c1, .ref f1, .ref g1, .long 0, .int 0]))]) [1] rfl
  have hD9 := hD.sub (ws' := [(h0, .inr (12, [.int 1, .ref n1, .int 0, .ref b1, .ref c1, .ref f1, .ref g1, .long 0, .int 0]))]) [1] (by decide) rfl
  refine W.widen (k := 0) (n := 0) (Nat.le_of_ble_eq_true rfl) (Nat.le_of_ble_eq_true rfl) ?_
  exact W.iret (v := 0) hx hb hr (fun t ht hW => ⟨⟨0, (), rfl, rfl, ⟨by rw [ht]; exact hP9, hD9⟩⟩, hS.F ht⟩) hS.2.2 dX17_functionNode_14 hlocks
set_option maxHeartbeats 4000000 in
set_option maxRecDepth 100000 in
theorem k_X17_addData (l : Launch) (hfl : l.stackTraces = false) (G : GC) (h0 : Nat) (th : Int32) (n1 : Nat) (b1 : Nat) (c1 : Nat) (f1 : Nat) (g1 : Nat) (sz : Nat) : Met l yX17_addData (Cond.code yX17_addData cX17_addData 1 (some .int) :: W0) ({ frames := 1, cells := 0, slots := 0, locals := 21 }) (va_Pc [.ref h0] (WD G [(h0, .inr (12, [.int th, .ref n1, .int 0, .ref b1, .ref c1, .ref f1, .ref g1, .long 0, .int 0]))] sz)) (va_Qi (fun (r : Int32) (_ : Unit) => r = 0) (fun _ t => PW G (va_A [(h0, .inr (12, [.int th, .ref n1, .int 0, .ref b1, .ref c1, .ref f1, .ref g1, .long 0, .int 0]))] sz) [(h0, .inr (12, [.int 0, .ref n1, .int 1, .ref b1, .ref c1, .ref f1, .ref g1, .long 0, .int 0]))] t) (va_A [(h0, .inr (12, [.int th, .ref n1, .int 0, .ref b1, .ref c1, .ref f1, .ref g1, .long 0, .int 0]))] sz)) 0 0 (va_A [(h0, .inr (12, [.int th, .ref n1, .int 0, .ref b1, .ref c1, .ref f1, .ref g1, .long 0, .int 0]))] sz) := by
  refine Met.ofW (cc := cX17_addData) (maxL := 1) (ret := (some .int)) (by decide) rfl ?_
  intro p e s m args below meth c s₁ B hml hv
  obtain ⟨rfl, hsz, hP, hK, hD0, hE⟩ := hv
  have hx := B.exec
  have hb := B.bytes
  have hr := B.returns
  have hts := w0_tail B.pre
  have hown : s.vm.findClass RX17 = some m.cls := findClass_of_methodNamed B.named
  have hlocks := B.notSynchronized
  subst hsz
  have hD := hD0.self (sz := s.heap.size)
  generalize hAe : va_A [(h0, .inr (12, [.int th, .ref n1, .int 0, .ref b1, .ref c1, .ref f1, .ref g1, .long 0, .int 0]))] s.heap.size = A at hD hE ⊢
  have hA : ∀ q : Nat, s.heap.size ≤ q → A q := fun q h => by rw [← hAe]; exact Or.inr h
  have hS : va_S A s.heap s.heap [] := va_S.rf
  obtain ⟨H, hHe⟩ : ∃ H : Heap, H = s.heap := ⟨_, rfl⟩
  have hP : va_P (DG G) clP1 [(h0, .inr (12, [.int th, .ref n1, .int 0, .ref b1, .ref c1, .ref f1, .ref g1, .long 0, .int 0]))] H := by rw [hHe]; exact hP
  have hS : va_S A s.heap H [] := by rw [hHe]; exact hS
  have hl := lv_entry ([.ref h0]) (n := 1) (Nat.le_of_ble_eq_true rfl)
  rw [lg_entry_eq, ← hHe]
  generalize (lg_sl ([.ref h0]) ++ List.replicate (1 - (lg_sl ([.ref h0])).length) Slot.unset).toArray = ls at hl ⊢
  have hl : lv_has ls 1 [(0, .ref h0)] := hl
  refine lv_aload_n hx hb dX17_addData_0 rfl (lv_at hl 0 rfl) ?_
  refine lv_aload_n hx hb dX17_addData_1 rfl (lv_at hl 0 rfl) ?_
  refine va_get (D := DG G) (ci := 12) (v := .int 0) (C := RX17) (T := TX17) (N := 9) hx hb hts inW_X17 hown hK hP 0 rfl rfl 2 (by decide) (hts _ wm1347) (fun _ h9 => h9) rfl dX17_addData_2 ?_
  refine lv_bipush (v := 6) hx hb dX17_addData_5 (by decide) ?_
  refine lv_icmp_ne (tgt := 14) hx hb dX17_addData_7 (by decide) (fun _ => ?_) (fun c => absurd c (by decide))
  refine lv_iconst (v := 0) hx hb dX17_addData_14 (by decide) ?_
  have hFc := va_free (wc := [(h0, .inr (12, [.int th, .ref n1, .int 0, .ref b1, .ref c1, .ref f1, .ref g1, .long 0, .int 0]))]) hD hS hA [0] rfl
  refine va_calli (va_runV (As := [.int 0]) (rest := []) ⟨hx, hb, hml, hown, hts⟩ (k_X17_fails_0 l hfl G h0 th n1 b1 c1 f1 g1 H.size) (cwV 1 hts (gV wm1392 wm1394 ws_p29 wm11 wm1395) rfl rfl rfl (by decide +kernel) ⟨Nat.le_of_ble_eq_true rfl, Nat.le_of_ble_eq_true rfl⟩) (pre_v (pre_s hK hP hD hS hE [0] rfl rfl (by decide) hFc) (va_recv hK hP (ci := 12) (q0 := 0) rfl rfl)) rfl rfl hl.1 rfl (lv_room (Nat.le_of_ble_eq_true rfl)) dX17_addData_15 ⟨Nat.le_of_ble_eq_true rfl, Nat.le_of_ble_eq_true rfl⟩) hS (fun q _ h => hFc q h) hFc (fun r u t H locs ht hvm hw hB hz1 hk1 hS => ?_)
  obtain rfl : r = 0 := hw
  obtain ⟨hP1, hD1⟩ := hB
  rw [ht] at hP1
  obtain ⟨hP, hD⟩ := va_join (wr := []) (w1 := [(h0, .inr (12, [.int 0, .ref n1, .int 0, .ref b1, .ref c1, .ref f1, .ref g1, .long 0, .int 0]))]) hP hD [0] [] rfl rfl (by decide) (by decide) hk1 hFc hP1 hD1
  have hP : va_P (DG G) clP1 [(h0, .inr (12, [.int 0, .ref n1, .int 0, .ref b1, .ref c1, .ref f1, .ref g1, .long 0, .int 0]))] H := hP
  have hD : va_D A [(h0, .inr (12, [.int 0, .ref n1, .int 0, .ref b1, .ref c1, .ref f1, .ref g1, .long 0, .int 0]))] := hD
  refine W.widen (k := 0) (n := 0) (Nat.le_of_ble_eq_true rfl) (Nat.le_of_ble_eq_true rfl) ?_
  refine lv_if_eq (tgt := 23) hx hb dX17_addData_18 (by decide) (fun _ => ?_) (fun c => absurd (by decide) c)
  refine lv_aload_n hx hb dX17_addData_23 rfl (lv_at hl 0 rfl) ?_
  refine lv_dup hx hb dX17_addData_24 rfl ?_
  refine va_get (D := DG G) (ci := 12) (v := .int 0) (C := RX17) (T := TX17) (N := 9) hx hb hts inW_X17 hown hK hP 0 rfl rfl 2 (by decide) (hts _ wm1347) (fun _ h9 => h9) rfl dX17_addData_25 ?_
  refine lv_iconst (v := 1) hx hb dX17_addData_28 (by decide) ?_
  refine lv_iadd hx hb dX17_addData_29 ?_
  refine lv_topi (fun z_1 ez_1 => ?_)
  obtain rfl : z_1 = 1 := ez_1.trans (by decide)
  refine va_put (D := DG G) (ci := 12) (v := .int 1) (ty := tyX17 2) (C := RX17) (T := TX17) (N := 9) hx hb hts inW_X17 tyX17 tyX17_ok nmX17 hown hK hP hD hS 0 rfl rfl 2 (by decide) (hts _ wm1347) (fun _ h9 => h9) rfl (by decide +kernel) rfl rfl (Nat.le_of_ble_eq_true rfl) dX17_addData_30 (fun H locs hP hD hS => ?_)
  have hP : va_P (DG G) clP1 [(h0, .inr (12, [.int 0, .ref n1, .int 1, .ref b1, .ref c1, .ref f1, .ref g1, .long 0, .int 0]))] H := hP
  have hD : va_D A [(h0, .inr (12, [.int 0, .ref n1, .int 1, .ref b1, .ref c1, .ref f1, .ref g1, .long 0, .int 0]))] := hD
  refine lv_aload_n hx hb dX17_addData_33 rfl (lv_at hl 0 rfl) ?_
  refine va_get (D := DG G) (ci := 12) (v := .int 1) (C := RX17) (T := TX17) (N := 9) hx hb hts inW_X17 hown hK hP 0 rfl rfl 2 (by decide) (hts _ wm1347) (fun _ h9 => h9) rfl dX17_addData_34 ?_
  refine lv_iconst (v := 1) hx hb dX17_addData_37 (by decide) ?_
  refine lv_isub hx hb dX17_addData_38 ?_
  refine lv_topi (fun z_2 ez_2 => ?_)
  obtain rfl : z_2 = 0 := ez_2.trans (by decide)
  have hP9 := hP.sub (ws' := [(h0, .inr (12, [.int 0, .ref n1, .int 1, .ref b1, .ref c1, .ref f1, .ref g1, .long 0, .int 0]))]) [0] rfl
  have hD9 := hD.sub (ws' := [(h0, .inr (12, [.int 0, .ref n1, .int 1, .ref b1, .ref c1, .ref f1, .ref g1, .long 0, .int 0]))]) [0] (by decide) rfl
  refine W.widen (k := 0) (n := 0) (Nat.le_of_ble_eq_true rfl) (Nat.le_of_ble_eq_true rfl) ?_
  exact W.iret (v := 0) hx hb hr (fun t ht hW => ⟨⟨0, (), rfl, rfl, ⟨by rw [ht]; exact hP9, hD9⟩⟩, hS.F ht⟩) hS.2.2 dX17_addData_39 hlocks
set_option maxHeartbeats 4000000 in
set_option maxRecDepth 100000 in
theorem k_X17_isData (l : Launch) (hfl : l.stackTraces = false) (G : GC) (h0 : Nat) (p0 : Int32) (th : Int32) (n1 : Nat) (b1 : Nat) (c1 : Nat) (f1 : Nat) (g1 : Nat) (sz : Nat) : Met l yX17_isData (Cond.code yX17_isData cX17_isData 2 (some .boolean) :: W0) ({ frames := 1, cells := 0, slots := 0, locals := 22 }) (va_Pc [.ref h0, .int p0] (WD G [(h0, .inr (12, [.int th, .ref n1, .int 0, .ref b1, .ref c1, .ref f1, .ref g1, .long 0, .int 0]))] sz)) (va_Qi (fun (r : Int32) (_ : Unit) => r = 0) (fun _ t => PW G (va_A [(h0, .inr (12, [.int th, .ref n1, .int 0, .ref b1, .ref c1, .ref f1, .ref g1, .long 0, .int 0]))] sz) [(h0, .inr (12, [.int th, .ref n1, .int 0, .ref b1, .ref c1, .ref f1, .ref g1, .long 0, .int 0]))] t) (va_A [(h0, .inr (12, [.int th, .ref n1, .int 0, .ref b1, .ref c1, .ref f1, .ref g1, .long 0, .int 0]))] sz)) 0 0 (va_A [(h0, .inr (12, [.int th, .ref n1, .int 0, .ref b1, .ref c1, .ref f1, .ref g1, .long 0, .int 0]))] sz) := by
  refine Met.ofW (cc := cX17_isData) (maxL := 2) (ret := (some .boolean)) (by decide) rfl ?_
  intro p e s m args below meth c s₁ B hml hv
  obtain ⟨rfl, hsz, hP, hK, hD0, hE⟩ := hv
  have hx := B.exec
  have hb := B.bytes
  have hr := B.returns
  have hts := w0_tail B.pre
  have hown : s.vm.findClass RX17 = some m.cls := findClass_of_methodNamed B.named
  have hlocks := B.notSynchronized
  subst hsz
  have hD := hD0.self (sz := s.heap.size)
  generalize hAe : va_A [(h0, .inr (12, [.int th, .ref n1, .int 0, .ref b1, .ref c1, .ref f1, .ref g1, .long 0, .int 0]))] s.heap.size = A at hD hE ⊢
  have hA : ∀ q : Nat, s.heap.size ≤ q → A q := fun q h => by rw [← hAe]; exact Or.inr h
  have hS : va_S A s.heap s.heap [] := va_S.rf
  obtain ⟨H, hHe⟩ : ∃ H : Heap, H = s.heap := ⟨_, rfl⟩
  have hP : va_P (DG G) clP1 [(h0, .inr (12, [.int th, .ref n1, .int 0, .ref b1, .ref c1, .ref f1, .ref g1, .long 0, .int 0]))] H := by rw [hHe]; exact hP
  have hS : va_S A s.heap H [] := by rw [hHe]; exact hS
  have hl := lv_entry ([.ref h0, .int p0]) (n := 2) (Nat.le_of_ble_eq_true rfl)
  rw [lg_entry_eq, ← hHe]
  generalize (lg_sl ([.ref h0, .int p0]) ++ List.replicate (2 - (lg_sl ([.ref h0, .int p0])).length) Slot.unset).toArray = ls at hl ⊢
  have hl : lv_has ls 2 [(0, .ref h0), (1, .int p0)] := hl
  refine lv_iload_n hx hb dX17_isData_0 rfl (lv_at hl 1 rfl) ?_
  refine lv_iconst (v := 0) hx hb dX17_isData_1 (by decide) ?_
  refine lv_aload_n hx hb dX17_isData_2 rfl (lv_at hl 0 rfl) ?_
  refine va_get (D := DG G) (ci := 12) (v := .int 0) (C := RX17) (T := TX17) (N := 9) hx hb hts inW_X17 hown hK hP 0 rfl rfl 2 (by decide) (hts _ wm1347) (fun _ h9 => h9) rfl dX17_isData_3 ?_
  refine lv_iconst (v := 1) hx hb dX17_isData_6 (by decide) ?_
  refine lv_isub hx hb dX17_isData_7 ?_
  refine lv_topi (fun z_1 ez_1 => ?_)
  obtain rfl : z_1 = (-1) := ez_1.trans (by decide)
  have hFc := va_free (wc := []) hD hS hA [] rfl
  refine va_calli (va_runS (As := [.int p0, .int 0, .int (-1)]) (rest := []) ⟨hx, hb, hml, hown, hts⟩ (k_X17_in_0 l hfl G p0 H.size) (cwS 3 hts (gS wm1381 wm1382 wm11 wm1383) rfl rfl rfl (by decide +kernel) ⟨Nat.le_of_ble_eq_true rfl, Nat.le_of_ble_eq_true rfl⟩) (pre_s hK hP hD hS hE [] rfl rfl (by decide) hFc) rfl rfl hl.1 rfl (lv_room (Nat.le_of_ble_eq_true rfl)) dX17_isData_8 ⟨Nat.le_of_ble_eq_true rfl, Nat.le_of_ble_eq_true rfl⟩) hS (fun q _ h => hFc q h) hFc (fun r u t H locs ht hvm hw hB hz1 hk1 hS => ?_)
  obtain rfl : r = 0 := hw
  obtain ⟨hP1, hD1⟩ := hB
  rw [ht] at hP1
  obtain ⟨hP, hD⟩ := va_join (wr := [(h0, .inr (12, [.int th, .ref n1, .int 0, .ref b1, .ref c1, .ref f1, .ref g1, .long 0, .int 0]))]) (w1 := []) hP hD [] [0] rfl rfl (by decide) (by decide) hk1 hFc hP1 hD1
  have hP : va_P (DG G) clP1 [(h0, .inr (12, [.int th, .ref n1, .int 0, .ref b1, .ref c1, .ref f1, .ref g1, .long 0, .int 0]))] H := hP
  have hD : va_D A [(h0, .inr (12, [.int th, .ref n1, .int 0, .ref b1, .ref c1, .ref f1, .ref g1, .long 0, .int 0]))] := hD
  refine W.widen (k := 0) (n := 0) (Nat.le_of_ble_eq_true rfl) (Nat.le_of_ble_eq_true rfl) ?_
  have hP9 := hP.sub (ws' := [(h0, .inr (12, [.int th, .ref n1, .int 0, .ref b1, .ref c1, .ref f1, .ref g1, .long 0, .int 0]))]) [0] rfl
  have hD9 := hD.sub (ws' := [(h0, .inr (12, [.int th, .ref n1, .int 0, .ref b1, .ref c1, .ref f1, .ref g1, .long 0, .int 0]))]) [0] (by decide) rfl
  refine W.widen (k := 0) (n := 0) (Nat.le_of_ble_eq_true rfl) (Nat.le_of_ble_eq_true rfl) ?_
  exact W.zret (v := 0) (ty := .boolean) hx hb hr (by decide) (fun t ht hW => ⟨⟨0, (), rfl, rfl, ⟨by rw [ht]; exact hP9, hD9⟩⟩, hS.F ht⟩) hS.2.2 dX17_isData_11 hlocks
set_option maxHeartbeats 4000000 in
set_option maxRecDepth 100000 in
theorem k_X17_addConstructor (l : Launch) (hfl : l.stackTraces = false) (G : GC) (h0 : Nat) (p0 : Int32) (p1 : Int32) (p2 : Int32) (p3 : Int32) (p4 : Int32) (th : Int32) (n1 : Nat) (b1 : Nat) (c1 : Nat) (f1 : Nat) (g1 : Nat) (sz : Nat) : Met l yX17_addConstructor (Cond.code yX17_addConstructor cX17_addConstructor 10 (some .int) :: W0) ({ frames := 2, cells := 0, slots := 0, locals := 43 }) (va_Pc [.ref h0, .int p0, .int p1, .int p2, .int p3, .int p4] (WD G [(h0, .inr (12, [.int th, .ref n1, .int 0, .ref b1, .ref c1, .ref f1, .ref g1, .long 0, .int 0]))] sz)) (va_Qi (fun (r : Int32) (u : Nat) => (u = 0 ∧ r = 0 ∧ (p1.toInt ≤ (-1) ∨ 4 ≤ p1.toInt)) ∨ (u = 1 ∧ r = 0 ∧ ((0 ≤ p1.toInt ∧ p1.toInt ≤ 3)))) (fun (u : Nat) t => (u = 0 → PW G (va_A [(h0, .inr (12, [.int th, .ref n1, .int 0, .ref b1, .ref c1, .ref f1, .ref g1, .long 0, .int 0]))] sz) [(h0, .inr (12, [.int 1, .ref n1, .int 0, .ref b1, .ref c1, .ref f1, .ref g1, .long 0, .int 0]))] t) ∧ (u = 1 → PW G (va_A [(h0, .inr (12, [.int th, .ref n1, .int 0, .ref b1, .ref c1, .ref f1, .ref g1, .long 0, .int 0]))] sz) [(h0, .inr (12, [.int 2, .ref n1, .int 0, .ref b1, .ref c1, .ref f1, .ref g1, .long 0, .int 0]))] t)) (va_A [(h0, .inr (12, [.int th, .ref n1, .int 0, .ref b1, .ref c1, .ref f1, .ref g1, .long 0, .int 0]))] sz)) 0 0 (va_A [(h0, .inr (12, [.int th, .ref n1, .int 0, .ref b1, .ref c1, .ref f1, .ref g1, .long 0, .int 0]))] sz) := by
  refine Met.ofW (cc := cX17_addConstructor) (maxL := 10) (ret := (some .int)) (by decide) rfl ?_
  intro p e s m args below meth c s₁ B hml hv
  obtain ⟨rfl, hsz, hP, hK, hD0, hE⟩ := hv
  have hx := B.exec
  have hb := B.bytes
  have hr := B.returns
  have hts := w0_tail B.pre
  have hown : s.vm.findClass RX17 = some m.cls := findClass_of_methodNamed B.named
  have hlocks := B.notSynchronized
  subst hsz
  have hD := hD0.self (sz := s.heap.size)
  generalize hAe : va_A [(h0, .inr (12, [.int th, .ref n1, .int 0, .ref b1, .ref c1, .ref f1, .ref g1, .long 0, .int 0]))] s.heap.size = A at hD hE ⊢
  have hA : ∀ q : Nat, s.heap.size ≤ q → A q := fun q h => by rw [← hAe]; exact Or.inr h
  have hS : va_S A s.heap s.heap [] := va_S.rf
  obtain ⟨H, hHe⟩ : ∃ H : Heap, H = s.heap := ⟨_, rfl⟩
  have hP : va_P (DG G) clP1 [(h0, .inr (12, [.int th, .ref n1, .int 0, .ref b1, .ref c1, .ref f1, .ref g1, .long 0, .int 0]))] H := by rw [hHe]; exact hP
  have hS : va_S A s.heap H [] := by rw [hHe]; exact hS
  have hl := lv_entry ([.ref h0, .int p0, .int p1, .int p2, .int p3, .int p4]) (n := 10) (Nat.le_of_ble_eq_true rfl)
  rw [lg_entry_eq, ← hHe]
  generalize (lg_sl ([.ref h0, .int p0, .int p1, .int p2, .int p3, .int p4]) ++ List.replicate (10 - (lg_sl ([.ref h0, .int p0, .int p1, .int p2, .int p3, .int p4])).length) Slot.unset).toArray = ls at hl ⊢
  have hl : lv_has ls 10 [(0, .ref h0), (1, .int p0), (2, .int p1), (3, .int p2), (4, .int p3), (5, .int p4)] := hl
  refine lv_aload_n hx hb dX17_addConstructor_0 rfl (lv_at hl 0 rfl) ?_
  refine lv_iload_n hx hb dX17_addConstructor_1 rfl (lv_at hl 1 rfl) ?_
  have hFc := va_free (wc := [(h0, .inr (12, [.int th, .ref n1, .int 0, .ref b1, .ref c1, .ref f1, .ref g1, .long 0, .int 0]))]) hD hS hA [0] rfl
  refine va_calli (va_runV (As := [.int p0]) (rest := []) ⟨hx, hb, hml, hown, hts⟩ (k_X17_isData l hfl G h0 p0 th n1 b1 c1 f1 g1 H.size) (cwV 1 hts (gV wm1566 wm1568 ws_p37 wm11 wm1569) rfl rfl rfl (by decide +kernel) ⟨Nat.le_of_ble_eq_true rfl, Nat.le_of_ble_eq_true rfl⟩) (pre_v (pre_s hK hP hD hS hE [0] rfl rfl (by decide) hFc) (va_recv hK hP (ci := 12) (q0 := 0) rfl rfl)) rfl rfl hl.1 rfl (lv_room (Nat.le_of_ble_eq_true rfl)) dX17_addConstructor_2 ⟨Nat.le_of_ble_eq_true rfl, Nat.le_of_ble_eq_true rfl⟩) hS (fun q _ h => hFc q h) hFc (fun r u t H locs ht hvm hw hB hz1 hk1 hS => ?_)
  obtain rfl : r = 0 := hw
  obtain ⟨hP1, hD1⟩ := hB
  rw [ht] at hP1
  obtain ⟨hP, hD⟩ := va_join (wr := []) (w1 := [(h0, .inr (12, [.int th, .ref n1, .int 0, .ref b1, .ref c1, .ref f1, .ref g1, .long 0, .int 0]))]) hP hD [0] [] rfl rfl (by decide) (by decide) hk1 hFc hP1 hD1
  have hP : va_P (DG G) clP1 [(h0, .inr (12, [.int th, .ref n1, .int 0, .ref b1, .ref c1, .ref f1, .ref g1, .long 0, .int 0]))] H := hP
  have hD : va_D A [(h0, .inr (12, [.int th, .ref n1, .int 0, .ref b1, .ref c1, .ref f1, .ref g1, .long 0, .int 0]))] := hD
  refine W.widen (k := 0) (n := 0) (Nat.le_of_ble_eq_true rfl) (Nat.le_of_ble_eq_true rfl) ?_
  refine lv_if_eq (tgt := 53) hx hb dX17_addConstructor_5 (by decide) (fun _ => ?_) (fun c => absurd (by decide) c)
  refine lv_iconst (v := 0) hx hb dX17_addConstructor_53 (by decide) ?_
  refine lv_istore (lv' := [(6, .int 0), (0, .ref h0), (1, .int p0), (2, .int p1), (3, .int p2), (4, .int p3), (5, .int p4)]) hx hb dX17_addConstructor_54 hl (by decide) rfl (fun ls hl => ?_)
  refine lv_aload_n hx hb dX17_addConstructor_56 rfl (lv_at hl 1 rfl) ?_
  refine lv_iload_n hx hb dX17_addConstructor_57 rfl (lv_at hl 3 rfl) ?_
  refine lv_iconst (v := 0) hx hb dX17_addConstructor_58 (by decide) ?_
  refine lv_iconst (v := 3) hx hb dX17_addConstructor_59 (by decide) ?_
  have hFc := va_free (wc := []) hD hS hA [] rfl
  refine va_calli (va_runS (As := [.int p1, .int 0, .int 3]) (rest := [.ref h0]) ⟨hx, hb, hml, hown, hts⟩ (k_X17_in_4 l hfl G p1 H.size) (cwS 3 hts (gS wm1381 wm1382 wm11 wm1383) rfl rfl rfl (by decide +kernel) ⟨Nat.le_of_ble_eq_true rfl, Nat.le_of_ble_eq_true rfl⟩) (pre_s hK hP hD hS hE [] rfl rfl (by decide) hFc) rfl rfl hl.1 rfl (lv_room (Nat.le_of_ble_eq_true rfl)) dX17_addConstructor_60 ⟨Nat.le_of_ble_eq_true rfl, Nat.le_of_ble_eq_true rfl⟩) hS (fun q _ h => hFc q h) hFc (fun r u t H locs ht hvm hw hB hz1 hk1 hS => ?_)
  rcases hw with ⟨rfl, rfl, t1_0⟩ | ⟨rfl, rfl, t1_0⟩
  · obtain ⟨hP1, hD1⟩ := hB.1 rfl
    rw [ht] at hP1
    obtain ⟨hP, hD⟩ := va_join (wr := [(h0, .inr (12, [.int th, .ref n1, .int 0, .ref b1, .ref c1, .ref f1, .ref g1, .long 0, .int 0]))]) (w1 := []) hP hD [] [0] rfl rfl (by decide) (by decide) hk1 hFc hP1 hD1
    have hP : va_P (DG G) clP1 [(h0, .inr (12, [.int th, .ref n1, .int 0, .ref b1, .ref c1, .ref f1, .ref g1, .long 0, .int 0]))] H := hP
    have hD : va_D A [(h0, .inr (12, [.int th, .ref n1, .int 0, .ref b1, .ref c1, .ref f1, .ref g1, .long 0, .int 0]))] := hD
    refine W.widen (k := 0) (n := 0) (Nat.le_of_ble_eq_true rfl) (Nat.le_of_ble_eq_true rfl) ?_
    refine lv_if_ne (tgt := 70) hx hb dX17_addConstructor_63 (by decide) (fun c => absurd (by decide) c) (fun _ => ?_)
    refine lv_iconst (v := 1) hx hb dX17_addConstructor_66 (by decide) ?_
    refine lv_goto (tgt := 112) hx hb dX17_addConstructor_67 (by decide) ?_
    have hFc := va_free (wc := [(h0, .inr (12, [.int th, .ref n1, .int 0, .ref b1, .ref c1, .ref f1, .ref g1, .long 0, .int 0]))]) hD hS hA [0] rfl
    refine va_calli (va_runV (As := [.int 1]) (rest := []) ⟨hx, hb, hml, hown, hts⟩ (k_X17_fails_1 l hfl G h0 th n1 b1 c1 f1 g1 H.size) (cwV 1 hts (gV wm1392 wm1394 ws_p29 wm11 wm1395) rfl rfl rfl (by decide +kernel) ⟨Nat.le_of_ble_eq_true rfl, Nat.le_of_ble_eq_true rfl⟩) (pre_v (pre_s hK hP hD hS hE [0] rfl rfl (by decide) hFc) (va_recv hK hP (ci := 12) (q0 := 0) rfl rfl)) rfl rfl hl.1 rfl (lv_room (Nat.le_of_ble_eq_true rfl)) dX17_addConstructor_112 ⟨Nat.le_of_ble_eq_true rfl, Nat.le_of_ble_eq_true rfl⟩) hS (fun q _ h => hFc q h) hFc (fun r u t H locs ht hvm hw hB hz1 hk1 hS => ?_)
    obtain rfl : r = 1 := hw
    obtain ⟨hP1, hD1⟩ := hB
    rw [ht] at hP1
    obtain ⟨hP, hD⟩ := va_join (wr := []) (w1 := [(h0, .inr (12, [.int 1, .ref n1, .int 0, .ref b1, .ref c1, .ref f1, .ref g1, .long 0, .int 0]))]) hP hD [0] [] rfl rfl (by decide) (by decide) hk1 hFc hP1 hD1
    have hP : va_P (DG G) clP1 [(h0, .inr (12, [.int 1, .ref n1, .int 0, .ref b1, .ref c1, .ref f1, .ref g1, .long 0, .int 0]))] H := hP
    have hD : va_D A [(h0, .inr (12, [.int 1, .ref n1, .int 0, .ref b1, .ref c1, .ref f1, .ref g1, .long 0, .int 0]))] := hD
    refine W.widen (k := 0) (n := 0) (Nat.le_of_ble_eq_true rfl) (Nat.le_of_ble_eq_true rfl) ?_
    refine lv_if_eq (tgt := 120) hx hb dX17_addConstructor_115 (by decide) (fun c => absurd c (by decide)) (fun _ => ?_)
    refine lv_iconst (v := 0) hx hb dX17_addConstructor_118 (by decide) ?_
    have hP9 := hP.sub (ws' := [(h0, .inr (12, [.int 1, .ref n1, .int 0, .ref b1, .ref c1, .ref f1, .ref g1, .long 0, .int 0]))]) [0] rfl
    have hD9 := hD.sub (ws' := [(h0, .inr (12, [.int 1, .ref n1, .int 0, .ref b1, .ref c1, .ref f1, .ref g1, .long 0, .int 0]))]) [0] (by decide) rfl
    refine W.widen (k := 0) (n := 0) (Nat.le_of_ble_eq_true rfl) (Nat.le_of_ble_eq_true rfl) ?_
    exact W.iret (v := 0) hx hb hr (fun t ht hW => ⟨⟨0, 0, rfl, (Or.inl ⟨rfl, rfl, by omega⟩), ⟨fun _ => ⟨by rw [ht]; exact hP9, hD9⟩, fun h => absurd h (by decide)⟩⟩, hS.F ht⟩) hS.2.2 dX17_addConstructor_119 hlocks
  · obtain ⟨hP1, hD1⟩ := hB.2 rfl
    rw [ht] at hP1
    obtain ⟨hP, hD⟩ := va_join (wr := [(h0, .inr (12, [.int th, .ref n1, .int 0, .ref b1, .ref c1, .ref f1, .ref g1, .long 0, .int 0]))]) (w1 := []) hP hD [] [0] rfl rfl (by decide) (by decide) hk1 hFc hP1 hD1
    have hP : va_P (DG G) clP1 [(h0, .inr (12, [.int th, .ref n1, .int 0, .ref b1, .ref c1, .ref f1, .ref g1, .long 0, .int 0]))] H := hP
    have hD : va_D A [(h0, .inr (12, [.int th, .ref n1, .int 0, .ref b1, .ref c1, .ref f1, .ref g1, .long 0, .int 0]))] := hD
    refine W.widen (k := 0) (n := 0) (Nat.le_of_ble_eq_true rfl) (Nat.le_of_ble_eq_true rfl) ?_
    refine lv_if_ne (tgt := 70) hx hb dX17_addConstructor_63 (by decide) (fun _ => ?_) (fun c => absurd c (by decide))
    refine lv_iload hx hb dX17_addConstructor_70 (lv_at hl 0 rfl) ?_
    refine lv_if_ne (tgt := 79) hx hb dX17_addConstructor_72 (by decide) (fun c => absurd (by decide) c) (fun _ => ?_)
    refine lv_iconst (v := 2) hx hb dX17_addConstructor_75 (by decide) ?_
    refine lv_goto (tgt := 112) hx hb dX17_addConstructor_76 (by decide) ?_
    have hFc := va_free (wc := [(h0, .inr (12, [.int th, .ref n1, .int 0, .ref b1, .ref c1, .ref f1, .ref g1, .long 0, .int 0]))]) hD hS hA [0] rfl
    refine va_calli (va_runV (As := [.int 2]) (rest := []) ⟨hx, hb, hml, hown, hts⟩ (k_X17_fails_2 l hfl G h0 th n1 b1 c1 f1 g1 H.size) (cwV 1 hts (gV wm1392 wm1394 ws_p29 wm11 wm1395) rfl rfl rfl (by decide +kernel) ⟨Nat.le_of_ble_eq_true rfl, Nat.le_of_ble_eq_true rfl⟩) (pre_v (pre_s hK hP hD hS hE [0] rfl rfl (by decide) hFc) (va_recv hK hP (ci := 12) (q0 := 0) rfl rfl)) rfl rfl hl.1 rfl (lv_room (Nat.le_of_ble_eq_true rfl)) dX17_addConstructor_112 ⟨Nat.le_of_ble_eq_true rfl, Nat.le_of_ble_eq_true rfl⟩) hS (fun q _ h => hFc q h) hFc (fun r u t H locs ht hvm hw hB hz1 hk1 hS => ?_)
    obtain rfl : r = 1 := hw
    obtain ⟨hP1, hD1⟩ := hB
    rw [ht] at hP1
    obtain ⟨hP, hD⟩ := va_join (wr := []) (w1 := [(h0, .inr (12, [.int 2, .ref n1, .int 0, .ref b1, .ref c1, .ref f1, .ref g1, .long 0, .int 0]))]) hP hD [0] [] rfl rfl (by decide) (by decide) hk1 hFc hP1 hD1
    have hP : va_P (DG G) clP1 [(h0, .inr (12, [.int 2, .ref n1, .int 0, .ref b1, .ref c1, .ref f1, .ref g1, .long 0, .int 0]))] H := hP
    have hD : va_D A [(h0, .inr (12, [.int 2, .ref n1, .int 0, .ref b1, .ref c1, .ref f1, .ref g1, .long 0, .int 0]))] := hD
    refine W.widen (k := 0) (n := 0) (Nat.le_of_ble_eq_true rfl) (Nat.le_of_ble_eq_true rfl) ?_
    refine lv_if_eq (tgt := 120) hx hb dX17_addConstructor_115 (by decide) (fun c => absurd c (by decide)) (fun _ => ?_)
    refine lv_iconst (v := 0) hx hb dX17_addConstructor_118 (by decide) ?_
    have hP9 := hP.sub (ws' := [(h0, .inr (12, [.int 2, .ref n1, .int 0, .ref b1, .ref c1, .ref f1, .ref g1, .long 0, .int 0]))]) [0] rfl
    have hD9 := hD.sub (ws' := [(h0, .inr (12, [.int 2, .ref n1, .int 0, .ref b1, .ref c1, .ref f1, .ref g1, .long 0, .int 0]))]) [0] (by decide) rfl
    refine W.widen (k := 0) (n := 0) (Nat.le_of_ble_eq_true rfl) (Nat.le_of_ble_eq_true rfl) ?_
    exact W.iret (v := 0) hx hb hr (fun t ht hW => ⟨⟨0, 1, rfl, (Or.inr ⟨rfl, rfl, by omega⟩), ⟨fun h => absurd h (by decide), fun _ => ⟨by rw [ht]; exact hP9, hD9⟩⟩⟩, hS.F ht⟩) hS.2.2 dX17_addConstructor_119 hlocks
set_option maxHeartbeats 4000000 in
set_option maxRecDepth 100000 in
theorem k_X17_failsNode (l : Launch) (hfl : l.stackTraces = false) (G : GC) (h0 : Nat) (p0 : Int32) (th : Int32) (n1 : Nat) (b1 : Nat) (c1 : Nat) (f1 : Nat) (g1 : Nat) (sz : Nat) : Met l yX17_failsNode (Cond.code yX17_failsNode cX17_failsNode 2 (some .boolean) :: W0) ({ frames := 2, cells := 0, slots := 0, locals := 43 }) (va_Pc [.ref h0, .int p0] (WD G [(h0, .inr (12, [.int th, .ref n1, .int 0, .ref b1, .ref c1, .ref f1, .ref g1, .long 0, .int 0])), (n1, .inr (1, [.int 0, .ref (aE G), .int 0]))] sz)) (va_Qi (fun (r : Int32) (_ : Unit) => r = 1) (fun _ t => PW G (va_A [(h0, .inr (12, [.int th, .ref n1, .int 0, .ref b1, .ref c1, .ref f1, .ref g1, .long 0, .int 0])), (n1, .inr (1, [.int 0, .ref (aE G), .int 0]))] sz) [(h0, .inr (12, [.int 1, .ref n1, .int 0, .ref b1, .ref c1, .ref f1, .ref g1, .long 0, .int 0]))] t) (va_A [(h0, .inr (12, [.int th, .ref n1, .int 0, .ref b1, .ref c1, .ref f1, .ref g1, .long 0, .int 0])), (n1, .inr (1, [.int 0, .ref (aE G), .int 0]))] sz)) 0 0 (va_A [(h0, .inr (12, [.int th, .ref n1, .int 0, .ref b1, .ref c1, .ref f1, .ref g1, .long 0, .int 0])), (n1, .inr (1, [.int 0, .ref (aE G), .int 0]))] sz) := by
  refine Met.ofW (cc := cX17_failsNode) (maxL := 2) (ret := (some .boolean)) (by decide) rfl ?_
  intro p e s m args below meth c s₁ B hml hv
  obtain ⟨rfl, hsz, hP, hK, hD0, hE⟩ := hv
  have hx := B.exec
  have hb := B.bytes
  have hr := B.returns
  have hts := w0_tail B.pre
  have hown : s.vm.findClass RX17 = some m.cls := findClass_of_methodNamed B.named
  have hlocks := B.notSynchronized
  subst hsz
  have hD := hD0.self (sz := s.heap.size)
  generalize hAe : va_A [(h0, .inr (12, [.int th, .ref n1, .int 0, .ref b1, .ref c1, .ref f1, .ref g1, .long 0, .int 0])), (n1, .inr (1, [.int 0, .ref (aE G), .int 0]))] s.heap.size = A at hD hE ⊢
  have hA : ∀ q : Nat, s.heap.size ≤ q → A q := fun q h => by rw [← hAe]; exact Or.inr h
  have hS : va_S A s.heap s.heap [] := va_S.rf
  obtain ⟨H, hHe⟩ : ∃ H : Heap, H = s.heap := ⟨_, rfl⟩
  have hP : va_P (DG G) clP1 [(h0, .inr (12, [.int th, .ref n1, .int 0, .ref b1, .ref c1, .ref f1, .ref g1, .long 0, .int 0])), (n1, .inr (1, [.int 0, .ref (aE G), .int 0]))] H := by rw [hHe]; exact hP
  have hS : va_S A s.heap H [] := by rw [hHe]; exact hS
  have hl := lv_entry ([.ref h0, .int p0]) (n := 2) (Nat.le_of_ble_eq_true rfl)
  rw [lg_entry_eq, ← hHe]
  generalize (lg_sl ([.ref h0, .int p0]) ++ List.replicate (2 - (lg_sl ([.ref h0, .int p0])).length) Slot.unset).toArray = ls at hl ⊢
  have hl : lv_has ls 2 [(0, .ref h0), (1, .int p0)] := hl
  refine lv_aload_n hx hb dX17_failsNode_0 rfl (lv_at hl 0 rfl) ?_
  refine lv_aload_n hx hb dX17_failsNode_1 rfl (lv_at hl 0 rfl) ?_
  refine lv_iload_n hx hb dX17_failsNode_2 rfl (lv_at hl 1 rfl) ?_
  have hFc := va_free (wc := [(h0, .inr (12, [.int th, .ref n1, .int 0, .ref b1, .ref c1, .ref f1, .ref g1, .long 0, .int 0])), (n1, .inr (1, [.int 0, .ref (aE G), .int 0]))]) hD hS hA [0, 1] rfl
  refine va_calli (va_runV (As := [.int p0]) (rest := [.ref h0]) ⟨hx, hb, hml, hown, hts⟩ (k_X17_isNode l hfl G h0 p0 th n1 b1 c1 f1 g1 H.size) (cwV 1 hts (gV wm1516 wm1518 ws_p35 wm11 wm1519) rfl rfl rfl (by decide +kernel) ⟨Nat.le_of_ble_eq_true rfl, Nat.le_of_ble_eq_true rfl⟩) (pre_v (pre_s hK hP hD hS hE [0, 1] rfl rfl (by decide) hFc) (va_recv hK hP (ci := 12) (q0 := 0) rfl rfl)) rfl rfl hl.1 rfl (lv_room (Nat.le_of_ble_eq_true rfl)) dX17_failsNode_3 ⟨Nat.le_of_ble_eq_true rfl, Nat.le_of_ble_eq_true rfl⟩) hS (fun q _ h => hFc q h) hFc (fun r u t H locs ht hvm hw hB hz1 hk1 hS => ?_)
  obtain rfl : r = 0 := hw
  obtain ⟨hP1, hD1⟩ := hB
  rw [ht] at hP1
  obtain ⟨hP, hD⟩ := va_join (wr := []) (w1 := [(h0, .inr (12, [.int th, .ref n1, .int 0, .ref b1, .ref c1, .ref f1, .ref g1, .long 0, .int 0])), (n1, .inr (1, [.int 0, .ref (aE G), .int 0]))]) hP hD [0, 1] [] rfl rfl (by decide) (by decide) hk1 hFc hP1 hD1
  have hP : va_P (DG G) clP1 [(h0, .inr (12, [.int th, .ref n1, .int 0, .ref b1, .ref c1, .ref f1, .ref g1, .long 0, .int 0])), (n1, .inr (1, [.int 0, .ref (aE G), .int 0]))] H := hP
  have hD : va_D A [(h0, .inr (12, [.int th, .ref n1, .int 0, .ref b1, .ref c1, .ref f1, .ref g1, .long 0, .int 0])), (n1, .inr (1, [.int 0, .ref (aE G), .int 0]))] := hD
  refine W.widen (k := 0) (n := 0) (Nat.le_of_ble_eq_true rfl) (Nat.le_of_ble_eq_true rfl) ?_
  refine lv_if_eq (tgt := 13) hx hb dX17_failsNode_6 (by decide) (fun _ => ?_) (fun c => absurd (by decide) c)
  refine lv_iconst (v := 1) hx hb dX17_failsNode_13 (by decide) ?_
  have hFc := va_free (wc := [(h0, .inr (12, [.int th, .ref n1, .int 0, .ref b1, .ref c1, .ref f1, .ref g1, .long 0, .int 0]))]) hD hS hA [0] rfl
  refine va_calli (va_runV (As := [.int 1]) (rest := []) ⟨hx, hb, hml, hown, hts⟩ (k_X17_fails_1 l hfl G h0 th n1 b1 c1 f1 g1 H.size) (cwV 1 hts (gV wm1392 wm1394 ws_p29 wm11 wm1395) rfl rfl rfl (by decide +kernel) ⟨Nat.le_of_ble_eq_true rfl, Nat.le_of_ble_eq_true rfl⟩) (pre_v (pre_s hK hP hD hS hE [0] rfl rfl (by decide) hFc) (va_recv hK hP (ci := 12) (q0 := 0) rfl rfl)) rfl rfl hl.1 rfl (lv_room (Nat.le_of_ble_eq_true rfl)) dX17_failsNode_14 ⟨Nat.le_of_ble_eq_true rfl, Nat.le_of_ble_eq_true rfl⟩) hS (fun q _ h => hFc q h) hFc (fun r u t H locs ht hvm hw hB hz1 hk1 hS => ?_)
  obtain rfl : r = 1 := hw
  obtain ⟨hP1, hD1⟩ := hB
  rw [ht] at hP1
  obtain ⟨hP, hD⟩ := va_join (wr := [(n1, .inr (1, [.int 0, .ref (aE G), .int 0]))]) (w1 := [(h0, .inr (12, [.int 1, .ref n1, .int 0, .ref b1, .ref c1, .ref f1, .ref g1, .long 0, .int 0]))]) hP hD [0] [1] rfl rfl (by decide) (by decide) hk1 hFc hP1 hD1
  have hP : va_P (DG G) clP1 [(n1, .inr (1, [.int 0, .ref (aE G), .int 0])), (h0, .inr (12, [.int 1, .ref n1, .int 0, .ref b1, .ref c1, .ref f1, .ref g1, .long 0, .int 0]))] H := hP
  have hD : va_D A [(n1, .inr (1, [.int 0, .ref (aE G), .int 0])), (h0, .inr (12, [.int 1, .ref n1, .int 0, .ref b1, .ref c1, .ref f1, .ref g1, .long 0, .int 0]))] := hD
  refine W.widen (k := 0) (n := 0) (Nat.le_of_ble_eq_true rfl) (Nat.le_of_ble_eq_true rfl) ?_
  have hP9 := hP.sub (ws' := [(h0, .inr (12, [.int 1, .ref n1, .int 0, .ref b1, .ref c1, .ref f1, .ref g1, .long 0, .int 0]))]) [1] rfl
  have hD9 := hD.sub (ws' := [(h0, .inr (12, [.int 1, .ref n1, .int 0, .ref b1, .ref c1, .ref f1, .ref g1, .long 0, .int 0]))]) [1] (by decide) rfl
  refine W.widen (k := 0) (n := 0) (Nat.le_of_ble_eq_true rfl) (Nat.le_of_ble_eq_true rfl) ?_
  exact W.zret (v := 1) (ty := .boolean) hx hb hr (by decide) (fun t ht hW => ⟨⟨1, (), rfl, rfl, ⟨by rw [ht]; exact hP9, hD9⟩⟩, hS.F ht⟩) hS.2.2 dX17_failsNode_17 hlocks
set_option maxHeartbeats 4000000 in
set_option maxRecDepth 100000 in
theorem k_X17_size (l : Launch) (hfl : l.stackTraces = false) (G : GC) (h0 : Nat) (p0 : Int32) (th : Int32) (n1 : Nat) (b1 : Nat) (c1 : Nat) (f1 : Nat) (g1 : Nat) (sz : Nat) : Met l yX17_size (Cond.code yX17_size cX17_size 2 (some .int) :: W0) ({ frames := 3, cells := 0, slots := 0, locals := 64 }) (va_Pc [.ref h0, .int p0] (WD G [(h0, .inr (12, [.int th, .ref n1, .int 0, .ref b1, .ref c1, .ref f1, .ref g1, .long 0, .int 0])), (n1, .inr (1, [.int 0, .ref (aE G), .int 0]))] sz)) (va_Qi (fun (r : Int32) (_ : Unit) => r = 0) (fun _ t => PW G (va_A [(h0, .inr (12, [.int th, .ref n1, .int 0, .ref b1, .ref c1, .ref f1, .ref g1, .long 0, .int 0])), (n1, .inr (1, [.int 0, .ref (aE G), .int 0]))] sz) [(h0, .inr (12, [.int 1, .ref n1, .int 0, .ref b1, .ref c1, .ref f1, .ref g1, .long 0, .int 0]))] t) (va_A [(h0, .inr (12, [.int th, .ref n1, .int 0, .ref b1, .ref c1, .ref f1, .ref g1, .long 0, .int 0])), (n1, .inr (1, [.int 0, .ref (aE G), .int 0]))] sz)) 0 0 (va_A [(h0, .inr (12, [.int th, .ref n1, .int 0, .ref b1, .ref c1, .ref f1, .ref g1, .long 0, .int 0])), (n1, .inr (1, [.int 0, .ref (aE G), .int 0]))] sz) := by
  refine Met.ofW (cc := cX17_size) (maxL := 2) (ret := (some .int)) (by decide) rfl ?_
  intro p e s m args below meth c s₁ B hml hv
  obtain ⟨rfl, hsz, hP, hK, hD0, hE⟩ := hv
  have hx := B.exec
  have hb := B.bytes
  have hr := B.returns
  have hts := w0_tail B.pre
  have hown : s.vm.findClass RX17 = some m.cls := findClass_of_methodNamed B.named
  have hlocks := B.notSynchronized
  subst hsz
  have hD := hD0.self (sz := s.heap.size)
  generalize hAe : va_A [(h0, .inr (12, [.int th, .ref n1, .int 0, .ref b1, .ref c1, .ref f1, .ref g1, .long 0, .int 0])), (n1, .inr (1, [.int 0, .ref (aE G), .int 0]))] s.heap.size = A at hD hE ⊢
  have hA : ∀ q : Nat, s.heap.size ≤ q → A q := fun q h => by rw [← hAe]; exact Or.inr h
  have hS : va_S A s.heap s.heap [] := va_S.rf
  obtain ⟨H, hHe⟩ : ∃ H : Heap, H = s.heap := ⟨_, rfl⟩
  have hP : va_P (DG G) clP1 [(h0, .inr (12, [.int th, .ref n1, .int 0, .ref b1, .ref c1, .ref f1, .ref g1, .long 0, .int 0])), (n1, .inr (1, [.int 0, .ref (aE G), .int 0]))] H := by rw [hHe]; exact hP
  have hS : va_S A s.heap H [] := by rw [hHe]; exact hS
  have hl := lv_entry ([.ref h0, .int p0]) (n := 2) (Nat.le_of_ble_eq_true rfl)
  rw [lg_entry_eq, ← hHe]
  generalize (lg_sl ([.ref h0, .int p0]) ++ List.replicate (2 - (lg_sl ([.ref h0, .int p0])).length) Slot.unset).toArray = ls at hl ⊢
  have hl : lv_has ls 2 [(0, .ref h0), (1, .int p0)] := hl
  refine lv_aload_n hx hb dX17_size_0 rfl (lv_at hl 0 rfl) ?_
  refine lv_iload_n hx hb dX17_size_1 rfl (lv_at hl 1 rfl) ?_
  have hFc := va_free (wc := [(h0, .inr (12, [.int th, .ref n1, .int 0, .ref b1, .ref c1, .ref f1, .ref g1, .long 0, .int 0])), (n1, .inr (1, [.int 0, .ref (aE G), .int 0]))]) hD hS hA [0, 1] rfl
  refine va_calli (va_runV (As := [.int p0]) (rest := []) ⟨hx, hb, hml, hown, hts⟩ (k_X17_failsNode l hfl G h0 p0 th n1 b1 c1 f1 g1 H.size) (cwV 1 hts (gV wm1658 wm1660 ws_p39 wm11 wm1661) rfl rfl rfl (by decide +kernel) ⟨Nat.le_of_ble_eq_true rfl, Nat.le_of_ble_eq_true rfl⟩) (pre_v (pre_s hK hP hD hS hE [0, 1] rfl rfl (by decide) hFc) (va_recv hK hP (ci := 12) (q0 := 0) rfl rfl)) rfl rfl hl.1 rfl (lv_room (Nat.le_of_ble_eq_true rfl)) dX17_size_2 ⟨Nat.le_of_ble_eq_true rfl, Nat.le_of_ble_eq_true rfl⟩) hS (fun q _ h => hFc q h) hFc (fun r u t H locs ht hvm hw hB hz1 hk1 hS => ?_)
  obtain rfl : r = 1 := hw
  obtain ⟨hP1, hD1⟩ := hB
  rw [ht] at hP1
  obtain ⟨hP, hD⟩ := va_join (wr := []) (w1 := [(h0, .inr (12, [.int 1, .ref n1, .int 0, .ref b1, .ref c1, .ref f1, .ref g1, .long 0, .int 0]))]) hP hD [0, 1] [] rfl rfl (by decide) (by decide) hk1 hFc hP1 hD1
  have hP : va_P (DG G) clP1 [(h0, .inr (12, [.int 1, .ref n1, .int 0, .ref b1, .ref c1, .ref f1, .ref g1, .long 0, .int 0]))] H := hP
  have hD : va_D A [(h0, .inr (12, [.int 1, .ref n1, .int 0, .ref b1, .ref c1, .ref f1, .ref g1, .long 0, .int 0]))] := hD
  refine W.widen (k := 0) (n := 0) (Nat.le_of_ble_eq_true rfl) (Nat.le_of_ble_eq_true rfl) ?_
  refine lv_if_eq (tgt := 12) hx hb dX17_size_5 (by decide) (fun c => absurd c (by decide)) (fun _ => ?_)
  refine lv_iconst (v := 0) hx hb dX17_size_8 (by decide) ?_
  refine lv_goto (tgt := 26) hx hb dX17_size_9 (by decide) ?_
  have hP9 := hP.sub (ws' := [(h0, .inr (12, [.int 1, .ref n1, .int 0, .ref b1, .ref c1, .ref f1, .ref g1, .long 0, .int 0]))]) [0] rfl
  have hD9 := hD.sub (ws' := [(h0, .inr (12, [.int 1, .ref n1, .int 0, .ref b1, .ref c1, .ref f1, .ref g1, .long 0, .int 0]))]) [0] (by decide) rfl
  refine W.widen (k := 0) (n := 0) (Nat.le_of_ble_eq_true rfl) (Nat.le_of_ble_eq_true rfl) ?_
  exact W.iret (v := 0) hx hb hr (fun t ht hW => ⟨⟨0, (), rfl, rfl, ⟨by rw [ht]; exact hP9, hD9⟩⟩, hS.F ht⟩) hS.2.2 dX17_size_26 hlocks
set_option maxHeartbeats 4000000 in
set_option maxRecDepth 100000 in
theorem k_X17_number (l : Launch) (hfl : l.stackTraces = false) (G : GC) (h0 : Nat) (p0 : Int32) (th : Int32) (n1 : Nat) (b1 : Nat) (c1 : Nat) (f1 : Nat) (g1 : Nat) (sz : Nat) : Met l yX17_number (Cond.code yX17_number cX17_number 2 (some .int) :: W0) ({ frames := 3, cells := 0, slots := 0, locals := 64 }) (va_Pc [.ref h0, .int p0] (WD G [(h0, .inr (12, [.int th, .ref n1, .int 0, .ref b1, .ref c1, .ref f1, .ref g1, .long 0, .int 0])), (n1, .inr (1, [.int 0, .ref (aE G), .int 0]))] sz)) (va_Qi (fun (r : Int32) (_ : Unit) => r = 0) (fun _ t => PW G (va_A [(h0, .inr (12, [.int th, .ref n1, .int 0, .ref b1, .ref c1, .ref f1, .ref g1, .long 0, .int 0])), (n1, .inr (1, [.int 0, .ref (aE G), .int 0]))] sz) [(h0, .inr (12, [.int 1, .ref n1, .int 0, .ref b1, .ref c1, .ref f1, .ref g1, .long 0, .int 0]))] t) (va_A [(h0, .inr (12, [.int th, .ref n1, .int 0, .ref b1, .ref c1, .ref f1, .ref g1, .long 0, .int 0])), (n1, .inr (1, [.int 0, .ref (aE G), .int 0]))] sz)) 0 0 (va_A [(h0, .inr (12, [.int th, .ref n1, .int 0, .ref b1, .ref c1, .ref f1, .ref g1, .long 0, .int 0])), (n1, .inr (1, [.int 0, .ref (aE G), .int 0]))] sz) := by
  refine Met.ofW (cc := cX17_number) (maxL := 2) (ret := (some .int)) (by decide) rfl ?_
  intro p e s m args below meth c s₁ B hml hv
  obtain ⟨rfl, hsz, hP, hK, hD0, hE⟩ := hv
  have hx := B.exec
  have hb := B.bytes
  have hr := B.returns
  have hts := w0_tail B.pre
  have hown : s.vm.findClass RX17 = some m.cls := findClass_of_methodNamed B.named
  have hlocks := B.notSynchronized
  subst hsz
  have hD := hD0.self (sz := s.heap.size)
  generalize hAe : va_A [(h0, .inr (12, [.int th, .ref n1, .int 0, .ref b1, .ref c1, .ref f1, .ref g1, .long 0, .int 0])), (n1, .inr (1, [.int 0, .ref (aE G), .int 0]))] s.heap.size = A at hD hE ⊢
  have hA : ∀ q : Nat, s.heap.size ≤ q → A q := fun q h => by rw [← hAe]; exact Or.inr h
  have hS : va_S A s.heap s.heap [] := va_S.rf
  obtain ⟨H, hHe⟩ : ∃ H : Heap, H = s.heap := ⟨_, rfl⟩
  have hP : va_P (DG G) clP1 [(h0, .inr (12, [.int th, .ref n1, .int 0, .ref b1, .ref c1, .ref f1, .ref g1, .long 0, .int 0])), (n1, .inr (1, [.int 0, .ref (aE G), .int 0]))] H := by rw [hHe]; exact hP
  have hS : va_S A s.heap H [] := by rw [hHe]; exact hS
  have hl := lv_entry ([.ref h0, .int p0]) (n := 2) (Nat.le_of_ble_eq_true rfl)
  rw [lg_entry_eq, ← hHe]
  generalize (lg_sl ([.ref h0, .int p0]) ++ List.replicate (2 - (lg_sl ([.ref h0, .int p0])).length) Slot.unset).toArray = ls at hl ⊢
  have hl : lv_has ls 2 [(0, .ref h0), (1, .int p0)] := hl
  refine lv_aload_n hx hb dX17_number_0 rfl (lv_at hl 0 rfl) ?_
  refine lv_iload_n hx hb dX17_number_1 rfl (lv_at hl 1 rfl) ?_
  have hFc := va_free (wc := [(h0, .inr (12, [.int th, .ref n1, .int 0, .ref b1, .ref c1, .ref f1, .ref g1, .long 0, .int 0])), (n1, .inr (1, [.int 0, .ref (aE G), .int 0]))]) hD hS hA [0, 1] rfl
  refine va_calli (va_runV (As := [.int p0]) (rest := []) ⟨hx, hb, hml, hown, hts⟩ (k_X17_failsNode l hfl G h0 p0 th n1 b1 c1 f1 g1 H.size) (cwV 1 hts (gV wm1658 wm1660 ws_p39 wm11 wm1661) rfl rfl rfl (by decide +kernel) ⟨Nat.le_of_ble_eq_true rfl, Nat.le_of_ble_eq_true rfl⟩) (pre_v (pre_s hK hP hD hS hE [0, 1] rfl rfl (by decide) hFc) (va_recv hK hP (ci := 12) (q0 := 0) rfl rfl)) rfl rfl hl.1 rfl (lv_room (Nat.le_of_ble_eq_true rfl)) dX17_number_2 ⟨Nat.le_of_ble_eq_true rfl, Nat.le_of_ble_eq_true rfl⟩) hS (fun q _ h => hFc q h) hFc (fun r u t H locs ht hvm hw hB hz1 hk1 hS => ?_)
  obtain rfl : r = 1 := hw
  obtain ⟨hP1, hD1⟩ := hB
  rw [ht] at hP1
  obtain ⟨hP, hD⟩ := va_join (wr := []) (w1 := [(h0, .inr (12, [.int 1, .ref n1, .int 0, .ref b1, .ref c1, .ref f1, .ref g1, .long 0, .int 0]))]) hP hD [0, 1] [] rfl rfl (by decide) (by decide) hk1 hFc hP1 hD1
  have hP : va_P (DG G) clP1 [(h0, .inr (12, [.int 1, .ref n1, .int 0, .ref b1, .ref c1, .ref f1, .ref g1, .long 0, .int 0]))] H := hP
  have hD : va_D A [(h0, .inr (12, [.int 1, .ref n1, .int 0, .ref b1, .ref c1, .ref f1, .ref g1, .long 0, .int 0]))] := hD
  refine W.widen (k := 0) (n := 0) (Nat.le_of_ble_eq_true rfl) (Nat.le_of_ble_eq_true rfl) ?_
  refine lv_if_eq (tgt := 12) hx hb dX17_number_5 (by decide) (fun c => absurd c (by decide)) (fun _ => ?_)
  refine lv_iconst (v := 0) hx hb dX17_number_8 (by decide) ?_
  refine lv_goto (tgt := 26) hx hb dX17_number_9 (by decide) ?_
  have hP9 := hP.sub (ws' := [(h0, .inr (12, [.int 1, .ref n1, .int 0, .ref b1, .ref c1, .ref f1, .ref g1, .long 0, .int 0]))]) [0] rfl
  have hD9 := hD.sub (ws' := [(h0, .inr (12, [.int 1, .ref n1, .int 0, .ref b1, .ref c1, .ref f1, .ref g1, .long 0, .int 0]))]) [0] (by decide) rfl
  refine W.widen (k := 0) (n := 0) (Nat.le_of_ble_eq_true rfl) (Nat.le_of_ble_eq_true rfl) ?_
  exact W.iret (v := 0) hx hb hr (fun t ht hW => ⟨⟨0, (), rfl, rfl, ⟨by rw [ht]; exact hP9, hD9⟩⟩, hS.F ht⟩) hS.2.2 dX17_number_26 hlocks
set_option maxHeartbeats 4000000 in
set_option maxRecDepth 100000 in
theorem k_X17_normal (l : Launch) (hfl : l.stackTraces = false) (G : GC) (h0 : Nat) (p0 : Int32) (th : Int32) (n1 : Nat) (b1 : Nat) (c1 : Nat) (f1 : Nat) (g1 : Nat) (sz : Nat) : Met l yX17_normal (Cond.code yX17_normal cX17_normal 3 (some .int) :: W0) ({ frames := 3, cells := 0, slots := 0, locals := 64 }) (va_Pc [.ref h0, .int p0] (WD G [(h0, .inr (12, [.int th, .ref n1, .int 0, .ref b1, .ref c1, .ref f1, .ref g1, .long 0, .int 0])), (n1, .inr (1, [.int 0, .ref (aE G), .int 0]))] sz)) (va_Qi (fun (r : Int32) (_ : Unit) => r = 0) (fun _ t => PW G (va_A [(h0, .inr (12, [.int th, .ref n1, .int 0, .ref b1, .ref c1, .ref f1, .ref g1, .long 0, .int 0])), (n1, .inr (1, [.int 0, .ref (aE G), .int 0]))] sz) [(h0, .inr (12, [.int 1, .ref n1, .int 0, .ref b1, .ref c1, .ref f1, .ref g1, .long 0, .int 0]))] t) (va_A [(h0, .inr (12, [.int th, .ref n1, .int 0, .ref b1, .ref c1, .ref f1, .ref g1, .long 0, .int 0])), (n1, .inr (1, [.int 0, .ref (aE G), .int 0]))] sz)) 0 0 (va_A [(h0, .inr (12, [.int th, .ref n1, .int 0, .ref b1, .ref c1, .ref f1, .ref g1, .long 0, .int 0])), (n1, .inr (1, [.int 0, .ref (aE G), .int 0]))] sz) := by
  refine Met.ofW (cc := cX17_normal) (maxL := 3) (ret := (some .int)) (by decide) rfl ?_
  intro p e s m args below meth c s₁ B hml hv
  obtain ⟨rfl, hsz, hP, hK, hD0, hE⟩ := hv
  have hx := B.exec
  have hb := B.bytes
  have hr := B.returns
  have hts := w0_tail B.pre
  have hown : s.vm.findClass RX17 = some m.cls := findClass_of_methodNamed B.named
  have hlocks := B.notSynchronized
  subst hsz
  have hD := hD0.self (sz := s.heap.size)
  generalize hAe : va_A [(h0, .inr (12, [.int th, .ref n1, .int 0, .ref b1, .ref c1, .ref f1, .ref g1, .long 0, .int 0])), (n1, .inr (1, [.int 0, .ref (aE G), .int 0]))] s.heap.size = A at hD hE ⊢
  have hA : ∀ q : Nat, s.heap.size ≤ q → A q := fun q h => by rw [← hAe]; exact Or.inr h
  have hS : va_S A s.heap s.heap [] := va_S.rf
  obtain ⟨H, hHe⟩ : ∃ H : Heap, H = s.heap := ⟨_, rfl⟩
  have hP : va_P (DG G) clP1 [(h0, .inr (12, [.int th, .ref n1, .int 0, .ref b1, .ref c1, .ref f1, .ref g1, .long 0, .int 0])), (n1, .inr (1, [.int 0, .ref (aE G), .int 0]))] H := by rw [hHe]; exact hP
  have hS : va_S A s.heap H [] := by rw [hHe]; exact hS
  have hl := lv_entry ([.ref h0, .int p0]) (n := 3) (Nat.le_of_ble_eq_true rfl)
  rw [lg_entry_eq, ← hHe]
  generalize (lg_sl ([.ref h0, .int p0]) ++ List.replicate (3 - (lg_sl ([.ref h0, .int p0])).length) Slot.unset).toArray = ls at hl ⊢
  have hl : lv_has ls 3 [(0, .ref h0), (1, .int p0)] := hl
  refine lv_aload_n hx hb dX17_normal_0 rfl (lv_at hl 0 rfl) ?_
  refine lv_iload_n hx hb dX17_normal_1 rfl (lv_at hl 1 rfl) ?_
  have hFc := va_free (wc := [(h0, .inr (12, [.int th, .ref n1, .int 0, .ref b1, .ref c1, .ref f1, .ref g1, .long 0, .int 0])), (n1, .inr (1, [.int 0, .ref (aE G), .int 0]))]) hD hS hA [0, 1] rfl
  refine va_calli (va_runV (As := [.int p0]) (rest := []) ⟨hx, hb, hml, hown, hts⟩ (k_X17_failsNode l hfl G h0 p0 th n1 b1 c1 f1 g1 H.size) (cwV 1 hts (gV wm1658 wm1660 ws_p39 wm11 wm1661) rfl rfl rfl (by decide +kernel) ⟨Nat.le_of_ble_eq_true rfl, Nat.le_of_ble_eq_true rfl⟩) (pre_v (pre_s hK hP hD hS hE [0, 1] rfl rfl (by decide) hFc) (va_recv hK hP (ci := 12) (q0 := 0) rfl rfl)) rfl rfl hl.1 rfl (lv_room (Nat.le_of_ble_eq_true rfl)) dX17_normal_2 ⟨Nat.le_of_ble_eq_true rfl, Nat.le_of_ble_eq_true rfl⟩) hS (fun q _ h => hFc q h) hFc (fun r u t H locs ht hvm hw hB hz1 hk1 hS => ?_)
  obtain rfl : r = 1 := hw
  obtain ⟨hP1, hD1⟩ := hB
  rw [ht] at hP1
  obtain ⟨hP, hD⟩ := va_join (wr := []) (w1 := [(h0, .inr (12, [.int 1, .ref n1, .int 0, .ref b1, .ref c1, .ref f1, .ref g1, .long 0, .int 0]))]) hP hD [0, 1] [] rfl rfl (by decide) (by decide) hk1 hFc hP1 hD1
  have hP : va_P (DG G) clP1 [(h0, .inr (12, [.int 1, .ref n1, .int 0, .ref b1, .ref c1, .ref f1, .ref g1, .long 0, .int 0]))] H := hP
  have hD : va_D A [(h0, .inr (12, [.int 1, .ref n1, .int 0, .ref b1, .ref c1, .ref f1, .ref g1, .long 0, .int 0]))] := hD
  refine W.widen (k := 0) (n := 0) (Nat.le_of_ble_eq_true rfl) (Nat.le_of_ble_eq_true rfl) ?_
  refine lv_if_eq (tgt := 10) hx hb dX17_normal_5 (by decide) (fun c => absurd c (by decide)) (fun _ => ?_)
  refine lv_iconst (v := 0) hx hb dX17_normal_8 (by decide) ?_
  have hP9 := hP.sub (ws' := [(h0, .inr (12, [.int 1, .ref n1, .int 0, .ref b1, .ref c1, .ref f1, .ref g1, .long 0, .int 0]))]) [0] rfl
  have hD9 := hD.sub (ws' := [(h0, .inr (12, [.int 1, .ref n1, .int 0, .ref b1, .ref c1, .ref f1, .ref g1, .long 0, .int 0]))]) [0] (by decide) rfl
  refine W.widen (k := 0) (n := 0) (Nat.le_of_ble_eq_true rfl) (Nat.le_of_ble_eq_true rfl) ?_
  exact W.iret (v := 0) hx hb hr (fun t ht hW => ⟨⟨0, (), rfl, rfl, ⟨by rw [ht]; exact hP9, hD9⟩⟩, hS.F ht⟩) hS.2.2 dX17_normal_9 hlocks
set_option maxHeartbeats 4000000 in
set_option maxRecDepth 100000 in
theorem k_X17_typeOf (l : Launch) (hfl : l.stackTraces = false) (G : GC) (h0 : Nat) (p0 : Int32) (th : Int32) (n1 : Nat) (b1 : Nat) (c1 : Nat) (f1 : Nat) (g1 : Nat) (sz : Nat) : Met l yX17_typeOf (Cond.code yX17_typeOf cX17_typeOf 3 (some .int) :: W0) ({ frames := 3, cells := 0, slots := 0, locals := 64 }) (va_Pc [.ref h0, .int p0] (WD G [(h0, .inr (12, [.int th, .ref n1, .int 0, .ref b1, .ref c1, .ref f1, .ref g1, .long 0, .int 0])), (n1, .inr (1, [.int 0, .ref (aE G), .int 0]))] sz)) (va_Qi (fun (r : Int32) (_ : Unit) => r = 0) (fun _ t => PW G (va_A [(h0, .inr (12, [.int th, .ref n1, .int 0, .ref b1, .ref c1, .ref f1, .ref g1, .long 0, .int 0])), (n1, .inr (1, [.int 0, .ref (aE G), .int 0]))] sz) [(h0, .inr (12, [.int 1, .ref n1, .int 0, .ref b1, .ref c1, .ref f1, .ref g1, .long 0, .int 0]))] t) (va_A [(h0, .inr (12, [.int th, .ref n1, .int 0, .ref b1, .ref c1, .ref f1, .ref g1, .long 0, .int 0])), (n1, .inr (1, [.int 0, .ref (aE G), .int 0]))] sz)) 0 0 (va_A [(h0, .inr (12, [.int th, .ref n1, .int 0, .ref b1, .ref c1, .ref f1, .ref g1, .long 0, .int 0])), (n1, .inr (1, [.int 0, .ref (aE G), .int 0]))] sz) := by
  refine Met.ofW (cc := cX17_typeOf) (maxL := 3) (ret := (some .int)) (by decide) rfl ?_
  intro p e s m args below meth c s₁ B hml hv
  obtain ⟨rfl, hsz, hP, hK, hD0, hE⟩ := hv
  have hx := B.exec
  have hb := B.bytes
  have hr := B.returns
  have hts := w0_tail B.pre
  have hown : s.vm.findClass RX17 = some m.cls := findClass_of_methodNamed B.named
  have hlocks := B.notSynchronized
  subst hsz
  have hD := hD0.self (sz := s.heap.size)
  generalize hAe : va_A [(h0, .inr (12, [.int th, .ref n1, .int 0, .ref b1, .ref c1, .ref f1, .ref g1, .long 0, .int 0])), (n1, .inr (1, [.int 0, .ref (aE G), .int 0]))] s.heap.size = A at hD hE ⊢
  have hA : ∀ q : Nat, s.heap.size ≤ q → A q := fun q h => by rw [← hAe]; exact Or.inr h
  have hS : va_S A s.heap s.heap [] := va_S.rf
  obtain ⟨H, hHe⟩ : ∃ H : Heap, H = s.heap := ⟨_, rfl⟩
  have hP : va_P (DG G) clP1 [(h0, .inr (12, [.int th, .ref n1, .int 0, .ref b1, .ref c1, .ref f1, .ref g1, .long 0, .int 0])), (n1, .inr (1, [.int 0, .ref (aE G), .int 0]))] H := by rw [hHe]; exact hP
  have hS : va_S A s.heap H [] := by rw [hHe]; exact hS
  have hl := lv_entry ([.ref h0, .int p0]) (n := 3) (Nat.le_of_ble_eq_true rfl)
  rw [lg_entry_eq, ← hHe]
  generalize (lg_sl ([.ref h0, .int p0]) ++ List.replicate (3 - (lg_sl ([.ref h0, .int p0])).length) Slot.unset).toArray = ls at hl ⊢
  have hl : lv_has ls 3 [(0, .ref h0), (1, .int p0)] := hl
  refine lv_aload_n hx hb dX17_typeOf_0 rfl (lv_at hl 0 rfl) ?_
  refine lv_iload_n hx hb dX17_typeOf_1 rfl (lv_at hl 1 rfl) ?_
  have hFc := va_free (wc := [(h0, .inr (12, [.int th, .ref n1, .int 0, .ref b1, .ref c1, .ref f1, .ref g1, .long 0, .int 0])), (n1, .inr (1, [.int 0, .ref (aE G), .int 0]))]) hD hS hA [0, 1] rfl
  refine va_calli (va_runV (As := [.int p0]) (rest := []) ⟨hx, hb, hml, hown, hts⟩ (k_X17_failsNode l hfl G h0 p0 th n1 b1 c1 f1 g1 H.size) (cwV 1 hts (gV wm1658 wm1660 ws_p39 wm11 wm1661) rfl rfl rfl (by decide +kernel) ⟨Nat.le_of_ble_eq_true rfl, Nat.le_of_ble_eq_true rfl⟩) (pre_v (pre_s hK hP hD hS hE [0, 1] rfl rfl (by decide) hFc) (va_recv hK hP (ci := 12) (q0 := 0) rfl rfl)) rfl rfl hl.1 rfl (lv_room (Nat.le_of_ble_eq_true rfl)) dX17_typeOf_2 ⟨Nat.le_of_ble_eq_true rfl, Nat.le_of_ble_eq_true rfl⟩) hS (fun q _ h => hFc q h) hFc (fun r u t H locs ht hvm hw hB hz1 hk1 hS => ?_)
  obtain rfl : r = 1 := hw
  obtain ⟨hP1, hD1⟩ := hB
  rw [ht] at hP1
  obtain ⟨hP, hD⟩ := va_join (wr := []) (w1 := [(h0, .inr (12, [.int 1, .ref n1, .int 0, .ref b1, .ref c1, .ref f1, .ref g1, .long 0, .int 0]))]) hP hD [0, 1] [] rfl rfl (by decide) (by decide) hk1 hFc hP1 hD1
  have hP : va_P (DG G) clP1 [(h0, .inr (12, [.int 1, .ref n1, .int 0, .ref b1, .ref c1, .ref f1, .ref g1, .long 0, .int 0]))] H := hP
  have hD : va_D A [(h0, .inr (12, [.int 1, .ref n1, .int 0, .ref b1, .ref c1, .ref f1, .ref g1, .long 0, .int 0]))] := hD
  refine W.widen (k := 0) (n := 0) (Nat.le_of_ble_eq_true rfl) (Nat.le_of_ble_eq_true rfl) ?_
  refine lv_if_eq (tgt := 10) hx hb dX17_typeOf_5 (by decide) (fun c => absurd c (by decide)) (fun _ => ?_)
  refine lv_iconst (v := 0) hx hb dX17_typeOf_8 (by decide) ?_
  have hP9 := hP.sub (ws' := [(h0, .inr (12, [.int 1, .ref n1, .int 0, .ref b1, .ref c1, .ref f1, .ref g1, .long 0, .int 0]))]) [0] rfl
  have hD9 := hD.sub (ws' := [(h0, .inr (12, [.int 1, .ref n1, .int 0, .ref b1, .ref c1, .ref f1, .ref g1, .long 0, .int 0]))]) [0] (by decide) rfl
  refine W.widen (k := 0) (n := 0) (Nat.le_of_ble_eq_true rfl) (Nat.le_of_ble_eq_true rfl) ?_
  exact W.iret (v := 0) hx hb hr (fun t ht hW => ⟨⟨0, (), rfl, rfl, ⟨by rw [ht]; exact hP9, hD9⟩⟩, hS.F ht⟩) hS.2.2 dX17_typeOf_9 hlocks
set_option maxHeartbeats 4000000 in
set_option maxRecDepth 100000 in
theorem k_X17_level (l : Launch) (hfl : l.stackTraces = false) (G : GC) (h0 : Nat) (p0 : Int32) (th : Int32) (n1 : Nat) (b1 : Nat) (c1 : Nat) (f1 : Nat) (g1 : Nat) (sz : Nat) : Met l yX17_level (Cond.code yX17_level cX17_level 3 (some .int) :: W0) ({ frames := 3, cells := 0, slots := 0, locals := 64 }) (va_Pc [.ref h0, .int p0] (WD G [(h0, .inr (12, [.int th, .ref n1, .int 0, .ref b1, .ref c1, .ref f1, .ref g1, .long 0, .int 0])), (n1, .inr (1, [.int 0, .ref (aE G), .int 0]))] sz)) (va_Qi (fun (r : Int32) (_ : Unit) => r = 0) (fun _ t => PW G (va_A [(h0, .inr (12, [.int th, .ref n1, .int 0, .ref b1, .ref c1, .ref f1, .ref g1, .long 0, .int 0])), (n1, .inr (1, [.int 0, .ref (aE G), .int 0]))] sz) [(h0, .inr (12, [.int 1, .ref n1, .int 0, .ref b1, .ref c1, .ref f1, .ref g1, .long 0, .int 0]))] t) (va_A [(h0, .inr (12, [.int th, .ref n1, .int 0, .ref b1, .ref c1, .ref f1, .ref g1, .long 0, .int 0])), (n1, .inr (1, [.int 0, .ref (aE G), .int 0]))] sz)) 0 0 (va_A [(h0, .inr (12, [.int th, .ref n1, .int 0, .ref b1, .ref c1, .ref f1, .ref g1, .long 0, .int 0])), (n1, .inr (1, [.int 0, .ref (aE G), .int 0]))] sz) := by
  refine Met.ofW (cc := cX17_level) (maxL := 3) (ret := (some .int)) (by decide) rfl ?_
  intro p e s m args below meth c s₁ B hml hv
  obtain ⟨rfl, hsz, hP, hK, hD0, hE⟩ := hv
  have hx := B.exec
  have hb := B.bytes
  have hr := B.returns
  have hts := w0_tail B.pre
  have hown : s.vm.findClass RX17 = some m.cls := findClass_of_methodNamed B.named
  have hlocks := B.notSynchronized
  subst hsz
  have hD := hD0.self (sz := s.heap.size)
  generalize hAe : va_A [(h0, .inr (12, [.int th, .ref n1, .int 0, .ref b1, .ref c1, .ref f1, .ref g1, .long 0, .int 0])), (n1, .inr (1, [.int 0, .ref (aE G), .int 0]))] s.heap.size = A at hD hE ⊢
  have hA : ∀ q : Nat, s.heap.size ≤ q → A q := fun q h => by rw [← hAe]; exact Or.inr h
  have hS : va_S A s.heap s.heap [] := va_S.rf
  obtain ⟨H, hHe⟩ : ∃ H : Heap, H = s.heap := ⟨_, rfl⟩
  have hP : va_P (DG G) clP1 [(h0, .inr (12, [.int th, .ref n1, .int 0, .ref b1, .ref c1, .ref f1, .ref g1, .long 0, .int 0])), (n1, .inr (1, [.int 0, .ref (aE G), .int 0]))] H := by rw [hHe]; exact hP
  have hS : va_S A s.heap H [] := by rw [hHe]; exact hS
  have hl := lv_entry ([.ref h0, .int p0]) (n := 3) (Nat.le_of_ble_eq_true rfl)
  rw [lg_entry_eq, ← hHe]
  generalize (lg_sl ([.ref h0, .int p0]) ++ List.replicate (3 - (lg_sl ([.ref h0, .int p0])).length) Slot.unset).toArray = ls at hl ⊢
  have hl : lv_has ls 3 [(0, .ref h0), (1, .int p0)] := hl
  refine lv_aload_n hx hb dX17_level_0 rfl (lv_at hl 0 rfl) ?_
  refine lv_iload_n hx hb dX17_level_1 rfl (lv_at hl 1 rfl) ?_
  have hFc := va_free (wc := [(h0, .inr (12, [.int th, .ref n1, .int 0, .ref b1, .ref c1, .ref f1, .ref g1, .long 0, .int 0])), (n1, .inr (1, [.int 0, .ref (aE G), .int 0]))]) hD hS hA [0, 1] rfl
  refine va_calli (va_runV (As := [.int p0]) (rest := []) ⟨hx, hb, hml, hown, hts⟩ (k_X17_failsNode l hfl G h0 p0 th n1 b1 c1 f1 g1 H.size) (cwV 1 hts (gV wm1658 wm1660 ws_p39 wm11 wm1661) rfl rfl rfl (by decide +kernel) ⟨Nat.le_of_ble_eq_true rfl, Nat.le_of_ble_eq_true rfl⟩) (pre_v (pre_s hK hP hD hS hE [0, 1] rfl rfl (by decide) hFc) (va_recv hK hP (ci := 12) (q0 := 0) rfl rfl)) rfl rfl hl.1 rfl (lv_room (Nat.le_of_ble_eq_true rfl)) dX17_level_2 ⟨Nat.le_of_ble_eq_true rfl, Nat.le_of_ble_eq_true rfl⟩) hS (fun q _ h => hFc q h) hFc (fun r u t H locs ht hvm hw hB hz1 hk1 hS => ?_)
  obtain rfl : r = 1 := hw
  obtain ⟨hP1, hD1⟩ := hB
  rw [ht] at hP1
  obtain ⟨hP, hD⟩ := va_join (wr := []) (w1 := [(h0, .inr (12, [.int 1, .ref n1, .int 0, .ref b1, .ref c1, .ref f1, .ref g1, .long 0, .int 0]))]) hP hD [0, 1] [] rfl rfl (by decide) (by decide) hk1 hFc hP1 hD1
  have hP : va_P (DG G) clP1 [(h0, .inr (12, [.int 1, .ref n1, .int 0, .ref b1, .ref c1, .ref f1, .ref g1, .long 0, .int 0]))] H := hP
  have hD : va_D A [(h0, .inr (12, [.int 1, .ref n1, .int 0, .ref b1, .ref c1, .ref f1, .ref g1, .long 0, .int 0]))] := hD
  refine W.widen (k := 0) (n := 0) (Nat.le_of_ble_eq_true rfl) (Nat.le_of_ble_eq_true rfl) ?_
  refine lv_if_eq (tgt := 10) hx hb dX17_level_5 (by decide) (fun c => absurd c (by decide)) (fun _ => ?_)
  refine lv_iconst (v := 0) hx hb dX17_level_8 (by decide) ?_
  have hP9 := hP.sub (ws' := [(h0, .inr (12, [.int 1, .ref n1, .int 0, .ref b1, .ref c1, .ref f1, .ref g1, .long 0, .int 0]))]) [0] rfl
  have hD9 := hD.sub (ws' := [(h0, .inr (12, [.int 1, .ref n1, .int 0, .ref b1, .ref c1, .ref f1, .ref g1, .long 0, .int 0]))]) [0] (by decide) rfl
  refine W.widen (k := 0) (n := 0) (Nat.le_of_ble_eq_true rfl) (Nat.le_of_ble_eq_true rfl) ?_
  exact W.iret (v := 0) hx hb hr (fun t ht hW => ⟨⟨0, (), rfl, rfl, ⟨by rw [ht]; exact hP9, hD9⟩⟩, hS.F ht⟩) hS.2.2 dX17_level_9 hlocks
set_option maxHeartbeats 4000000 in
set_option maxRecDepth 100000 in
theorem k_X17_declare (l : Launch) (hfl : l.stackTraces = false) (G : GC) (h0 : Nat) (p0 : Int32) (th : Int32) (n1 : Nat) (b1 : Nat) (c1 : Nat) (f1 : Nat) (g1 : Nat) (sz : Nat) : Met l yX17_declare (Cond.code yX17_declare cX17_declare 10 (some .int) :: W0) ({ frames := 3, cells := 0, slots := 0, locals := 64 }) (va_Pc [.ref h0, .int p0] (WD G [(h0, .inr (12, [.int th, .ref n1, .int 0, .ref b1, .ref c1, .ref f1, .ref g1, .long 0, .int 0])), (n1, .inr (1, [.int 0, .ref (aE G), .int 0]))] sz)) (va_Qi (fun (r : Int32) (_ : Unit) => r = 0) (fun _ t => PW G (va_A [(h0, .inr (12, [.int th, .ref n1, .int 0, .ref b1, .ref c1, .ref f1, .ref g1, .long 0, .int 0])), (n1, .inr (1, [.int 0, .ref (aE G), .int 0]))] sz) [(h0, .inr (12, [.int 1, .ref n1, .int 0, .ref b1, .ref c1, .ref f1, .ref g1, .long 0, .int 0]))] t) (va_A [(h0, .inr (12, [.int th, .ref n1, .int 0, .ref b1, .ref c1, .ref f1, .ref g1, .long 0, .int 0])), (n1, .inr (1, [.int 0, .ref (aE G), .int 0]))] sz)) 0 0 (va_A [(h0, .inr (12, [.int th, .ref n1, .int 0, .ref b1, .ref c1, .ref f1, .ref g1, .long 0, .int 0])), (n1, .inr (1, [.int 0, .ref (aE G), .int 0]))] sz) := by
  refine Met.ofW (cc := cX17_declare) (maxL := 10) (ret := (some .int)) (by decide) rfl ?_
  intro p e s m args below meth c s₁ B hml hv
  obtain ⟨rfl, hsz, hP, hK, hD0, hE⟩ := hv
  have hx := B.exec
  have hb := B.bytes
  have hr := B.returns
  have hts := w0_tail B.pre
  have hown : s.vm.findClass RX17 = some m.cls := findClass_of_methodNamed B.named
  have hlocks := B.notSynchronized
  subst hsz
  have hD := hD0.self (sz := s.heap.size)
  generalize hAe : va_A [(h0, .inr (12, [.int th, .ref n1, .int 0, .ref b1, .ref c1, .ref f1, .ref g1, .long 0, .int 0])), (n1, .inr (1, [.int 0, .ref (aE G), .int 0]))] s.heap.size = A at hD hE ⊢
  have hA : ∀ q : Nat, s.heap.size ≤ q → A q := fun q h => by rw [← hAe]; exact Or.inr h
  have hS : va_S A s.heap s.heap [] := va_S.rf
  obtain ⟨H, hHe⟩ : ∃ H : Heap, H = s.heap := ⟨_, rfl⟩
  have hP : va_P (DG G) clP1 [(h0, .inr (12, [.int th, .ref n1, .int 0, .ref b1, .ref c1, .ref f1, .ref g1, .long 0, .int 0])), (n1, .inr (1, [.int 0, .ref (aE G), .int 0]))] H := by rw [hHe]; exact hP
  have hS : va_S A s.heap H [] := by rw [hHe]; exact hS
  have hl := lv_entry ([.ref h0, .int p0]) (n := 10) (Nat.le_of_ble_eq_true rfl)
  rw [lg_entry_eq, ← hHe]
  generalize (lg_sl ([.ref h0, .int p0]) ++ List.replicate (10 - (lg_sl ([.ref h0, .int p0])).length) Slot.unset).toArray = ls at hl ⊢
  have hl : lv_has ls 10 [(0, .ref h0), (1, .int p0)] := hl
  refine lv_aload_n hx hb dX17_declare_0 rfl (lv_at hl 0 rfl) ?_
  refine lv_iload_n hx hb dX17_declare_1 rfl (lv_at hl 1 rfl) ?_
  have hFc := va_free (wc := [(h0, .inr (12, [.int th, .ref n1, .int 0, .ref b1, .ref c1, .ref f1, .ref g1, .long 0, .int 0])), (n1, .inr (1, [.int 0, .ref (aE G), .int 0]))]) hD hS hA [0, 1] rfl
  refine va_calli (va_runV (As := [.int p0]) (rest := []) ⟨hx, hb, hml, hown, hts⟩ (k_X17_failsNode l hfl G h0 p0 th n1 b1 c1 f1 g1 H.size) (cwV 1 hts (gV wm1658 wm1660 ws_p39 wm11 wm1661) rfl rfl rfl (by decide +kernel) ⟨Nat.le_of_ble_eq_true rfl, Nat.le_of_ble_eq_true rfl⟩) (pre_v (pre_s hK hP hD hS hE [0, 1] rfl rfl (by decide) hFc) (va_recv hK hP (ci := 12) (q0 := 0) rfl rfl)) rfl rfl hl.1 rfl (lv_room (Nat.le_of_ble_eq_true rfl)) dX17_declare_2 ⟨Nat.le_of_ble_eq_true rfl, Nat.le_of_ble_eq_true rfl⟩) hS (fun q _ h => hFc q h) hFc (fun r u t H locs ht hvm hw hB hz1 hk1 hS => ?_)
  obtain rfl : r = 1 := hw
  obtain ⟨hP1, hD1⟩ := hB
  rw [ht] at hP1
  obtain ⟨hP, hD⟩ := va_join (wr := []) (w1 := [(h0, .inr (12, [.int 1, .ref n1, .int 0, .ref b1, .ref c1, .ref f1, .ref g1, .long 0, .int 0]))]) hP hD [0, 1] [] rfl rfl (by decide) (by decide) hk1 hFc hP1 hD1
  have hP : va_P (DG G) clP1 [(h0, .inr (12, [.int 1, .ref n1, .int 0, .ref b1, .ref c1, .ref f1, .ref g1, .long 0, .int 0]))] H := hP
  have hD : va_D A [(h0, .inr (12, [.int 1, .ref n1, .int 0, .ref b1, .ref c1, .ref f1, .ref g1, .long 0, .int 0]))] := hD
  refine W.widen (k := 0) (n := 0) (Nat.le_of_ble_eq_true rfl) (Nat.le_of_ble_eq_true rfl) ?_
  refine lv_if_eq (tgt := 10) hx hb dX17_declare_5 (by decide) (fun c => absurd c (by decide)) (fun _ => ?_)
  refine lv_iconst (v := 0) hx hb dX17_declare_8 (by decide) ?_
  have hP9 := hP.sub (ws' := [(h0, .inr (12, [.int 1, .ref n1, .int 0, .ref b1, .ref c1, .ref f1, .ref g1, .long 0, .int 0]))]) [0] rfl
  have hD9 := hD.sub (ws' := [(h0, .inr (12, [.int 1, .ref n1, .int 0, .ref b1, .ref c1, .ref f1, .ref g1, .long 0, .int 0]))]) [0] (by decide) rfl
  refine W.widen (k := 0) (n := 0) (Nat.le_of_ble_eq_true rfl) (Nat.le_of_ble_eq_true rfl) ?_
  exact W.iret (v := 0) hx hb hr (fun t ht hW => ⟨⟨0, (), rfl, rfl, ⟨by rw [ht]; exact hP9, hD9⟩⟩, hS.F ht⟩) hS.2.2 dX17_declare_9 hlocks
set_option maxHeartbeats 4000000 in
set_option maxRecDepth 100000 in
theorem k_X17_isOf (l : Launch) (hfl : l.stackTraces = false) (G : GC) (h0 : Nat) (p0 : Int32) (p1 : Int32) (th : Int32) (n1 : Nat) (b1 : Nat) (c1 : Nat) (f1 : Nat) (g1 : Nat) (sz : Nat) : Met l yX17_isOf (Cond.code yX17_isOf cX17_isOf 5 (some .boolean) :: W0) ({ frames := 2, cells := 0, slots := 0, locals := 43 }) (va_Pc [.ref h0, .int p0, .int p1] (WD G [(h0, .inr (12, [.int th, .ref n1, .int 0, .ref b1, .ref c1, .ref f1, .ref g1, .long 0, .int 0])), (n1, .inr (1, [.int 0, .ref (aE G), .int 0]))] sz)) (va_Qi (fun (r : Int32) (_ : Unit) => r = 0) (fun _ t => PW G (va_A [(h0, .inr (12, [.int th, .ref n1, .int 0, .ref b1, .ref c1, .ref f1, .ref g1, .long 0, .int 0])), (n1, .inr (1, [.int 0, .ref (aE G), .int 0]))] sz) [(h0, .inr (12, [.int 1, .ref n1, .int 0, .ref b1, .ref c1, .ref f1, .ref g1, .long 0, .int 0]))] t) (va_A [(h0, .inr (12, [.int th, .ref n1, .int 0, .ref b1, .ref c1, .ref f1, .ref g1, .long 0, .int 0])), (n1, .inr (1, [.int 0, .ref (aE G), .int 0]))] sz)) 0 0 (va_A [(h0, .inr (12, [.int th, .ref n1, .int 0, .ref b1, .ref c1, .ref f1, .ref g1, .long 0, .int 0])), (n1, .inr (1, [.int 0, .ref (aE G), .int 0]))] sz) := by
  refine Met.ofW (cc := cX17_isOf) (maxL := 5) (ret := (some .boolean)) (by decide) rfl ?_
  intro p e s m args below meth c s₁ B hml hv
  obtain ⟨rfl, hsz, hP, hK, hD0, hE⟩ := hv
  have hx := B.exec
  have hb := B.bytes
  have hr := B.returns
  have hts := w0_tail B.pre
  have hown : s.vm.findClass RX17 = some m.cls := findClass_of_methodNamed B.named
  have hlocks := B.notSynchronized
  subst hsz
  have hD := hD0.self (sz := s.heap.size)
  generalize hAe : va_A [(h0, .inr (12, [.int th, .ref n1, .int 0, .ref b1, .ref c1, .ref f1, .ref g1, .long 0, .int 0])), (n1, .inr (1, [.int 0, .ref (aE G), .int 0]))] s.heap.size = A at hD hE ⊢
  have hA : ∀ q : Nat, s.heap.size ≤ q → A q := fun q h => by rw [← hAe]; exact Or.inr h
  have hS : va_S A s.heap s.heap [] := va_S.rf
  obtain ⟨H, hHe⟩ : ∃ H : Heap, H = s.heap := ⟨_, rfl⟩
  have hP : va_P (DG G) clP1 [(h0, .inr (12, [.int th, .ref n1, .int 0, .ref b1, .ref c1, .ref f1, .ref g1, .long 0, .int 0])), (n1, .inr (1, [.int 0, .ref (aE G), .int 0]))] H := by rw [hHe]; exact hP
  have hS : va_S A s.heap H [] := by rw [hHe]; exact hS
  have hl := lv_entry ([.ref h0, .int p0, .int p1]) (n := 5) (Nat.le_of_ble_eq_true rfl)
  rw [lg_entry_eq, ← hHe]
  generalize (lg_sl ([.ref h0, .int p0, .int p1]) ++ List.replicate (5 - (lg_sl ([.ref h0, .int p0, .int p1])).length) Slot.unset).toArray = ls at hl ⊢
  have hl : lv_has ls 5 [(0, .ref h0), (1, .int p0), (2, .int p1)] := hl
  refine lv_aload_n hx hb dX17_isOf_0 rfl (lv_at hl 0 rfl) ?_
  refine lv_aload_n hx hb dX17_isOf_1 rfl (lv_at hl 0 rfl) ?_
  refine lv_iload_n hx hb dX17_isOf_2 rfl (lv_at hl 1 rfl) ?_
  have hFc := va_free (wc := [(h0, .inr (12, [.int th, .ref n1, .int 0, .ref b1, .ref c1, .ref f1, .ref g1, .long 0, .int 0])), (n1, .inr (1, [.int 0, .ref (aE G), .int 0]))]) hD hS hA [0, 1] rfl
  refine va_calli (va_runV (As := [.int p0]) (rest := [.ref h0]) ⟨hx, hb, hml, hown, hts⟩ (k_X17_isNode l hfl G h0 p0 th n1 b1 c1 f1 g1 H.size) (cwV 1 hts (gV wm1516 wm1518 ws_p35 wm11 wm1519) rfl rfl rfl (by decide +kernel) ⟨Nat.le_of_ble_eq_true rfl, Nat.le_of_ble_eq_true rfl⟩) (pre_v (pre_s hK hP hD hS hE [0, 1] rfl rfl (by decide) hFc) (va_recv hK hP (ci := 12) (q0 := 0) rfl rfl)) rfl rfl hl.1 rfl (lv_room (Nat.le_of_ble_eq_true rfl)) dX17_isOf_3 ⟨Nat.le_of_ble_eq_true rfl, Nat.le_of_ble_eq_true rfl⟩) hS (fun q _ h => hFc q h) hFc (fun r u t H locs ht hvm hw hB hz1 hk1 hS => ?_)
  obtain rfl : r = 0 := hw
  obtain ⟨hP1, hD1⟩ := hB
  rw [ht] at hP1
  obtain ⟨hP, hD⟩ := va_join (wr := []) (w1 := [(h0, .inr (12, [.int th, .ref n1, .int 0, .ref b1, .ref c1, .ref f1, .ref g1, .long 0, .int 0])), (n1, .inr (1, [.int 0, .ref (aE G), .int 0]))]) hP hD [0, 1] [] rfl rfl (by decide) (by decide) hk1 hFc hP1 hD1
  have hP : va_P (DG G) clP1 [(h0, .inr (12, [.int th, .ref n1, .int 0, .ref b1, .ref c1, .ref f1, .ref g1, .long 0, .int 0])), (n1, .inr (1, [.int 0, .ref (aE G), .int 0]))] H := hP
  have hD : va_D A [(h0, .inr (12, [.int th, .ref n1, .int 0, .ref b1, .ref c1, .ref f1, .ref g1, .long 0, .int 0])), (n1, .inr (1, [.int 0, .ref (aE G), .int 0]))] := hD
  refine W.widen (k := 0) (n := 0) (Nat.le_of_ble_eq_true rfl) (Nat.le_of_ble_eq_true rfl) ?_
  refine lv_if_eq (tgt := 21) hx hb dX17_isOf_6 (by decide) (fun _ => ?_) (fun c => absurd (by decide) c)
  refine lv_iconst (v := 1) hx hb dX17_isOf_21 (by decide) ?_
  have hFc := va_free (wc := [(h0, .inr (12, [.int th, .ref n1, .int 0, .ref b1, .ref c1, .ref f1, .ref g1, .long 0, .int 0]))]) hD hS hA [0] rfl
  refine va_calli (va_runV (As := [.int 1]) (rest := []) ⟨hx, hb, hml, hown, hts⟩ (k_X17_fails_1 l hfl G h0 th n1 b1 c1 f1 g1 H.size) (cwV 1 hts (gV wm1392 wm1394 ws_p29 wm11 wm1395) rfl rfl rfl (by decide +kernel) ⟨Nat.le_of_ble_eq_true rfl, Nat.le_of_ble_eq_true rfl⟩) (pre_v (pre_s hK hP hD hS hE [0] rfl rfl (by decide) hFc) (va_recv hK hP (ci := 12) (q0 := 0) rfl rfl)) rfl rfl hl.1 rfl (lv_room (Nat.le_of_ble_eq_true rfl)) dX17_isOf_22 ⟨Nat.le_of_ble_eq_true rfl, Nat.le_of_ble_eq_true rfl⟩) hS (fun q _ h => hFc q h) hFc (fun r u t H locs ht hvm hw hB hz1 hk1 hS => ?_)
  obtain rfl : r = 1 := hw
  obtain ⟨hP1, hD1⟩ := hB
  rw [ht] at hP1
  obtain ⟨hP, hD⟩ := va_join (wr := [(n1, .inr (1, [.int 0, .ref (aE G), .int 0]))]) (w1 := [(h0, .inr (12, [.int 1, .ref n1, .int 0, .ref b1, .ref c1, .ref f1, .ref g1, .long 0, .int 0]))]) hP hD [0] [1] rfl rfl (by decide) (by decide) hk1 hFc hP1 hD1
  have hP : va_P (DG G) clP1 [(n1, .inr (1, [.int 0, .ref (aE G), .int 0])), (h0, .inr (12, [.int 1, .ref n1, .int 0, .ref b1, .ref c1, .ref f1, .ref g1, .long 0, .int 0]))] H := hP
  have hD : va_D A [(n1, .inr (1, [.int 0, .ref (aE G), .int 0])), (h0, .inr (12, [.int 1, .ref n1, .int 0, .ref b1, .ref c1, .ref f1, .ref g1, .long 0, .int 0]))] := hD
  refine W.widen (k := 0) (n := 0) (Nat.le_of_ble_eq_true rfl) (Nat.le_of_ble_eq_true rfl) ?_
  refine lv_if_eq (tgt := 30) hx hb dX17_isOf_25 (by decide) (fun c => absurd c (by decide)) (fun _ => ?_)
  refine lv_iconst (v := 0) hx hb dX17_isOf_28 (by decide) ?_
  have hP9 := hP.sub (ws' := [(h0, .inr (12, [.int 1, .ref n1, .int 0, .ref b1, .ref c1, .ref f1, .ref g1, .long 0, .int 0]))]) [1] rfl
  have hD9 := hD.sub (ws' := [(h0, .inr (12, [.int 1, .ref n1, .int 0, .ref b1, .ref c1, .ref f1, .ref g1, .long 0, .int 0]))]) [1] (by decide) rfl
  refine W.widen (k := 0) (n := 0) (Nat.le_of_ble_eq_true rfl) (Nat.le_of_ble_eq_true rfl) ?_
  exact W.zret (v := 0) (ty := .boolean) hx hb hr (by decide) (fun t ht hW => ⟨⟨0, (), rfl, rfl, ⟨by rw [ht]; exact hP9, hD9⟩⟩, hS.F ht⟩) hS.2.2 dX17_isOf_29 hlocks
set_option maxHeartbeats 4000000 in
set_option maxRecDepth 100000 in
theorem k_X17_isGoal (l : Launch) (hfl : l.stackTraces = false) (G : GC) (h0 : Nat) (p0 : Int32) (th : Int32) (n1 : Nat) (b1 : Nat) (c1 : Nat) (f1 : Nat) (g1 : Nat) (sz : Nat) : Met l yX17_isGoal (Cond.code yX17_isGoal cX17_isGoal 2 (some .boolean) :: W0) ({ frames := 1, cells := 0, slots := 0, locals := 22 }) (va_Pc [.ref h0, .int p0] (WD G [(h0, .inr (12, [.int th, .ref n1, .int 0, .ref b1, .ref c1, .ref f1, .ref g1, .long 0, .int 0])), (g1, .inr (1, [.int 0, .ref (aE G), .int 0]))] sz)) (va_Qi (fun (r : Int32) (_ : Unit) => r = 0) (fun _ t => PW G (va_A [(h0, .inr (12, [.int th, .ref n1, .int 0, .ref b1, .ref c1, .ref f1, .ref g1, .long 0, .int 0])), (g1, .inr (1, [.int 0, .ref (aE G), .int 0]))] sz) [(h0, .inr (12, [.int th, .ref n1, .int 0, .ref b1, .ref c1, .ref f1, .ref g1, .long 0, .int 0]))] t) (va_A [(h0, .inr (12, [.int th, .ref n1, .int 0, .ref b1, .ref c1, .ref f1, .ref g1, .long 0, .int 0])), (g1, .inr (1, [.int 0, .ref (aE G), .int 0]))] sz)) 0 0 (va_A [(h0, .inr (12, [.int th, .ref n1, .int 0, .ref b1, .ref c1, .ref f1, .ref g1, .long 0, .int 0])), (g1, .inr (1, [.int 0, .ref (aE G), .int 0]))] sz) := by
  refine Met.ofW (cc := cX17_isGoal) (maxL := 2) (ret := (some .boolean)) (by decide) rfl ?_
  intro p e s m args below meth c s₁ B hml hv
  obtain ⟨rfl, hsz, hP, hK, hD0, hE⟩ := hv
  have hx := B.exec
  have hb := B.bytes
  have hr := B.returns
  have hts := w0_tail B.pre
  have hown : s.vm.findClass RX17 = some m.cls := findClass_of_methodNamed B.named
  have hlocks := B.notSynchronized
  subst hsz
  have hD := hD0.self (sz := s.heap.size)
  generalize hAe : va_A [(h0, .inr (12, [.int th, .ref n1, .int 0, .ref b1, .ref c1, .ref f1, .ref g1, .long 0, .int 0])), (g1, .inr (1, [.int 0, .ref (aE G), .int 0]))] s.heap.size = A at hD hE ⊢
  have hA : ∀ q : Nat, s.heap.size ≤ q → A q := fun q h => by rw [← hAe]; exact Or.inr h
  have hS : va_S A s.heap s.heap [] := va_S.rf
  obtain ⟨H, hHe⟩ : ∃ H : Heap, H = s.heap := ⟨_, rfl⟩
  have hP : va_P (DG G) clP1 [(h0, .inr (12, [.int th, .ref n1, .int 0, .ref b1, .ref c1, .ref f1, .ref g1, .long 0, .int 0])), (g1, .inr (1, [.int 0, .ref (aE G), .int 0]))] H := by rw [hHe]; exact hP
  have hS : va_S A s.heap H [] := by rw [hHe]; exact hS
  have hl := lv_entry ([.ref h0, .int p0]) (n := 2) (Nat.le_of_ble_eq_true rfl)
  rw [lg_entry_eq, ← hHe]
  generalize (lg_sl ([.ref h0, .int p0]) ++ List.replicate (2 - (lg_sl ([.ref h0, .int p0])).length) Slot.unset).toArray = ls at hl ⊢
  have hl : lv_has ls 2 [(0, .ref h0), (1, .int p0)] := hl
  refine lv_iload_n hx hb dX17_isGoal_0 rfl (lv_at hl 1 rfl) ?_
  refine lv_iconst (v := 0) hx hb dX17_isGoal_1 (by decide) ?_
  refine lv_aload_n hx hb dX17_isGoal_2 rfl (lv_at hl 0 rfl) ?_
  refine va_get (D := DG G) (ci := 12) (v := .ref g1) (C := RX17) (T := TX17) (N := 9) hx hb hts inW_X17 hown hK hP 0 rfl rfl 6 (by decide) (hts _ wm1351) (fun _ h9 => h9) rfl dX17_isGoal_3 ?_
  have hFc := va_free (wc := [(g1, .inr (1, [.int 0, .ref (aE G), .int 0]))]) hD hS hA [1] rfl
  refine va_calli (va_runV (As := []) (rest := [.int 0, .int p0]) ⟨hx, hb, hml, hown, hts⟩ (k_J_alSize l hfl G g1 0 ((aE G)) 0 H.size) (cwV 0 hts (gV wm1388 wm1389 wm1390 wm14 wm1391) rfl rfl rfl (by decide +kernel) ⟨Nat.le_of_ble_eq_true rfl, Nat.le_of_ble_eq_true rfl⟩) (pre_v (pre_s hK hP hD hS hE [1] rfl rfl (by decide) hFc) (va_recv hK hP (ci := 1) (q0 := 1) rfl rfl)) rfl rfl hl.1 rfl (lv_room (Nat.le_of_ble_eq_true rfl)) dX17_isGoal_6 ⟨Nat.le_of_ble_eq_true rfl, Nat.le_of_ble_eq_true rfl⟩) hS (fun q _ h => hFc q h) hFc (fun r u t H locs ht hvm hw hB hz1 hk1 hS => ?_)
  obtain rfl : r = 0 := hw
  obtain ⟨hP1, hD1⟩ := hB
  rw [ht] at hP1
  obtain ⟨hP, hD⟩ := va_join (wr := [(h0, .inr (12, [.int th, .ref n1, .int 0, .ref b1, .ref c1, .ref f1, .ref g1, .long 0, .int 0]))]) (w1 := [(g1, .inr (1, [.int 0, .ref (aE G), .int 0]))]) hP hD [1] [0] rfl rfl (by decide) (by decide) hk1 hFc hP1 hD1
  have hP : va_P (DG G) clP1 [(h0, .inr (12, [.int th, .ref n1, .int 0, .ref b1, .ref c1, .ref f1, .ref g1, .long 0, .int 0])), (g1, .inr (1, [.int 0, .ref (aE G), .int 0]))] H := hP
  have hD : va_D A [(h0, .inr (12, [.int th, .ref n1, .int 0, .ref b1, .ref c1, .ref f1, .ref g1, .long 0, .int 0])), (g1, .inr (1, [.int 0, .ref (aE G), .int 0]))] := hD
  refine W.widen (k := 0) (n := 0) (Nat.le_of_ble_eq_true rfl) (Nat.le_of_ble_eq_true rfl) ?_
  refine lv_iconst (v := 1) hx hb dX17_isGoal_9 (by decide) ?_
  refine lv_isub hx hb dX17_isGoal_10 ?_
  refine lv_topi (fun z_1 ez_1 => ?_)
  obtain rfl : z_1 = (-1) := ez_1.trans (by decide)
  have hFc := va_free (wc := []) hD hS hA [] rfl
  refine va_calli (va_runS (As := [.int p0, .int 0, .int (-1)]) (rest := []) ⟨hx, hb, hml, hown, hts⟩ (k_X17_in_0 l hfl G p0 H.size) (cwS 3 hts (gS wm1381 wm1382 wm11 wm1383) rfl rfl rfl (by decide +kernel) ⟨Nat.le_of_ble_eq_true rfl, Nat.le_of_ble_eq_true rfl⟩) (pre_s hK hP hD hS hE [] rfl rfl (by decide) hFc) rfl rfl hl.1 rfl (lv_room (Nat.le_of_ble_eq_true rfl)) dX17_isGoal_11 ⟨Nat.le_of_ble_eq_true rfl, Nat.le_of_ble_eq_true rfl⟩) hS (fun q _ h => hFc q h) hFc (fun r u t H locs ht hvm hw hB hz1 hk1 hS => ?_)
  obtain rfl : r = 0 := hw
  obtain ⟨hP1, hD1⟩ := hB
  rw [ht] at hP1
  obtain ⟨hP, hD⟩ := va_join (wr := [(h0, .inr (12, [.int th, .ref n1, .int 0, .ref b1, .ref c1, .ref f1, .ref g1, .long 0, .int 0])), (g1, .inr (1, [.int 0, .ref (aE G), .int 0]))]) (w1 := []) hP hD [] [0, 1] rfl rfl (by decide) (by decide) hk1 hFc hP1 hD1
  have hP : va_P (DG G) clP1 [(h0, .inr (12, [.int th, .ref n1, .int 0, .ref b1, .ref c1, .ref f1, .ref g1, .long 0, .int 0])), (g1, .inr (1, [.int 0, .ref (aE G), .int 0]))] H := hP
  have hD : va_D A [(h0, .inr (12, [.int th, .ref n1, .int 0, .ref b1, .ref c1, .ref f1, .ref g1, .long 0, .int 0])), (g1, .inr (1, [.int 0, .ref (aE G), .int 0]))] := hD
  refine W.widen (k := 0) (n := 0) (Nat.le_of_ble_eq_true rfl) (Nat.le_of_ble_eq_true rfl) ?_
  have hP9 := hP.sub (ws' := [(h0, .inr (12, [.int th, .ref n1, .int 0, .ref b1, .ref c1, .ref f1, .ref g1, .long 0, .int 0]))]) [0] rfl
  have hD9 := hD.sub (ws' := [(h0, .inr (12, [.int th, .ref n1, .int 0, .ref b1, .ref c1, .ref f1, .ref g1, .long 0, .int 0]))]) [0] (by decide) rfl
  refine W.widen (k := 0) (n := 0) (Nat.le_of_ble_eq_true rfl) (Nat.le_of_ble_eq_true rfl) ?_
  exact W.zret (v := 0) (ty := .boolean) hx hb hr (by decide) (fun t ht hW => ⟨⟨0, (), rfl, rfl, ⟨by rw [ht]; exact hP9, hD9⟩⟩, hS.F ht⟩) hS.2.2 dX17_isGoal_14 hlocks
set_option maxHeartbeats 4000000 in
set_option maxRecDepth 100000 in
theorem k_X17_split (l : Launch) (hfl : l.stackTraces = false) (G : GC) (h0 : Nat) (p0 : Int32) (p1 : Int32) (th : Int32) (n1 : Nat) (b1 : Nat) (c1 : Nat) (f1 : Nat) (g1 : Nat) (sz : Nat) : Met l yX17_split (Cond.code yX17_split cX17_split 11 (some .int) :: W0) ({ frames := 2, cells := 0, slots := 0, locals := 43 }) (va_Pc [.ref h0, .int p0, .int p1] (WD G [(h0, .inr (12, [.int th, .ref n1, .int 0, .ref b1, .ref c1, .ref f1, .ref g1, .long 0, .int 0])), (g1, .inr (1, [.int 0, .ref (aE G), .int 0]))] sz)) (va_Qi (fun (r : Int32) (_ : Unit) => r = 0) (fun _ t => PW G (va_A [(h0, .inr (12, [.int th, .ref n1, .int 0, .ref b1, .ref c1, .ref f1, .ref g1, .long 0, .int 0])), (g1, .inr (1, [.int 0, .ref (aE G), .int 0]))] sz) [(h0, .inr (12, [.int 1, .ref n1, .int 0, .ref b1, .ref c1, .ref f1, .ref g1, .long 0, .int 0]))] t) (va_A [(h0, .inr (12, [.int th, .ref n1, .int 0, .ref b1, .ref c1, .ref f1, .ref g1, .long 0, .int 0])), (g1, .inr (1, [.int 0, .ref (aE G), .int 0]))] sz)) 0 0 (va_A [(h0, .inr (12, [.int th, .ref n1, .int 0, .ref b1, .ref c1, .ref f1, .ref g1, .long 0, .int 0])), (g1, .inr (1, [.int 0, .ref (aE G), .int 0]))] sz) := by
  refine Met.ofW (cc := cX17_split) (maxL := 11) (ret := (some .int)) (by decide) rfl ?_
  intro p e s m args below meth c s₁ B hml hv
  obtain ⟨rfl, hsz, hP, hK, hD0, hE⟩ := hv
  have hx := B.exec
  have hb := B.bytes
  have hr := B.returns
  have hts := w0_tail B.pre
  have hown : s.vm.findClass RX17 = some m.cls := findClass_of_methodNamed B.named
  have hlocks := B.notSynchronized
  subst hsz
  have hD := hD0.self (sz := s.heap.size)
  generalize hAe : va_A [(h0, .inr (12, [.int th, .ref n1, .int 0, .ref b1, .ref c1, .ref f1, .ref g1, .long 0, .int 0])), (g1, .inr (1, [.int 0, .ref (aE G), .int 0]))] s.heap.size = A at hD hE ⊢
  have hA : ∀ q : Nat, s.heap.size ≤ q → A q := fun q h => by rw [← hAe]; exact Or.inr h
  have hS : va_S A s.heap s.heap [] := va_S.rf
  obtain ⟨H, hHe⟩ : ∃ H : Heap, H = s.heap := ⟨_, rfl⟩
  have hP : va_P (DG G) clP1 [(h0, .inr (12, [.int th, .ref n1, .int 0, .ref b1, .ref c1, .ref f1, .ref g1, .long 0, .int 0])), (g1, .inr (1, [.int 0, .ref (aE G), .int 0]))] H := by rw [hHe]; exact hP
  have hS : va_S A s.heap H [] := by rw [hHe]; exact hS
  have hl := lv_entry ([.ref h0, .int p0, .int p1]) (n := 11) (Nat.le_of_ble_eq_true rfl)
  rw [lg_entry_eq, ← hHe]
  generalize (lg_sl ([.ref h0, .int p0, .int p1]) ++ List.replicate (11 - (lg_sl ([.ref h0, .int p0, .int p1])).length) Slot.unset).toArray = ls at hl ⊢
  have hl : lv_has ls 11 [(0, .ref h0), (1, .int p0), (2, .int p1)] := hl
  refine lv_aload_n hx hb dX17_split_0 rfl (lv_at hl 0 rfl) ?_
  refine lv_aload_n hx hb dX17_split_1 rfl (lv_at hl 0 rfl) ?_
  refine lv_iload_n hx hb dX17_split_2 rfl (lv_at hl 1 rfl) ?_
  have hFc := va_free (wc := [(h0, .inr (12, [.int th, .ref n1, .int 0, .ref b1, .ref c1, .ref f1, .ref g1, .long 0, .int 0])), (g1, .inr (1, [.int 0, .ref (aE G), .int 0]))]) hD hS hA [0, 1] rfl
  refine va_calli (va_runV (As := [.int p0]) (rest := [.ref h0]) ⟨hx, hb, hml, hown, hts⟩ (k_X17_isGoal l hfl G h0 p0 th n1 b1 c1 f1 g1 H.size) (cwV 1 hts (gV wm1803 wm1805 ws_p44 wm11 wm1806) rfl rfl rfl (by decide +kernel) ⟨Nat.le_of_ble_eq_true rfl, Nat.le_of_ble_eq_true rfl⟩) (pre_v (pre_s hK hP hD hS hE [0, 1] rfl rfl (by decide) hFc) (va_recv hK hP (ci := 12) (q0 := 0) rfl rfl)) rfl rfl hl.1 rfl (lv_room (Nat.le_of_ble_eq_true rfl)) dX17_split_3 ⟨Nat.le_of_ble_eq_true rfl, Nat.le_of_ble_eq_true rfl⟩) hS (fun q _ h => hFc q h) hFc (fun r u t H locs ht hvm hw hB hz1 hk1 hS => ?_)
  obtain rfl : r = 0 := hw
  obtain ⟨hP1, hD1⟩ := hB
  rw [ht] at hP1
  obtain ⟨hP, hD⟩ := va_join (wr := []) (w1 := [(h0, .inr (12, [.int th, .ref n1, .int 0, .ref b1, .ref c1, .ref f1, .ref g1, .long 0, .int 0]))]) hP hD [0, 1] [] rfl rfl (by decide) (by decide) hk1 hFc hP1 hD1
  have hP : va_P (DG G) clP1 [(h0, .inr (12, [.int th, .ref n1, .int 0, .ref b1, .ref c1, .ref f1, .ref g1, .long 0, .int 0]))] H := hP
  have hD : va_D A [(h0, .inr (12, [.int th, .ref n1, .int 0, .ref b1, .ref c1, .ref f1, .ref g1, .long 0, .int 0]))] := hD
  refine W.widen (k := 0) (n := 0) (Nat.le_of_ble_eq_true rfl) (Nat.le_of_ble_eq_true rfl) ?_
  refine lv_if_ne (tgt := 13) hx hb dX17_split_6 (by decide) (fun c => absurd (by decide) c) (fun _ => ?_)
  refine lv_iconst (v := 1) hx hb dX17_split_9 (by decide) ?_
  refine lv_goto (tgt := 43) hx hb dX17_split_10 (by decide) ?_
  have hFc := va_free (wc := [(h0, .inr (12, [.int th, .ref n1, .int 0, .ref b1, .ref c1, .ref f1, .ref g1, .long 0, .int 0]))]) hD hS hA [0] rfl
  refine va_calli (va_runV (As := [.int 1]) (rest := []) ⟨hx, hb, hml, hown, hts⟩ (k_X17_fails_1 l hfl G h0 th n1 b1 c1 f1 g1 H.size) (cwV 1 hts (gV wm1392 wm1394 ws_p29 wm11 wm1395) rfl rfl rfl (by decide +kernel) ⟨Nat.le_of_ble_eq_true rfl, Nat.le_of_ble_eq_true rfl⟩) (pre_v (pre_s hK hP hD hS hE [0] rfl rfl (by decide) hFc) (va_recv hK hP (ci := 12) (q0 := 0) rfl rfl)) rfl rfl hl.1 rfl (lv_room (Nat.le_of_ble_eq_true rfl)) dX17_split_43 ⟨Nat.le_of_ble_eq_true rfl, Nat.le_of_ble_eq_true rfl⟩) hS (fun q _ h => hFc q h) hFc (fun r u t H locs ht hvm hw hB hz1 hk1 hS => ?_)
  obtain rfl : r = 1 := hw
  obtain ⟨hP1, hD1⟩ := hB
  rw [ht] at hP1
  obtain ⟨hP, hD⟩ := va_join (wr := []) (w1 := [(h0, .inr (12, [.int 1, .ref n1, .int 0, .ref b1, .ref c1, .ref f1, .ref g1, .long 0, .int 0]))]) hP hD [0] [] rfl rfl (by decide) (by decide) hk1 hFc hP1 hD1
  have hP : va_P (DG G) clP1 [(h0, .inr (12, [.int 1, .ref n1, .int 0, .ref b1, .ref c1, .ref f1, .ref g1, .long 0, .int 0]))] H := hP
  have hD : va_D A [(h0, .inr (12, [.int 1, .ref n1, .int 0, .ref b1, .ref c1, .ref f1, .ref g1, .long 0, .int 0]))] := hD
  refine W.widen (k := 0) (n := 0) (Nat.le_of_ble_eq_true rfl) (Nat.le_of_ble_eq_true rfl) ?_
  refine lv_if_eq (tgt := 51) hx hb dX17_split_46 (by decide) (fun c => absurd c (by decide)) (fun _ => ?_)
  refine lv_iconst (v := 0) hx hb dX17_split_49 (by decide) ?_
  have hP9 := hP.sub (ws' := [(h0, .inr (12, [.int 1, .ref n1, .int 0, .ref b1, .ref c1, .ref f1, .ref g1, .long 0, .int 0]))]) [0] rfl
  have hD9 := hD.sub (ws' := [(h0, .inr (12, [.int 1, .ref n1, .int 0, .ref b1, .ref c1, .ref f1, .ref g1, .long 0, .int 0]))]) [0] (by decide) rfl
  refine W.widen (k := 0) (n := 0) (Nat.le_of_ble_eq_true rfl) (Nat.le_of_ble_eq_true rfl) ?_
  exact W.iret (v := 0) hx hb hr (fun t ht hW => ⟨⟨0, (), rfl, rfl, ⟨by rw [ht]; exact hP9, hD9⟩⟩, hS.F ht⟩) hS.2.2 dX17_split_50 hlocks
set_option maxHeartbeats 4000000 in
set_option maxRecDepth 100000 in
theorem k_X17_fill (l : Launch) (hfl : l.stackTraces = false) (G : GC) (h0 : Nat) (p0 : Int32) (p1 : Int32) (th : Int32) (n1 : Nat) (b1 : Nat) (c1 : Nat) (f1 : Nat) (g1 : Nat) (sz : Nat) : Met l yX17_fill (Cond.code yX17_fill cX17_fill 6 (some .int) :: W0) ({ frames := 2, cells := 0, slots := 0, locals := 43 }) (va_Pc [.ref h0, .int p0, .int p1] (WD G [(h0, .inr (12, [.int th, .ref n1, .int 0, .ref b1, .ref c1, .ref f1, .ref g1, .long 0, .int 0])), (g1, .inr (1, [.int 0, .ref (aE G), .int 0]))] sz)) (va_Qi (fun (r : Int32) (_ : Unit) => r = 0) (fun _ t => PW G (va_A [(h0, .inr (12, [.int th, .ref n1, .int 0, .ref b1, .ref c1, .ref f1, .ref g1, .long 0, .int 0])), (g1, .inr (1, [.int 0, .ref (aE G), .int 0]))] sz) [(h0, .inr (12, [.int 1, .ref n1, .int 0, .ref b1, .ref c1, .ref f1, .ref g1, .long 0, .int 0]))] t) (va_A [(h0, .inr (12, [.int th, .ref n1, .int 0, .ref b1, .ref c1, .ref f1, .ref g1, .long 0, .int 0])), (g1, .inr (1, [.int 0, .ref (aE G), .int 0]))] sz)) 0 0 (va_A [(h0, .inr (12, [.int th, .ref n1, .int 0, .ref b1, .ref c1, .ref f1, .ref g1, .long 0, .int 0])), (g1, .inr (1, [.int 0, .ref (aE G), .int 0]))] sz) := by
  refine Met.ofW (cc := cX17_fill) (maxL := 6) (ret := (some .int)) (by decide) rfl ?_
  intro p e s m args below meth c s₁ B hml hv
  obtain ⟨rfl, hsz, hP, hK, hD0, hE⟩ := hv
  have hx := B.exec
  have hb := B.bytes
  have hr := B.returns
  have hts := w0_tail B.pre
  have hown : s.vm.findClass RX17 = some m.cls := findClass_of_methodNamed B.named
  have hlocks := B.notSynchronized
  subst hsz
  have hD := hD0.self (sz := s.heap.size)
  generalize hAe : va_A [(h0, .inr (12, [.int th, .ref n1, .int 0, .ref b1, .ref c1, .ref f1, .ref g1, .long 0, .int 0])), (g1, .inr (1, [.int 0, .ref (aE G), .int 0]))] s.heap.size = A at hD hE ⊢
  have hA : ∀ q : Nat, s.heap.size ≤ q → A q := fun q h => by rw [← hAe]; exact Or.inr h
  have hS : va_S A s.heap s.heap [] := va_S.rf
  obtain ⟨H, hHe⟩ : ∃ H : Heap, H = s.heap := ⟨_, rfl⟩
  have hP : va_P (DG G) clP1 [(h0, .inr (12, [.int th, .ref n1, .int 0, .ref b1, .ref c1, .ref f1, .ref g1, .long 0, .int 0])), (g1, .inr (1, [.int 0, .ref (aE G), .int 0]))] H := by rw [hHe]; exact hP
  have hS : va_S A s.heap H [] := by rw [hHe]; exact hS
  have hl := lv_entry ([.ref h0, .int p0, .int p1]) (n := 6) (Nat.le_of_ble_eq_true rfl)
  rw [lg_entry_eq, ← hHe]
  generalize (lg_sl ([.ref h0, .int p0, .int p1]) ++ List.replicate (6 - (lg_sl ([.ref h0, .int p0, .int p1])).length) Slot.unset).toArray = ls at hl ⊢
  have hl : lv_has ls 6 [(0, .ref h0), (1, .int p0), (2, .int p1)] := hl
  refine lv_aload_n hx hb dX17_fill_0 rfl (lv_at hl 0 rfl) ?_
  refine lv_aload_n hx hb dX17_fill_1 rfl (lv_at hl 0 rfl) ?_
  refine lv_iload_n hx hb dX17_fill_2 rfl (lv_at hl 1 rfl) ?_
  have hFc := va_free (wc := [(h0, .inr (12, [.int th, .ref n1, .int 0, .ref b1, .ref c1, .ref f1, .ref g1, .long 0, .int 0])), (g1, .inr (1, [.int 0, .ref (aE G), .int 0]))]) hD hS hA [0, 1] rfl
  refine va_calli (va_runV (As := [.int p0]) (rest := [.ref h0]) ⟨hx, hb, hml, hown, hts⟩ (k_X17_isGoal l hfl G h0 p0 th n1 b1 c1 f1 g1 H.size) (cwV 1 hts (gV wm1803 wm1805 ws_p44 wm11 wm1806) rfl rfl rfl (by decide +kernel) ⟨Nat.le_of_ble_eq_true rfl, Nat.le_of_ble_eq_true rfl⟩) (pre_v (pre_s hK hP hD hS hE [0, 1] rfl rfl (by decide) hFc) (va_recv hK hP (ci := 12) (q0 := 0) rfl rfl)) rfl rfl hl.1 rfl (lv_room (Nat.le_of_ble_eq_true rfl)) dX17_fill_3 ⟨Nat.le_of_ble_eq_true rfl, Nat.le_of_ble_eq_true rfl⟩) hS (fun q _ h => hFc q h) hFc (fun r u t H locs ht hvm hw hB hz1 hk1 hS => ?_)
  obtain rfl : r = 0 := hw
  obtain ⟨hP1, hD1⟩ := hB
  rw [ht] at hP1
  obtain ⟨hP, hD⟩ := va_join (wr := []) (w1 := [(h0, .inr (12, [.int th, .ref n1, .int 0, .ref b1, .ref c1, .ref f1, .ref g1, .long 0, .int 0]))]) hP hD [0, 1] [] rfl rfl (by decide) (by decide) hk1 hFc hP1 hD1
  have hP : va_P (DG G) clP1 [(h0, .inr (12, [.int th, .ref n1, .int 0, .ref b1, .ref c1, .ref f1, .ref g1, .long 0, .int 0]))] H := hP
  have hD : va_D A [(h0, .inr (12, [.int th, .ref n1, .int 0, .ref b1, .ref c1, .ref f1, .ref g1, .long 0, .int 0]))] := hD
  refine W.widen (k := 0) (n := 0) (Nat.le_of_ble_eq_true rfl) (Nat.le_of_ble_eq_true rfl) ?_
  refine lv_if_ne (tgt := 13) hx hb dX17_fill_6 (by decide) (fun c => absurd (by decide) c) (fun _ => ?_)
  refine lv_iconst (v := 1) hx hb dX17_fill_9 (by decide) ?_
  refine lv_goto (tgt := 49) hx hb dX17_fill_10 (by decide) ?_
  have hFc := va_free (wc := [(h0, .inr (12, [.int th, .ref n1, .int 0, .ref b1, .ref c1, .ref f1, .ref g1, .long 0, .int 0]))]) hD hS hA [0] rfl
  refine va_calli (va_runV (As := [.int 1]) (rest := []) ⟨hx, hb, hml, hown, hts⟩ (k_X17_fails_1 l hfl G h0 th n1 b1 c1 f1 g1 H.size) (cwV 1 hts (gV wm1392 wm1394 ws_p29 wm11 wm1395) rfl rfl rfl (by decide +kernel) ⟨Nat.le_of_ble_eq_true rfl, Nat.le_of_ble_eq_true rfl⟩) (pre_v (pre_s hK hP hD hS hE [0] rfl rfl (by decide) hFc) (va_recv hK hP (ci := 12) (q0 := 0) rfl rfl)) rfl rfl hl.1 rfl (lv_room (Nat.le_of_ble_eq_true rfl)) dX17_fill_49 ⟨Nat.le_of_ble_eq_true rfl, Nat.le_of_ble_eq_true rfl⟩) hS (fun q _ h => hFc q h) hFc (fun r u t H locs ht hvm hw hB hz1 hk1 hS => ?_)
  obtain rfl : r = 1 := hw
  obtain ⟨hP1, hD1⟩ := hB
  rw [ht] at hP1
  obtain ⟨hP, hD⟩ := va_join (wr := []) (w1 := [(h0, .inr (12, [.int 1, .ref n1, .int 0, .ref b1, .ref c1, .ref f1, .ref g1, .long 0, .int 0]))]) hP hD [0] [] rfl rfl (by decide) (by decide) hk1 hFc hP1 hD1
  have hP : va_P (DG G) clP1 [(h0, .inr (12, [.int 1, .ref n1, .int 0, .ref b1, .ref c1, .ref f1, .ref g1, .long 0, .int 0]))] H := hP
  have hD : va_D A [(h0, .inr (12, [.int 1, .ref n1, .int 0, .ref b1, .ref c1, .ref f1, .ref g1, .long 0, .int 0]))] := hD
  refine W.widen (k := 0) (n := 0) (Nat.le_of_ble_eq_true rfl) (Nat.le_of_ble_eq_true rfl) ?_
  refine lv_if_eq (tgt := 57) hx hb dX17_fill_52 (by decide) (fun c => absurd c (by decide)) (fun _ => ?_)
  refine lv_iconst (v := 0) hx hb dX17_fill_55 (by decide) ?_
  have hP9 := hP.sub (ws' := [(h0, .inr (12, [.int 1, .ref n1, .int 0, .ref b1, .ref c1, .ref f1, .ref g1, .long 0, .int 0]))]) [0] rfl
  have hD9 := hD.sub (ws' := [(h0, .inr (12, [.int 1, .ref n1, .int 0, .ref b1, .ref c1, .ref f1, .ref g1, .long 0, .int 0]))]) [0] (by decide) rfl
  refine W.widen (k := 0) (n := 0) (Nat.le_of_ble_eq_true rfl) (Nat.le_of_ble_eq_true rfl) ?_
  exact W.iret (v := 0) hx hb hr (fun t ht hW => ⟨⟨0, (), rfl, rfl, ⟨by rw [ht]; exact hP9, hD9⟩⟩, hS.F ht⟩) hS.2.2 dX17_fill_56 hlocks
set_option maxHeartbeats 4000000 in
set_option maxRecDepth 100000 in
theorem k_X17_auto (l : Launch) (hfl : l.stackTraces = false) (G : GC) (h0 : Nat) (p0 : Int32) (th : Int32) (n1 : Nat) (b1 : Nat) (c1 : Nat) (f1 : Nat) (g1 : Nat) (sz : Nat) : Met l yX17_auto (Cond.code yX17_auto cX17_auto 5 (some .int) :: W0) ({ frames := 2, cells := 0, slots := 0, locals := 43 }) (va_Pc [.ref h0, .int p0] (WD G [(h0, .inr (12, [.int th, .ref n1, .int 0, .ref b1, .ref c1, .ref f1, .ref g1, .long 0, .int 0])), (g1, .inr (1, [.int 0, .ref (aE G), .int 0]))] sz)) (va_Qi (fun (r : Int32) (_ : Unit) => r = 0) (fun _ t => PW G (va_A [(h0, .inr (12, [.int th, .ref n1, .int 0, .ref b1, .ref c1, .ref f1, .ref g1, .long 0, .int 0])), (g1, .inr (1, [.int 0, .ref (aE G), .int 0]))] sz) [(h0, .inr (12, [.int 1, .ref n1, .int 0, .ref b1, .ref c1, .ref f1, .ref g1, .long 0, .int 0]))] t) (va_A [(h0, .inr (12, [.int th, .ref n1, .int 0, .ref b1, .ref c1, .ref f1, .ref g1, .long 0, .int 0])), (g1, .inr (1, [.int 0, .ref (aE G), .int 0]))] sz)) 0 0 (va_A [(h0, .inr (12, [.int th, .ref n1, .int 0, .ref b1, .ref c1, .ref f1, .ref g1, .long 0, .int 0])), (g1, .inr (1, [.int 0, .ref (aE G), .int 0]))] sz) := by
  refine Met.ofW (cc := cX17_auto) (maxL := 5) (ret := (some .int)) (by decide) rfl ?_
  intro p e s m args below meth c s₁ B hml hv
  obtain ⟨rfl, hsz, hP, hK, hD0, hE⟩ := hv
  have hx := B.exec
  have hb := B.bytes
  have hr := B.returns
  have hts := w0_tail B.pre
  have hown : s.vm.findClass RX17 = some m.cls := findClass_of_methodNamed B.named
  have hlocks := B.notSynchronized
  subst hsz
  have hD := hD0.self (sz := s.heap.size)
  generalize hAe : va_A [(h0, .inr (12, [.int th, .ref n1, .int 0, .ref b1, .ref c1, .ref f1, .ref g1, .long 0, .int 0])), (g1, .inr (1, [.int 0, .ref (aE G), .int 0]))] s.heap.size = A at hD hE ⊢
  have hA : ∀ q : Nat, s.heap.size ≤ q → A q := fun q h => by rw [← hAe]; exact Or.inr h
  have hS : va_S A s.heap s.heap [] := va_S.rf
  obtain ⟨H, hHe⟩ : ∃ H : Heap, H = s.heap := ⟨_, rfl⟩
  have hP : va_P (DG G) clP1 [(h0, .inr (12, [.int th, .ref n1, .int 0, .ref b1, .ref c1, .ref f1, .ref g1, .long 0, .int 0])), (g1, .inr (1, [.int 0, .ref (aE G), .int 0]))] H := by rw [hHe]; exact hP
  have hS : va_S A s.heap H [] := by rw [hHe]; exact hS
  have hl := lv_entry ([.ref h0, .int p0]) (n := 5) (Nat.le_of_ble_eq_true rfl)
  rw [lg_entry_eq, ← hHe]
  generalize (lg_sl ([.ref h0, .int p0]) ++ List.replicate (5 - (lg_sl ([.ref h0, .int p0])).length) Slot.unset).toArray = ls at hl ⊢
  have hl : lv_has ls 5 [(0, .ref h0), (1, .int p0)] := hl
  refine lv_aload_n hx hb dX17_auto_0 rfl (lv_at hl 0 rfl) ?_
  refine lv_aload_n hx hb dX17_auto_1 rfl (lv_at hl 0 rfl) ?_
  refine lv_iload_n hx hb dX17_auto_2 rfl (lv_at hl 1 rfl) ?_
  have hFc := va_free (wc := [(h0, .inr (12, [.int th, .ref n1, .int 0, .ref b1, .ref c1, .ref f1, .ref g1, .long 0, .int 0])), (g1, .inr (1, [.int 0, .ref (aE G), .int 0]))]) hD hS hA [0, 1] rfl
  refine va_calli (va_runV (As := [.int p0]) (rest := [.ref h0]) ⟨hx, hb, hml, hown, hts⟩ (k_X17_isGoal l hfl G h0 p0 th n1 b1 c1 f1 g1 H.size) (cwV 1 hts (gV wm1803 wm1805 ws_p44 wm11 wm1806) rfl rfl rfl (by decide +kernel) ⟨Nat.le_of_ble_eq_true rfl, Nat.le_of_ble_eq_true rfl⟩) (pre_v (pre_s hK hP hD hS hE [0, 1] rfl rfl (by decide) hFc) (va_recv hK hP (ci := 12) (q0 := 0) rfl rfl)) rfl rfl hl.1 rfl (lv_room (Nat.le_of_ble_eq_true rfl)) dX17_auto_3 ⟨Nat.le_of_ble_eq_true rfl, Nat.le_of_ble_eq_true rfl⟩) hS (fun q _ h => hFc q h) hFc (fun r u t H locs ht hvm hw hB hz1 hk1 hS => ?_)
  obtain rfl : r = 0 := hw
  obtain ⟨hP1, hD1⟩ := hB
  rw [ht] at hP1
  obtain ⟨hP, hD⟩ := va_join (wr := []) (w1 := [(h0, .inr (12, [.int th, .ref n1, .int 0, .ref b1, .ref c1, .ref f1, .ref g1, .long 0, .int 0]))]) hP hD [0, 1] [] rfl rfl (by decide) (by decide) hk1 hFc hP1 hD1
  have hP : va_P (DG G) clP1 [(h0, .inr (12, [.int th, .ref n1, .int 0, .ref b1, .ref c1, .ref f1, .ref g1, .long 0, .int 0]))] H := hP
  have hD : va_D A [(h0, .inr (12, [.int th, .ref n1, .int 0, .ref b1, .ref c1, .ref f1, .ref g1, .long 0, .int 0]))] := hD
  refine W.widen (k := 0) (n := 0) (Nat.le_of_ble_eq_true rfl) (Nat.le_of_ble_eq_true rfl) ?_
  refine lv_if_ne (tgt := 13) hx hb dX17_auto_6 (by decide) (fun c => absurd (by decide) c) (fun _ => ?_)
  refine lv_iconst (v := 1) hx hb dX17_auto_9 (by decide) ?_
  refine lv_goto (tgt := 37) hx hb dX17_auto_10 (by decide) ?_
  have hFc := va_free (wc := [(h0, .inr (12, [.int th, .ref n1, .int 0, .ref b1, .ref c1, .ref f1, .ref g1, .long 0, .int 0]))]) hD hS hA [0] rfl
  refine va_calli (va_runV (As := [.int 1]) (rest := []) ⟨hx, hb, hml, hown, hts⟩ (k_X17_fails_1 l hfl G h0 th n1 b1 c1 f1 g1 H.size) (cwV 1 hts (gV wm1392 wm1394 ws_p29 wm11 wm1395) rfl rfl rfl (by decide +kernel) ⟨Nat.le_of_ble_eq_true rfl, Nat.le_of_ble_eq_true rfl⟩) (pre_v (pre_s hK hP hD hS hE [0] rfl rfl (by decide) hFc) (va_recv hK hP (ci := 12) (q0 := 0) rfl rfl)) rfl rfl hl.1 rfl (lv_room (Nat.le_of_ble_eq_true rfl)) dX17_auto_37 ⟨Nat.le_of_ble_eq_true rfl, Nat.le_of_ble_eq_true rfl⟩) hS (fun q _ h => hFc q h) hFc (fun r u t H locs ht hvm hw hB hz1 hk1 hS => ?_)
  obtain rfl : r = 1 := hw
  obtain ⟨hP1, hD1⟩ := hB
  rw [ht] at hP1
  obtain ⟨hP, hD⟩ := va_join (wr := []) (w1 := [(h0, .inr (12, [.int 1, .ref n1, .int 0, .ref b1, .ref c1, .ref f1, .ref g1, .long 0, .int 0]))]) hP hD [0] [] rfl rfl (by decide) (by decide) hk1 hFc hP1 hD1
  have hP : va_P (DG G) clP1 [(h0, .inr (12, [.int 1, .ref n1, .int 0, .ref b1, .ref c1, .ref f1, .ref g1, .long 0, .int 0]))] H := hP
  have hD : va_D A [(h0, .inr (12, [.int 1, .ref n1, .int 0, .ref b1, .ref c1, .ref f1, .ref g1, .long 0, .int 0]))] := hD
  refine W.widen (k := 0) (n := 0) (Nat.le_of_ble_eq_true rfl) (Nat.le_of_ble_eq_true rfl) ?_
  refine lv_if_eq (tgt := 45) hx hb dX17_auto_40 (by decide) (fun c => absurd c (by decide)) (fun _ => ?_)
  refine lv_iconst (v := 0) hx hb dX17_auto_43 (by decide) ?_
  have hP9 := hP.sub (ws' := [(h0, .inr (12, [.int 1, .ref n1, .int 0, .ref b1, .ref c1, .ref f1, .ref g1, .long 0, .int 0]))]) [0] rfl
  have hD9 := hD.sub (ws' := [(h0, .inr (12, [.int 1, .ref n1, .int 0, .ref b1, .ref c1, .ref f1, .ref g1, .long 0, .int 0]))]) [0] (by decide) rfl
  refine W.widen (k := 0) (n := 0) (Nat.le_of_ble_eq_true rfl) (Nat.le_of_ble_eq_true rfl) ?_
  exact W.iret (v := 0) hx hb hr (fun t ht hW => ⟨⟨0, (), rfl, rfl, ⟨by rw [ht]; exact hP9, hD9⟩⟩, hS.F ht⟩) hS.2.2 dX17_auto_44 hlocks
set_option maxHeartbeats 4000000 in
set_option maxRecDepth 100000 in
theorem k_X17_reopen (l : Launch) (hfl : l.stackTraces = false) (G : GC) (h0 : Nat) (p0 : Int32) (th : Int32) (n1 : Nat) (b1 : Nat) (c1 : Nat) (f1 : Nat) (g1 : Nat) (sz : Nat) : Met l yX17_reopen (Cond.code yX17_reopen cX17_reopen 4 (some .int) :: W0) ({ frames := 2, cells := 0, slots := 0, locals := 43 }) (va_Pc [.ref h0, .int p0] (WD G [(h0, .inr (12, [.int th, .ref n1, .int 0, .ref b1, .ref c1, .ref f1, .ref g1, .long 0, .int 0])), (g1, .inr (1, [.int 0, .ref (aE G), .int 0]))] sz)) (va_Qi (fun (r : Int32) (_ : Unit) => r = 0) (fun _ t => PW G (va_A [(h0, .inr (12, [.int th, .ref n1, .int 0, .ref b1, .ref c1, .ref f1, .ref g1, .long 0, .int 0])), (g1, .inr (1, [.int 0, .ref (aE G), .int 0]))] sz) [(h0, .inr (12, [.int 1, .ref n1, .int 0, .ref b1, .ref c1, .ref f1, .ref g1, .long 0, .int 0]))] t) (va_A [(h0, .inr (12, [.int th, .ref n1, .int 0, .ref b1, .ref c1, .ref f1, .ref g1, .long 0, .int 0])), (g1, .inr (1, [.int 0, .ref (aE G), .int 0]))] sz)) 0 0 (va_A [(h0, .inr (12, [.int th, .ref n1, .int 0, .ref b1, .ref c1, .ref f1, .ref g1, .long 0, .int 0])), (g1, .inr (1, [.int 0, .ref (aE G), .int 0]))] sz) := by
  refine Met.ofW (cc := cX17_reopen) (maxL := 4) (ret := (some .int)) (by decide) rfl ?_
  intro p e s m args below meth c s₁ B hml hv
  obtain ⟨rfl, hsz, hP, hK, hD0, hE⟩ := hv
  have hx := B.exec
  have hb := B.bytes
  have hr := B.returns
  have hts := w0_tail B.pre
  have hown : s.vm.findClass RX17 = some m.cls := findClass_of_methodNamed B.named
  have hlocks := B.notSynchronized
  subst hsz
  have hD := hD0.self (sz := s.heap.size)
  generalize hAe : va_A [(h0, .inr (12, [.int th, .ref n1, .int 0, .ref b1, .ref c1, .ref f1, .ref g1, .long 0, .int 0])), (g1, .inr (1, [.int 0, .ref (aE G), .int 0]))] s.heap.size = A at hD hE ⊢
  have hA : ∀ q : Nat, s.heap.size ≤ q → A q := fun q h => by rw [← hAe]; exact Or.inr h
  have hS : va_S A s.heap s.heap [] := va_S.rf
  obtain ⟨H, hHe⟩ : ∃ H : Heap, H = s.heap := ⟨_, rfl⟩
  have hP : va_P (DG G) clP1 [(h0, .inr (12, [.int th, .ref n1, .int 0, .ref b1, .ref c1, .ref f1, .ref g1, .long 0, .int 0])), (g1, .inr (1, [.int 0, .ref (aE G), .int 0]))] H := by rw [hHe]; exact hP
  have hS : va_S A s.heap H [] := by rw [hHe]; exact hS
  have hl := lv_entry ([.ref h0, .int p0]) (n := 4) (Nat.le_of_ble_eq_true rfl)
  rw [lg_entry_eq, ← hHe]
  generalize (lg_sl ([.ref h0, .int p0]) ++ List.replicate (4 - (lg_sl ([.ref h0, .int p0])).length) Slot.unset).toArray = ls at hl ⊢
  have hl : lv_has ls 4 [(0, .ref h0), (1, .int p0)] := hl
  refine lv_aload_n hx hb dX17_reopen_0 rfl (lv_at hl 0 rfl) ?_
  refine lv_aload_n hx hb dX17_reopen_1 rfl (lv_at hl 0 rfl) ?_
  refine lv_iload_n hx hb dX17_reopen_2 rfl (lv_at hl 1 rfl) ?_
  have hFc := va_free (wc := [(h0, .inr (12, [.int th, .ref n1, .int 0, .ref b1, .ref c1, .ref f1, .ref g1, .long 0, .int 0])), (g1, .inr (1, [.int 0, .ref (aE G), .int 0]))]) hD hS hA [0, 1] rfl
  refine va_calli (va_runV (As := [.int p0]) (rest := [.ref h0]) ⟨hx, hb, hml, hown, hts⟩ (k_X17_isGoal l hfl G h0 p0 th n1 b1 c1 f1 g1 H.size) (cwV 1 hts (gV wm1803 wm1805 ws_p44 wm11 wm1806) rfl rfl rfl (by decide +kernel) ⟨Nat.le_of_ble_eq_true rfl, Nat.le_of_ble_eq_true rfl⟩) (pre_v (pre_s hK hP hD hS hE [0, 1] rfl rfl (by decide) hFc) (va_recv hK hP (ci := 12) (q0 := 0) rfl rfl)) rfl rfl hl.1 rfl (lv_room (Nat.le_of_ble_eq_true rfl)) dX17_reopen_3 ⟨Nat.le_of_ble_eq_true rfl, Nat.le_of_ble_eq_true rfl⟩) hS (fun q _ h => hFc q h) hFc (fun r u t H locs ht hvm hw hB hz1 hk1 hS => ?_)
  obtain rfl : r = 0 := hw
  obtain ⟨hP1, hD1⟩ := hB
  rw [ht] at hP1
  obtain ⟨hP, hD⟩ := va_join (wr := []) (w1 := [(h0, .inr (12, [.int th, .ref n1, .int 0, .ref b1, .ref c1, .ref f1, .ref g1, .long 0, .int 0]))]) hP hD [0, 1] [] rfl rfl (by decide) (by decide) hk1 hFc hP1 hD1
  have hP : va_P (DG G) clP1 [(h0, .inr (12, [.int th, .ref n1, .int 0, .ref b1, .ref c1, .ref f1, .ref g1, .long 0, .int 0]))] H := hP
  have hD : va_D A [(h0, .inr (12, [.int th, .ref n1, .int 0, .ref b1, .ref c1, .ref f1, .ref g1, .long 0, .int 0]))] := hD
  refine W.widen (k := 0) (n := 0) (Nat.le_of_ble_eq_true rfl) (Nat.le_of_ble_eq_true rfl) ?_
  refine lv_if_ne (tgt := 13) hx hb dX17_reopen_6 (by decide) (fun c => absurd (by decide) c) (fun _ => ?_)
  refine lv_iconst (v := 1) hx hb dX17_reopen_9 (by decide) ?_
  refine lv_goto (tgt := 67) hx hb dX17_reopen_10 (by decide) ?_
  have hFc := va_free (wc := [(h0, .inr (12, [.int th, .ref n1, .int 0, .ref b1, .ref c1, .ref f1, .ref g1, .long 0, .int 0]))]) hD hS hA [0] rfl
  refine va_calli (va_runV (As := [.int 1]) (rest := []) ⟨hx, hb, hml, hown, hts⟩ (k_X17_fails_1 l hfl G h0 th n1 b1 c1 f1 g1 H.size) (cwV 1 hts (gV wm1392 wm1394 ws_p29 wm11 wm1395) rfl rfl rfl (by decide +kernel) ⟨Nat.le_of_ble_eq_true rfl, Nat.le_of_ble_eq_true rfl⟩) (pre_v (pre_s hK hP hD hS hE [0] rfl rfl (by decide) hFc) (va_recv hK hP (ci := 12) (q0 := 0) rfl rfl)) rfl rfl hl.1 rfl (lv_room (Nat.le_of_ble_eq_true rfl)) dX17_reopen_67 ⟨Nat.le_of_ble_eq_true rfl, Nat.le_of_ble_eq_true rfl⟩) hS (fun q _ h => hFc q h) hFc (fun r u t H locs ht hvm hw hB hz1 hk1 hS => ?_)
  obtain rfl : r = 1 := hw
  obtain ⟨hP1, hD1⟩ := hB
  rw [ht] at hP1
  obtain ⟨hP, hD⟩ := va_join (wr := []) (w1 := [(h0, .inr (12, [.int 1, .ref n1, .int 0, .ref b1, .ref c1, .ref f1, .ref g1, .long 0, .int 0]))]) hP hD [0] [] rfl rfl (by decide) (by decide) hk1 hFc hP1 hD1
  have hP : va_P (DG G) clP1 [(h0, .inr (12, [.int 1, .ref n1, .int 0, .ref b1, .ref c1, .ref f1, .ref g1, .long 0, .int 0]))] H := hP
  have hD : va_D A [(h0, .inr (12, [.int 1, .ref n1, .int 0, .ref b1, .ref c1, .ref f1, .ref g1, .long 0, .int 0]))] := hD
  refine W.widen (k := 0) (n := 0) (Nat.le_of_ble_eq_true rfl) (Nat.le_of_ble_eq_true rfl) ?_
  refine lv_if_eq (tgt := 75) hx hb dX17_reopen_70 (by decide) (fun c => absurd c (by decide)) (fun _ => ?_)
  refine lv_iconst (v := 0) hx hb dX17_reopen_73 (by decide) ?_
  have hP9 := hP.sub (ws' := [(h0, .inr (12, [.int 1, .ref n1, .int 0, .ref b1, .ref c1, .ref f1, .ref g1, .long 0, .int 0]))]) [0] rfl
  have hD9 := hD.sub (ws' := [(h0, .inr (12, [.int 1, .ref n1, .int 0, .ref b1, .ref c1, .ref f1, .ref g1, .long 0, .int 0]))]) [0] (by decide) rfl
  refine W.widen (k := 0) (n := 0) (Nat.le_of_ble_eq_true rfl) (Nat.le_of_ble_eq_true rfl) ?_
  exact W.iret (v := 0) hx hb hr (fun t ht hW => ⟨⟨0, (), rfl, rfl, ⟨by rw [ht]; exact hP9, hD9⟩⟩, hS.F ht⟩) hS.2.2 dX17_reopen_74 hlocks
set_option maxHeartbeats 4000000 in
set_option maxRecDepth 100000 in
theorem k_X17_failsGoal (l : Launch) (hfl : l.stackTraces = false) (G : GC) (h0 : Nat) (p0 : Int32) (th : Int32) (n1 : Nat) (b1 : Nat) (c1 : Nat) (f1 : Nat) (g1 : Nat) (sz : Nat) : Met l yX17_failsGoal (Cond.code yX17_failsGoal cX17_failsGoal 2 (some .boolean) :: W0) ({ frames := 2, cells := 0, slots := 0, locals := 43 }) (va_Pc [.ref h0, .int p0] (WD G [(h0, .inr (12, [.int th, .ref n1, .int 0, .ref b1, .ref c1, .ref f1, .ref g1, .long 0, .int 0])), (g1, .inr (1, [.int 0, .ref (aE G), .int 0]))] sz)) (va_Qi (fun (r : Int32) (_ : Unit) => r = 1) (fun _ t => PW G (va_A [(h0, .inr (12, [.int th, .ref n1, .int 0, .ref b1, .ref c1, .ref f1, .ref g1, .long 0, .int 0])), (g1, .inr (1, [.int 0, .ref (aE G), .int 0]))] sz) [(h0, .inr (12, [.int 1, .ref n1, .int 0, .ref b1, .ref c1, .ref f1, .ref g1, .long 0, .int 0]))] t) (va_A [(h0, .inr (12, [.int th, .ref n1, .int 0, .ref b1, .ref c1, .ref f1, .ref g1, .long 0, .int 0])), (g1, .inr (1, [.int 0, .ref (aE G), .int 0]))] sz)) 0 0 (va_A [(h0, .inr (12, [.int th, .ref n1, .int 0, .ref b1, .ref c1, .ref f1, .ref g1, .long 0, .int 0])), (g1, .inr (1, [.int 0, .ref (aE G), .int 0]))] sz) := by
  refine Met.ofW (cc := cX17_failsGoal) (maxL := 2) (ret := (some .boolean)) (by decide) rfl ?_
  intro p e s m args below meth c s₁ B hml hv
  obtain ⟨rfl, hsz, hP, hK, hD0, hE⟩ := hv
  have hx := B.exec
  have hb := B.bytes
  have hr := B.returns
  have hts := w0_tail B.pre
  have hown : s.vm.findClass RX17 = some m.cls := findClass_of_methodNamed B.named
  have hlocks := B.notSynchronized
  subst hsz
  have hD := hD0.self (sz := s.heap.size)
  generalize hAe : va_A [(h0, .inr (12, [.int th, .ref n1, .int 0, .ref b1, .ref c1, .ref f1, .ref g1, .long 0, .int 0])), (g1, .inr (1, [.int 0, .ref (aE G), .int 0]))] s.heap.size = A at hD hE ⊢
  have hA : ∀ q : Nat, s.heap.size ≤ q → A q := fun q h => by rw [← hAe]; exact Or.inr h
  have hS : va_S A s.heap s.heap [] := va_S.rf
  obtain ⟨H, hHe⟩ : ∃ H : Heap, H = s.heap := ⟨_, rfl⟩
  have hP : va_P (DG G) clP1 [(h0, .inr (12, [.int th, .ref n1, .int 0, .ref b1, .ref c1, .ref f1, .ref g1, .long 0, .int 0])), (g1, .inr (1, [.int 0, .ref (aE G), .int 0]))] H := by rw [hHe]; exact hP
  have hS : va_S A s.heap H [] := by rw [hHe]; exact hS
  have hl := lv_entry ([.ref h0, .int p0]) (n := 2) (Nat.le_of_ble_eq_true rfl)
  rw [lg_entry_eq, ← hHe]
  generalize (lg_sl ([.ref h0, .int p0]) ++ List.replicate (2 - (lg_sl ([.ref h0, .int p0])).length) Slot.unset).toArray = ls at hl ⊢
  have hl : lv_has ls 2 [(0, .ref h0), (1, .int p0)] := hl
  refine lv_aload_n hx hb dX17_failsGoal_0 rfl (lv_at hl 0 rfl) ?_
  refine lv_aload_n hx hb dX17_failsGoal_1 rfl (lv_at hl 0 rfl) ?_
  refine lv_iload_n hx hb dX17_failsGoal_2 rfl (lv_at hl 1 rfl) ?_
  have hFc := va_free (wc := [(h0, .inr (12, [.int th, .ref n1, .int 0, .ref b1, .ref c1, .ref f1, .ref g1, .long 0, .int 0])), (g1, .inr (1, [.int 0, .ref (aE G), .int 0]))]) hD hS hA [0, 1] rfl
  refine va_calli (va_runV (As := [.int p0]) (rest := [.ref h0]) ⟨hx, hb, hml, hown, hts⟩ (k_X17_isGoal l hfl G h0 p0 th n1 b1 c1 f1 g1 H.size) (cwV 1 hts (gV wm1803 wm1805 ws_p44 wm11 wm1806) rfl rfl rfl (by decide +kernel) ⟨Nat.le_of_ble_eq_true rfl, Nat.le_of_ble_eq_true rfl⟩) (pre_v (pre_s hK hP hD hS hE [0, 1] rfl rfl (by decide) hFc) (va_recv hK hP (ci := 12) (q0 := 0) rfl rfl)) rfl rfl hl.1 rfl (lv_room (Nat.le_of_ble_eq_true rfl)) dX17_failsGoal_3 ⟨Nat.le_of_ble_eq_true rfl, Nat.le_of_ble_eq_true rfl⟩) hS (fun q _ h => hFc q h) hFc (fun r u t H locs ht hvm hw hB hz1 hk1 hS => ?_)
  obtain rfl : r = 0 := hw
  obtain ⟨hP1, hD1⟩ := hB
  rw [ht] at hP1
  obtain ⟨hP, hD⟩ := va_join (wr := []) (w1 := [(h0, .inr (12, [.int th, .ref n1, .int 0, .ref b1, .ref c1, .ref f1, .ref g1, .long 0, .int 0]))]) hP hD [0, 1] [] rfl rfl (by decide) (by decide) hk1 hFc hP1 hD1
  have hP : va_P (DG G) clP1 [(h0, .inr (12, [.int th, .ref n1, .int 0, .ref b1, .ref c1, .ref f1, .ref g1, .long 0, .int 0]))] H := hP
  have hD : va_D A [(h0, .inr (12, [.int th, .ref n1, .int 0, .ref b1, .ref c1, .ref f1, .ref g1, .long 0, .int 0]))] := hD
  refine W.widen (k := 0) (n := 0) (Nat.le_of_ble_eq_true rfl) (Nat.le_of_ble_eq_true rfl) ?_
  refine lv_if_eq (tgt := 13) hx hb dX17_failsGoal_6 (by decide) (fun _ => ?_) (fun c => absurd (by decide) c)
  refine lv_iconst (v := 1) hx hb dX17_failsGoal_13 (by decide) ?_
  have hFc := va_free (wc := [(h0, .inr (12, [.int th, .ref n1, .int 0, .ref b1, .ref c1, .ref f1, .ref g1, .long 0, .int 0]))]) hD hS hA [0] rfl
  refine va_calli (va_runV (As := [.int 1]) (rest := []) ⟨hx, hb, hml, hown, hts⟩ (k_X17_fails_1 l hfl G h0 th n1 b1 c1 f1 g1 H.size) (cwV 1 hts (gV wm1392 wm1394 ws_p29 wm11 wm1395) rfl rfl rfl (by decide +kernel) ⟨Nat.le_of_ble_eq_true rfl, Nat.le_of_ble_eq_true rfl⟩) (pre_v (pre_s hK hP hD hS hE [0] rfl rfl (by decide) hFc) (va_recv hK hP (ci := 12) (q0 := 0) rfl rfl)) rfl rfl hl.1 rfl (lv_room (Nat.le_of_ble_eq_true rfl)) dX17_failsGoal_14 ⟨Nat.le_of_ble_eq_true rfl, Nat.le_of_ble_eq_true rfl⟩) hS (fun q _ h => hFc q h) hFc (fun r u t H locs ht hvm hw hB hz1 hk1 hS => ?_)
  obtain rfl : r = 1 := hw
  obtain ⟨hP1, hD1⟩ := hB
  rw [ht] at hP1
  obtain ⟨hP, hD⟩ := va_join (wr := []) (w1 := [(h0, .inr (12, [.int 1, .ref n1, .int 0, .ref b1, .ref c1, .ref f1, .ref g1, .long 0, .int 0]))]) hP hD [0] [] rfl rfl (by decide) (by decide) hk1 hFc hP1 hD1
  have hP : va_P (DG G) clP1 [(h0, .inr (12, [.int 1, .ref n1, .int 0, .ref b1, .ref c1, .ref f1, .ref g1, .long 0, .int 0]))] H := hP
  have hD : va_D A [(h0, .inr (12, [.int 1, .ref n1, .int 0, .ref b1, .ref c1, .ref f1, .ref g1, .long 0, .int 0]))] := hD
  refine W.widen (k := 0) (n := 0) (Nat.le_of_ble_eq_true rfl) (Nat.le_of_ble_eq_true rfl) ?_
  have hP9 := hP.sub (ws' := [(h0, .inr (12, [.int 1, .ref n1, .int 0, .ref b1, .ref c1, .ref f1, .ref g1, .long 0, .int 0]))]) [0] rfl
  have hD9 := hD.sub (ws' := [(h0, .inr (12, [.int 1, .ref n1, .int 0, .ref b1, .ref c1, .ref f1, .ref g1, .long 0, .int 0]))]) [0] (by decide) rfl
  refine W.widen (k := 0) (n := 0) (Nat.le_of_ble_eq_true rfl) (Nat.le_of_ble_eq_true rfl) ?_
  exact W.zret (v := 1) (ty := .boolean) hx hb hr (by decide) (fun t ht hW => ⟨⟨1, (), rfl, rfl, ⟨by rw [ht]; exact hP9, hD9⟩⟩, hS.F ht⟩) hS.2.2 dX17_failsGoal_17 hlocks
set_option maxHeartbeats 4000000 in
set_option maxRecDepth 100000 in
theorem k_X17_goalState (l : Launch) (hfl : l.stackTraces = false) (G : GC) (h0 : Nat) (p0 : Int32) (th : Int32) (n1 : Nat) (b1 : Nat) (c1 : Nat) (f1 : Nat) (g1 : Nat) (sz : Nat) : Met l yX17_goalState (Cond.code yX17_goalState cX17_goalState 2 (some .char) :: W0) ({ frames := 3, cells := 0, slots := 0, locals := 64 }) (va_Pc [.ref h0, .int p0] (WD G [(h0, .inr (12, [.int th, .ref n1, .int 0, .ref b1, .ref c1, .ref f1, .ref g1, .long 0, .int 0])), (g1, .inr (1, [.int 0, .ref (aE G), .int 0]))] sz)) (va_Qi (fun (r : Int32) (_ : Unit) => r = 0) (fun _ t => PW G (va_A [(h0, .inr (12, [.int th, .ref n1, .int 0, .ref b1, .ref c1, .ref f1, .ref g1, .long 0, .int 0])), (g1, .inr (1, [.int 0, .ref (aE G), .int 0]))] sz) [(h0, .inr (12, [.int 1, .ref n1, .int 0, .ref b1, .ref c1, .ref f1, .ref g1, .long 0, .int 0]))] t) (va_A [(h0, .inr (12, [.int th, .ref n1, .int 0, .ref b1, .ref c1, .ref f1, .ref g1, .long 0, .int 0])), (g1, .inr (1, [.int 0, .ref (aE G), .int 0]))] sz)) 0 0 (va_A [(h0, .inr (12, [.int th, .ref n1, .int 0, .ref b1, .ref c1, .ref f1, .ref g1, .long 0, .int 0])), (g1, .inr (1, [.int 0, .ref (aE G), .int 0]))] sz) := by
  refine Met.ofW (cc := cX17_goalState) (maxL := 2) (ret := (some .char)) (by decide) rfl ?_
  intro p e s m args below meth c s₁ B hml hv
  obtain ⟨rfl, hsz, hP, hK, hD0, hE⟩ := hv
  have hx := B.exec
  have hb := B.bytes
  have hr := B.returns
  have hts := w0_tail B.pre
  have hown : s.vm.findClass RX17 = some m.cls := findClass_of_methodNamed B.named
  have hlocks := B.notSynchronized
  subst hsz
  have hD := hD0.self (sz := s.heap.size)
  generalize hAe : va_A [(h0, .inr (12, [.int th, .ref n1, .int 0, .ref b1, .ref c1, .ref f1, .ref g1, .long 0, .int 0])), (g1, .inr (1, [.int 0, .ref (aE G), .int 0]))] s.heap.size = A at hD hE ⊢
  have hA : ∀ q : Nat, s.heap.size ≤ q → A q := fun q h => by rw [← hAe]; exact Or.inr h
  have hS : va_S A s.heap s.heap [] := va_S.rf
  obtain ⟨H, hHe⟩ : ∃ H : Heap, H = s.heap := ⟨_, rfl⟩
  have hP : va_P (DG G) clP1 [(h0, .inr (12, [.int th, .ref n1, .int 0, .ref b1, .ref c1, .ref f1, .ref g1, .long 0, .int 0])), (g1, .inr (1, [.int 0, .ref (aE G), .int 0]))] H := by rw [hHe]; exact hP
  have hS : va_S A s.heap H [] := by rw [hHe]; exact hS
  have hl := lv_entry ([.ref h0, .int p0]) (n := 2) (Nat.le_of_ble_eq_true rfl)
  rw [lg_entry_eq, ← hHe]
  generalize (lg_sl ([.ref h0, .int p0]) ++ List.replicate (2 - (lg_sl ([.ref h0, .int p0])).length) Slot.unset).toArray = ls at hl ⊢
  have hl : lv_has ls 2 [(0, .ref h0), (1, .int p0)] := hl
  refine lv_aload_n hx hb dX17_goalState_0 rfl (lv_at hl 0 rfl) ?_
  refine lv_iload_n hx hb dX17_goalState_1 rfl (lv_at hl 1 rfl) ?_
  have hFc := va_free (wc := [(h0, .inr (12, [.int th, .ref n1, .int 0, .ref b1, .ref c1, .ref f1, .ref g1, .long 0, .int 0])), (g1, .inr (1, [.int 0, .ref (aE G), .int 0]))]) hD hS hA [0, 1] rfl
  refine va_calli (va_runV (As := [.int p0]) (rest := []) ⟨hx, hb, hml, hown, hts⟩ (k_X17_failsGoal l hfl G h0 p0 th n1 b1 c1 f1 g1 H.size) (cwV 1 hts (gV wm1867 wm1869 ws_p50 wm11 wm1870) rfl rfl rfl (by decide +kernel) ⟨Nat.le_of_ble_eq_true rfl, Nat.le_of_ble_eq_true rfl⟩) (pre_v (pre_s hK hP hD hS hE [0, 1] rfl rfl (by decide) hFc) (va_recv hK hP (ci := 12) (q0 := 0) rfl rfl)) rfl rfl hl.1 rfl (lv_room (Nat.le_of_ble_eq_true rfl)) dX17_goalState_2 ⟨Nat.le_of_ble_eq_true rfl, Nat.le_of_ble_eq_true rfl⟩) hS (fun q _ h => hFc q h) hFc (fun r u t H locs ht hvm hw hB hz1 hk1 hS => ?_)
  obtain rfl : r = 1 := hw
  obtain ⟨hP1, hD1⟩ := hB
  rw [ht] at hP1
  obtain ⟨hP, hD⟩ := va_join (wr := []) (w1 := [(h0, .inr (12, [.int 1, .ref n1, .int 0, .ref b1, .ref c1, .ref f1, .ref g1, .long 0, .int 0]))]) hP hD [0, 1] [] rfl rfl (by decide) (by decide) hk1 hFc hP1 hD1
  have hP : va_P (DG G) clP1 [(h0, .inr (12, [.int 1, .ref n1, .int 0, .ref b1, .ref c1, .ref f1, .ref g1, .long 0, .int 0]))] H := hP
  have hD : va_D A [(h0, .inr (12, [.int 1, .ref n1, .int 0, .ref b1, .ref c1, .ref f1, .ref g1, .long 0, .int 0]))] := hD
  refine W.widen (k := 0) (n := 0) (Nat.le_of_ble_eq_true rfl) (Nat.le_of_ble_eq_true rfl) ?_
  refine lv_if_eq (tgt := 12) hx hb dX17_goalState_5 (by decide) (fun c => absurd c (by decide)) (fun _ => ?_)
  refine lv_iconst (v := 0) hx hb dX17_goalState_8 (by decide) ?_
  refine lv_goto (tgt := 26) hx hb dX17_goalState_9 (by decide) ?_
  have hP9 := hP.sub (ws' := [(h0, .inr (12, [.int 1, .ref n1, .int 0, .ref b1, .ref c1, .ref f1, .ref g1, .long 0, .int 0]))]) [0] rfl
  have hD9 := hD.sub (ws' := [(h0, .inr (12, [.int 1, .ref n1, .int 0, .ref b1, .ref c1, .ref f1, .ref g1, .long 0, .int 0]))]) [0] (by decide) rfl
  refine W.widen (k := 0) (n := 0) (Nat.le_of_ble_eq_true rfl) (Nat.le_of_ble_eq_true rfl) ?_
  exact W.zret (v := 0) (ty := .char) hx hb hr (by decide) (fun t ht hW => ⟨⟨0, (), rfl, rfl, ⟨by rw [ht]; exact hP9, hD9⟩⟩, hS.F ht⟩) hS.2.2 dX17_goalState_26 hlocks
set_option maxHeartbeats 4000000 in
set_option maxRecDepth 100000 in
theorem k_X17_contextSize (l : Launch) (hfl : l.stackTraces = false) (G : GC) (h0 : Nat) (p0 : Int32) (th : Int32) (n1 : Nat) (b1 : Nat) (c1 : Nat) (f1 : Nat) (g1 : Nat) (sz : Nat) : Met l yX17_contextSize (Cond.code yX17_contextSize cX17_contextSize 2 (some .int) :: W0) ({ frames := 3, cells := 0, slots := 0, locals := 64 }) (va_Pc [.ref h0, .int p0] (WD G [(h0, .inr (12, [.int th, .ref n1, .int 0, .ref b1, .ref c1, .ref f1, .ref g1, .long 0, .int 0])), (g1, .inr (1, [.int 0, .ref (aE G), .int 0]))] sz)) (va_Qi (fun (r : Int32) (_ : Unit) => r = 0) (fun _ t => PW G (va_A [(h0, .inr (12, [.int th, .ref n1, .int 0, .ref b1, .ref c1, .ref f1, .ref g1, .long 0, .int 0])), (g1, .inr (1, [.int 0, .ref (aE G), .int 0]))] sz) [(h0, .inr (12, [.int 1, .ref n1, .int 0, .ref b1, .ref c1, .ref f1, .ref g1, .long 0, .int 0]))] t) (va_A [(h0, .inr (12, [.int th, .ref n1, .int 0, .ref b1, .ref c1, .ref f1, .ref g1, .long 0, .int 0])), (g1, .inr (1, [.int 0, .ref (aE G), .int 0]))] sz)) 0 0 (va_A [(h0, .inr (12, [.int th, .ref n1, .int 0, .ref b1, .ref c1, .ref f1, .ref g1, .long 0, .int 0])), (g1, .inr (1, [.int 0, .ref (aE G), .int 0]))] sz) := by
  refine Met.ofW (cc := cX17_contextSize) (maxL := 2) (ret := (some .int)) (by decide) rfl ?_
  intro p e s m args below meth c s₁ B hml hv
  obtain ⟨rfl, hsz, hP, hK, hD0, hE⟩ := hv
  have hx := B.exec
  have hb := B.bytes
  have hr := B.returns
  have hts := w0_tail B.pre
  have hown : s.vm.findClass RX17 = some m.cls := findClass_of_methodNamed B.named
  have hlocks := B.notSynchronized
  subst hsz
  have hD := hD0.self (sz := s.heap.size)
  generalize hAe : va_A [(h0, .inr (12, [.int th, .ref n1, .int 0, .ref b1, .ref c1, .ref f1, .ref g1, .long 0, .int 0])), (g1, .inr (1, [.int 0, .ref (aE G), .int 0]))] s.heap.size = A at hD hE ⊢
  have hA : ∀ q : Nat, s.heap.size ≤ q → A q := fun q h => by rw [← hAe]; exact Or.inr h
  have hS : va_S A s.heap s.heap [] := va_S.rf
  obtain ⟨H, hHe⟩ : ∃ H : Heap, H = s.heap := ⟨_, rfl⟩
  have hP : va_P (DG G) clP1 [(h0, .inr (12, [.int th, .ref n1, .int 0, .ref b1, .ref c1, .ref f1, .ref g1, .long 0, .int 0])), (g1, .inr (1, [.int 0, .ref (aE G), .int 0]))] H := by rw [hHe]; exact hP
  have hS : va_S A s.heap H [] := by rw [hHe]; exact hS
  have hl := lv_entry ([.ref h0, .int p0]) (n := 2) (Nat.le_of_ble_eq_true rfl)
  rw [lg_entry_eq, ← hHe]
  generalize (lg_sl ([.ref h0, .int p0]) ++ List.replicate (2 - (lg_sl ([.ref h0, .int p0])).length) Slot.unset).toArray = ls at hl ⊢
  have hl : lv_has ls 2 [(0, .ref h0), (1, .int p0)] := hl
  refine lv_aload_n hx hb dX17_contextSize_0 rfl (lv_at hl 0 rfl) ?_
  refine lv_iload_n hx hb dX17_contextSize_1 rfl (lv_at hl 1 rfl) ?_
  have hFc := va_free (wc := [(h0, .inr (12, [.int th, .ref n1, .int 0, .ref b1, .ref c1, .ref f1, .ref g1, .long 0, .int 0])), (g1, .inr (1, [.int 0, .ref (aE G), .int 0]))]) hD hS hA [0, 1] rfl
  refine va_calli (va_runV (As := [.int p0]) (rest := []) ⟨hx, hb, hml, hown, hts⟩ (k_X17_failsGoal l hfl G h0 p0 th n1 b1 c1 f1 g1 H.size) (cwV 1 hts (gV wm1867 wm1869 ws_p50 wm11 wm1870) rfl rfl rfl (by decide +kernel) ⟨Nat.le_of_ble_eq_true rfl, Nat.le_of_ble_eq_true rfl⟩) (pre_v (pre_s hK hP hD hS hE [0, 1] rfl rfl (by decide) hFc) (va_recv hK hP (ci := 12) (q0 := 0) rfl rfl)) rfl rfl hl.1 rfl (lv_room (Nat.le_of_ble_eq_true rfl)) dX17_contextSize_2 ⟨Nat.le_of_ble_eq_true rfl, Nat.le_of_ble_eq_true rfl⟩) hS (fun q _ h => hFc q h) hFc (fun r u t H locs ht hvm hw hB hz1 hk1 hS => ?_)
  obtain rfl : r = 1 := hw
  obtain ⟨hP1, hD1⟩ := hB
  rw [ht] at hP1
  obtain ⟨hP, hD⟩ := va_join (wr := []) (w1 := [(h0, .inr (12, [.int 1, .ref n1, .int 0, .ref b1, .ref c1, .ref f1, .ref g1, .long 0, .int 0]))]) hP hD [0, 1] [] rfl rfl (by decide) (by decide) hk1 hFc hP1 hD1
  have hP : va_P (DG G) clP1 [(h0, .inr (12, [.int 1, .ref n1, .int 0, .ref b1, .ref c1, .ref f1, .ref g1, .long 0, .int 0]))] H := hP
  have hD : va_D A [(h0, .inr (12, [.int 1, .ref n1, .int 0, .ref b1, .ref c1, .ref f1, .ref g1, .long 0, .int 0]))] := hD
  refine W.widen (k := 0) (n := 0) (Nat.le_of_ble_eq_true rfl) (Nat.le_of_ble_eq_true rfl) ?_
  refine lv_if_eq (tgt := 12) hx hb dX17_contextSize_5 (by decide) (fun c => absurd c (by decide)) (fun _ => ?_)
  refine lv_iconst (v := 0) hx hb dX17_contextSize_8 (by decide) ?_
  refine lv_goto (tgt := 27) hx hb dX17_contextSize_9 (by decide) ?_
  have hP9 := hP.sub (ws' := [(h0, .inr (12, [.int 1, .ref n1, .int 0, .ref b1, .ref c1, .ref f1, .ref g1, .long 0, .int 0]))]) [0] rfl
  have hD9 := hD.sub (ws' := [(h0, .inr (12, [.int 1, .ref n1, .int 0, .ref b1, .ref c1, .ref f1, .ref g1, .long 0, .int 0]))]) [0] (by decide) rfl
  refine W.widen (k := 0) (n := 0) (Nat.le_of_ble_eq_true rfl) (Nat.le_of_ble_eq_true rfl) ?_
  exact W.iret (v := 0) hx hb hr (fun t ht hW => ⟨⟨0, (), rfl, rfl, ⟨by rw [ht]; exact hP9, hD9⟩⟩, hS.F ht⟩) hS.2.2 dX17_contextSize_27 hlocks
set_option maxHeartbeats 4000000 in
set_option maxRecDepth 100000 in
theorem k_X17_goalType (l : Launch) (hfl : l.stackTraces = false) (G : GC) (h0 : Nat) (p0 : Int32) (th : Int32) (n1 : Nat) (b1 : Nat) (c1 : Nat) (f1 : Nat) (g1 : Nat) (sz : Nat) : Met l yX17_goalType (Cond.code yX17_goalType cX17_goalType 2 (some .int) :: W0) ({ frames := 3, cells := 0, slots := 0, locals := 64 }) (va_Pc [.ref h0, .int p0] (WD G [(h0, .inr (12, [.int th, .ref n1, .int 0, .ref b1, .ref c1, .ref f1, .ref g1, .long 0, .int 0])), (g1, .inr (1, [.int 0, .ref (aE G), .int 0]))] sz)) (va_Qi (fun (r : Int32) (_ : Unit) => r = 0) (fun _ t => PW G (va_A [(h0, .inr (12, [.int th, .ref n1, .int 0, .ref b1, .ref c1, .ref f1, .ref g1, .long 0, .int 0])), (g1, .inr (1, [.int 0, .ref (aE G), .int 0]))] sz) [(h0, .inr (12, [.int 1, .ref n1, .int 0, .ref b1, .ref c1, .ref f1, .ref g1, .long 0, .int 0]))] t) (va_A [(h0, .inr (12, [.int th, .ref n1, .int 0, .ref b1, .ref c1, .ref f1, .ref g1, .long 0, .int 0])), (g1, .inr (1, [.int 0, .ref (aE G), .int 0]))] sz)) 0 0 (va_A [(h0, .inr (12, [.int th, .ref n1, .int 0, .ref b1, .ref c1, .ref f1, .ref g1, .long 0, .int 0])), (g1, .inr (1, [.int 0, .ref (aE G), .int 0]))] sz) := by
  refine Met.ofW (cc := cX17_goalType) (maxL := 2) (ret := (some .int)) (by decide) rfl ?_
  intro p e s m args below meth c s₁ B hml hv
  obtain ⟨rfl, hsz, hP, hK, hD0, hE⟩ := hv
  have hx := B.exec
  have hb := B.bytes
  have hr := B.returns
  have hts := w0_tail B.pre
  have hown : s.vm.findClass RX17 = some m.cls := findClass_of_methodNamed B.named
  have hlocks := B.notSynchronized
  subst hsz
  have hD := hD0.self (sz := s.heap.size)
  generalize hAe : va_A [(h0, .inr (12, [.int th, .ref n1, .int 0, .ref b1, .ref c1, .ref f1, .ref g1, .long 0, .int 0])), (g1, .inr (1, [.int 0, .ref (aE G), .int 0]))] s.heap.size = A at hD hE ⊢
  have hA : ∀ q : Nat, s.heap.size ≤ q → A q := fun q h => by rw [← hAe]; exact Or.inr h
  have hS : va_S A s.heap s.heap [] := va_S.rf
  obtain ⟨H, hHe⟩ : ∃ H : Heap, H = s.heap := ⟨_, rfl⟩
  have hP : va_P (DG G) clP1 [(h0, .inr (12, [.int th, .ref n1, .int 0, .ref b1, .ref c1, .ref f1, .ref g1, .long 0, .int 0])), (g1, .inr (1, [.int 0, .ref (aE G), .int 0]))] H := by rw [hHe]; exact hP
  have hS : va_S A s.heap H [] := by rw [hHe]; exact hS
  have hl := lv_entry ([.ref h0, .int p0]) (n := 2) (Nat.le_of_ble_eq_true rfl)
  rw [lg_entry_eq, ← hHe]
  generalize (lg_sl ([.ref h0, .int p0]) ++ List.replicate (2 - (lg_sl ([.ref h0, .int p0])).length) Slot.unset).toArray = ls at hl ⊢
  have hl : lv_has ls 2 [(0, .ref h0), (1, .int p0)] := hl
  refine lv_aload_n hx hb dX17_goalType_0 rfl (lv_at hl 0 rfl) ?_
  refine lv_iload_n hx hb dX17_goalType_1 rfl (lv_at hl 1 rfl) ?_
  have hFc := va_free (wc := [(h0, .inr (12, [.int th, .ref n1, .int 0, .ref b1, .ref c1, .ref f1, .ref g1, .long 0, .int 0])), (g1, .inr (1, [.int 0, .ref (aE G), .int 0]))]) hD hS hA [0, 1] rfl
  refine va_calli (va_runV (As := [.int p0]) (rest := []) ⟨hx, hb, hml, hown, hts⟩ (k_X17_failsGoal l hfl G h0 p0 th n1 b1 c1 f1 g1 H.size) (cwV 1 hts (gV wm1867 wm1869 ws_p50 wm11 wm1870) rfl rfl rfl (by decide +kernel) ⟨Nat.le_of_ble_eq_true rfl, Nat.le_of_ble_eq_true rfl⟩) (pre_v (pre_s hK hP hD hS hE [0, 1] rfl rfl (by decide) hFc) (va_recv hK hP (ci := 12) (q0 := 0) rfl rfl)) rfl rfl hl.1 rfl (lv_room (Nat.le_of_ble_eq_true rfl)) dX17_goalType_2 ⟨Nat.le_of_ble_eq_true rfl, Nat.le_of_ble_eq_true rfl⟩) hS (fun q _ h => hFc q h) hFc (fun r u t H locs ht hvm hw hB hz1 hk1 hS => ?_)
  obtain rfl : r = 1 := hw
  obtain ⟨hP1, hD1⟩ := hB
  rw [ht] at hP1
  obtain ⟨hP, hD⟩ := va_join (wr := []) (w1 := [(h0, .inr (12, [.int 1, .ref n1, .int 0, .ref b1, .ref c1, .ref f1, .ref g1, .long 0, .int 0]))]) hP hD [0, 1] [] rfl rfl (by decide) (by decide) hk1 hFc hP1 hD1
  have hP : va_P (DG G) clP1 [(h0, .inr (12, [.int 1, .ref n1, .int 0, .ref b1, .ref c1, .ref f1, .ref g1, .long 0, .int 0]))] H := hP
  have hD : va_D A [(h0, .inr (12, [.int 1, .ref n1, .int 0, .ref b1, .ref c1, .ref f1, .ref g1, .long 0, .int 0]))] := hD
  refine W.widen (k := 0) (n := 0) (Nat.le_of_ble_eq_true rfl) (Nat.le_of_ble_eq_true rfl) ?_
  refine lv_if_eq (tgt := 12) hx hb dX17_goalType_5 (by decide) (fun c => absurd c (by decide)) (fun _ => ?_)
  refine lv_iconst (v := 0) hx hb dX17_goalType_8 (by decide) ?_
  refine lv_goto (tgt := 29) hx hb dX17_goalType_9 (by decide) ?_
  have hP9 := hP.sub (ws' := [(h0, .inr (12, [.int 1, .ref n1, .int 0, .ref b1, .ref c1, .ref f1, .ref g1, .long 0, .int 0]))]) [0] rfl
  have hD9 := hD.sub (ws' := [(h0, .inr (12, [.int 1, .ref n1, .int 0, .ref b1, .ref c1, .ref f1, .ref g1, .long 0, .int 0]))]) [0] (by decide) rfl
  refine W.widen (k := 0) (n := 0) (Nat.le_of_ble_eq_true rfl) (Nat.le_of_ble_eq_true rfl) ?_
  exact W.iret (v := 0) hx hb hr (fun t ht hW => ⟨⟨0, (), rfl, rfl, ⟨by rw [ht]; exact hP9, hD9⟩⟩, hS.F ht⟩) hS.2.2 dX17_goalType_29 hlocks
