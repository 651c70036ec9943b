set_option maxHeartbeats 4000000 in
set_option maxRecDepth 100000 in
theorem k_X17_contextType (l : Launch) (hfl : l.stackTraces = false) (G : GC) (h0 : Nat) (p0 : Int32) (p1 : Int32) (th : Int32) (n1 : Nat) (b1 : Nat) (c1 : Nat) (f1 : Nat) (g1 : Nat) (sz : Nat) : Met l yX17_contextType (Cond.code yX17_contextType cX17_contextType 3 (some .int) :: W0) ({ frames := 3, cells := 0, slots := 0, locals := 64 }) (va_Pc [.ref h0, .int p0, .int p1] (WD G [(h0, .inr (12, [.int th, .ref n1, .int 0, .ref b1, .ref c1, .ref f1, .ref g1, .long 0, .int 0])), (g1, .inr (1, [.int 0, .ref (aE G), .int 0]))] sz)) (va_Qi (fun (r : Int32) (_ : Unit) => r = 0) (fun _ t => PW G (va_A [(h0, .inr (12, [.int th, .ref n1, .int 0, .ref b1, .ref c1, .ref f1, .ref g1, .long 0, .int 0])), (g1, .inr (1, [.int 0, .ref (aE G), .int 0]))] sz) [(h0, .inr (12, [.int 1, .ref n1, .int 0, .ref b1, .ref c1, .ref f1, .ref g1, .long 0, .int 0]))] t) (va_A [(h0, .inr (12, [.int th, .ref n1, .int 0, .ref b1, .ref c1, .ref f1, .ref g1, .long 0, .int 0])), (g1, .inr (1, [.int 0, .ref (aE G), .int 0]))] sz)) 0 0 (va_A [(h0, .inr (12, [.int th, .ref n1, .int 0, .ref b1, .ref c1, .ref f1, .ref g1, .long 0, .int 0])), (g1, .inr (1, [.int 0, .ref (aE G), .int 0]))] sz) := by
  refine Met.ofW (cc := cX17_contextType) (maxL := 3) (ret := (some .int)) (by decide) rfl ?_
  intro p e s m args below meth c s₁ B hml hv
  obtain ⟨rfl, hsz, hP, hK, hD0, hE⟩ := hv
  have hx := B.exec
  have hb := B.bytes
  have hr := B.returns
  have hts := w0_tail B.pre
  have hown : s.vm.findClass RX17 = some m.cls := findClass_of_methodNamed B.named
  have hlocks := B.notSynchronized
  subst hsz
  have hD := hD0.self (sz := s.heap.size)
  generalize hAe : va_A [(h0, .inr (12, [.int th, .ref n1, .int 0, .ref b1, .ref c1, .ref f1, .ref g1, .long 0, .int 0])), (g1, .inr (1, [.int 0, .ref (aE G), .int 0]))] s.heap.size = A at hD hE ⊢
  have hA : ∀ q : Nat, s.heap.size ≤ q → A q := fun q h => by rw [← hAe]; exact Or.inr h
  have hS : va_S A s.heap s.heap [] := va_S.rf
  obtain ⟨H, hHe⟩ : ∃ H : Heap, H = s.heap := ⟨_, rfl⟩
  have hP : va_P (DG G) clP1 [(h0, .inr (12, [.int th, .ref n1, .int 0, .ref b1, .ref c1, .ref f1, .ref g1, .long 0, .int 0])), (g1, .inr (1, [.int 0, .ref (aE G), .int 0]))] H := by rw [hHe]; exact hP
  have hS : va_S A s.heap H [] := by rw [hHe]; exact hS
  have hl := lv_entry ([.ref h0, .int p0, .int p1]) (n := 3) (Nat.le_of_ble_eq_true rfl)
  rw [lg_entry_eq, ← hHe]
  generalize (lg_sl ([.ref h0, .int p0, .int p1]) ++ List.replicate (3 - (lg_sl ([.ref h0, .int p0, .int p1])).length) Slot.unset).toArray = ls at hl ⊢
  have hl : lv_has ls 3 [(0, .ref h0), (1, .int p0), (2, .int p1)] := hl
  refine lv_aload_n hx hb dX17_contextType_0 rfl (lv_at hl 0 rfl) ?_
  refine lv_iload_n hx hb dX17_contextType_1 rfl (lv_at hl 1 rfl) ?_
  have hFc := va_free (wc := [(h0, .inr (12, [.int th, .ref n1, .int 0, .ref b1, .ref c1, .ref f1, .ref g1, .long 0, .int 0])), (g1, .inr (1, [.int 0, .ref (aE G), .int 0]))]) hD hS hA [0, 1] rfl
  refine va_calli (va_runV (As := [.int p0]) (rest := []) ⟨hx, hb, hml, hown, hts⟩ (k_X17_failsGoal l hfl G h0 p0 th n1 b1 c1 f1 g1 H.size) (cwV 1 hts (gV wm1867 wm1869 ws_p50 wm11 wm1870) rfl rfl rfl (by decide +kernel) ⟨Nat.le_of_ble_eq_true rfl, Nat.le_of_ble_eq_true rfl⟩) (pre_v (pre_s hK hP hD hS hE [0, 1] rfl rfl (by decide) hFc) (va_recv hK hP (ci := 12) (q0 := 0) rfl rfl)) rfl rfl hl.1 rfl (lv_room (Nat.le_of_ble_eq_true rfl)) dX17_contextType_2 ⟨Nat.le_of_ble_eq_true rfl, Nat.le_of_ble_eq_true rfl⟩) hS (fun q _ h => hFc q h) hFc (fun r u t H locs ht hvm hw hB hz1 hk1 hS => ?_)
  obtain rfl : r = 1 := hw
  obtain ⟨hP1, hD1⟩ := hB
  rw [ht] at hP1
  obtain ⟨hP, hD⟩ := va_join (wr := []) (w1 := [(h0, .inr (12, [.int 1, .ref n1, .int 0, .ref b1, .ref c1, .ref f1, .ref g1, .long 0, .int 0]))]) hP hD [0, 1] [] rfl rfl (by decide) (by decide) hk1 hFc hP1 hD1
  have hP : va_P (DG G) clP1 [(h0, .inr (12, [.int 1, .ref n1, .int 0, .ref b1, .ref c1, .ref f1, .ref g1, .long 0, .int 0]))] H := hP
  have hD : va_D A [(h0, .inr (12, [.int 1, .ref n1, .int 0, .ref b1, .ref c1, .ref f1, .ref g1, .long 0, .int 0]))] := hD
  refine W.widen (k := 0) (n := 0) (Nat.le_of_ble_eq_true rfl) (Nat.le_of_ble_eq_true rfl) ?_
  refine lv_if_eq (tgt := 10) hx hb dX17_contextType_5 (by decide) (fun c => absurd c (by decide)) (fun _ => ?_)
  refine lv_iconst (v := 0) hx hb dX17_contextType_8 (by decide) ?_
  have hP9 := hP.sub (ws' := [(h0, .inr (12, [.int 1, .ref n1, .int 0, .ref b1, .ref c1, .ref f1, .ref g1, .long 0, .int 0]))]) [0] rfl
  have hD9 := hD.sub (ws' := [(h0, .inr (12, [.int 1, .ref n1, .int 0, .ref b1, .ref c1, .ref f1, .ref g1, .long 0, .int 0]))]) [0] (by decide) rfl
  refine W.widen (k := 0) (n := 0) (Nat.le_of_ble_eq_true rfl) (Nat.le_of_ble_eq_true rfl) ?_
  exact W.iret (v := 0) hx hb hr (fun t ht hW => ⟨⟨0, (), rfl, rfl, ⟨by rw [ht]; exact hP9, hD9⟩⟩, hS.F ht⟩) hS.2.2 dX17_contextType_9 hlocks
set_option maxHeartbeats 4000000 in
set_option maxRecDepth 100000 in
theorem k_X17_failsFunction (l : Launch) (hfl : l.stackTraces = false) (G : GC) (h0 : Nat) (p0 : Int32) (th : Int32) (n1 : Nat) (b1 : Nat) (c1 : Nat) (f1 : Nat) (g1 : Nat) (sz : Nat) : Met l yX17_failsFunction (Cond.code yX17_failsFunction cX17_failsFunction 2 (some .boolean) :: W0) ({ frames := 1, cells := 0, slots := 0, locals := 22 }) (va_Pc [.ref h0, .int p0] (WD G [(h0, .inr (12, [.int th, .ref n1, .int 0, .ref b1, .ref c1, .ref f1, .ref g1, .long 0, .int 0])), (f1, .inr (1, [.int 0, .ref (aE G), .int 0]))] sz)) (va_Qi (fun (r : Int32) (_ : Unit) => r = 1) (fun _ t => PW G (va_A [(h0, .inr (12, [.int th, .ref n1, .int 0, .ref b1, .ref c1, .ref f1, .ref g1, .long 0, .int 0])), (f1, .inr (1, [.int 0, .ref (aE G), .int 0]))] sz) [(h0, .inr (12, [.int 1, .ref n1, .int 0, .ref b1, .ref c1, .ref f1, .ref g1, .long 0, .int 0]))] t) (va_A [(h0, .inr (12, [.int th, .ref n1, .int 0, .ref b1, .ref c1, .ref f1, .ref g1, .long 0, .int 0])), (f1, .inr (1, [.int 0, .ref (aE G), .int 0]))] sz)) 0 0 (va_A [(h0, .inr (12, [.int th, .ref n1, .int 0, .ref b1, .ref c1, .ref f1, .ref g1, .long 0, .int 0])), (f1, .inr (1, [.int 0, .ref (aE G), .int 0]))] sz) := by
  refine Met.ofW (cc := cX17_failsFunction) (maxL := 2) (ret := (some .boolean)) (by decide) rfl ?_
  intro p e s m args below meth c s₁ B hml hv
  obtain ⟨rfl, hsz, hP, hK, hD0, hE⟩ := hv
  have hx := B.exec
  have hb := B.bytes
  have hr := B.returns
  have hts := w0_tail B.pre
  have hown : s.vm.findClass RX17 = some m.cls := findClass_of_methodNamed B.named
  have hlocks := B.notSynchronized
  subst hsz
  have hD := hD0.self (sz := s.heap.size)
  generalize hAe : va_A [(h0, .inr (12, [.int th, .ref n1, .int 0, .ref b1, .ref c1, .ref f1, .ref g1, .long 0, .int 0])), (f1, .inr (1, [.int 0, .ref (aE G), .int 0]))] s.heap.size = A at hD hE ⊢
  have hA : ∀ q : Nat, s.heap.size ≤ q → A q := fun q h => by rw [← hAe]; exact Or.inr h
  have hS : va_S A s.heap s.heap [] := va_S.rf
  obtain ⟨H, hHe⟩ : ∃ H : Heap, H = s.heap := ⟨_, rfl⟩
  have hP : va_P (DG G) clP1 [(h0, .inr (12, [.int th, .ref n1, .int 0, .ref b1, .ref c1, .ref f1, .ref g1, .long 0, .int 0])), (f1, .inr (1, [.int 0, .ref (aE G), .int 0]))] H := by rw [hHe]; exact hP
  have hS : va_S A s.heap H [] := by rw [hHe]; exact hS
  have hl := lv_entry ([.ref h0, .int p0]) (n := 2) (Nat.le_of_ble_eq_true rfl)
  rw [lg_entry_eq, ← hHe]
  generalize (lg_sl ([.ref h0, .int p0]) ++ List.replicate (2 - (lg_sl ([.ref h0, .int p0])).length) Slot.unset).toArray = ls at hl ⊢
  have hl : lv_has ls 2 [(0, .ref h0), (1, .int p0)] := hl
  refine lv_aload_n hx hb dX17_failsFunction_0 rfl (lv_at hl 0 rfl) ?_
  refine lv_iload_n hx hb dX17_failsFunction_1 rfl (lv_at hl 1 rfl) ?_
  refine lv_iconst (v := 0) hx hb dX17_failsFunction_2 (by decide) ?_
  refine lv_aload_n hx hb dX17_failsFunction_3 rfl (lv_at hl 0 rfl) ?_
  refine va_get (D := DG G) (ci := 12) (v := .ref f1) (C := RX17) (T := TX17) (N := 9) hx hb hts inW_X17 hown hK hP 0 rfl rfl 5 (by decide) (hts _ wm1350) (fun _ h9 => h9) rfl dX17_failsFunction_4 ?_
  have hFc := va_free (wc := [(f1, .inr (1, [.int 0, .ref (aE G), .int 0]))]) hD hS hA [1] rfl
  refine va_calli (va_runV (As := []) (rest := [.int 0, .int p0, .ref h0]) ⟨hx, hb, hml, hown, hts⟩ (k_J_alSize l hfl G f1 0 ((aE G)) 0 H.size) (cwV 0 hts (gV wm1388 wm1389 wm1390 wm14 wm1391) rfl rfl rfl (by decide +kernel) ⟨Nat.le_of_ble_eq_true rfl, Nat.le_of_ble_eq_true rfl⟩) (pre_v (pre_s hK hP hD hS hE [1] rfl rfl (by decide) hFc) (va_recv hK hP (ci := 1) (q0 := 1) rfl rfl)) rfl rfl hl.1 rfl (lv_room (Nat.le_of_ble_eq_true rfl)) dX17_failsFunction_7 ⟨Nat.le_of_ble_eq_true rfl, Nat.le_of_ble_eq_true rfl⟩) hS (fun q _ h => hFc q h) hFc (fun r u t H locs ht hvm hw hB hz1 hk1 hS => ?_)
  obtain rfl : r = 0 := hw
  obtain ⟨hP1, hD1⟩ := hB
  rw [ht] at hP1
  obtain ⟨hP, hD⟩ := va_join (wr := [(h0, .inr (12, [.int th, .ref n1, .int 0, .ref b1, .ref c1, .ref f1, .ref g1, .long 0, .int 0]))]) (w1 := [(f1, .inr (1, [.int 0, .ref (aE G), .int 0]))]) hP hD [1] [0] rfl rfl (by decide) (by decide) hk1 hFc hP1 hD1
  have hP : va_P (DG G) clP1 [(h0, .inr (12, [.int th, .ref n1, .int 0, .ref b1, .ref c1, .ref f1, .ref g1, .long 0, .int 0])), (f1, .inr (1, [.int 0, .ref (aE G), .int 0]))] H := hP
  have hD : va_D A [(h0, .inr (12, [.int th, .ref n1, .int 0, .ref b1, .ref c1, .ref f1, .ref g1, .long 0, .int 0])), (f1, .inr (1, [.int 0, .ref (aE G), .int 0]))] := hD
  refine W.widen (k := 0) (n := 0) (Nat.le_of_ble_eq_true rfl) (Nat.le_of_ble_eq_true rfl) ?_
  refine lv_iconst (v := 1) hx hb dX17_failsFunction_10 (by decide) ?_
  refine lv_isub hx hb dX17_failsFunction_11 ?_
  refine lv_topi (fun z_1 ez_1 => ?_)
  obtain rfl : z_1 = (-1) := ez_1.trans (by decide)
  have hFc := va_free (wc := []) hD hS hA [] rfl
  refine va_calli (va_runS (As := [.int p0, .int 0, .int (-1)]) (rest := [.ref h0]) ⟨hx, hb, hml, hown, hts⟩ (k_X17_in_0 l hfl G p0 H.size) (cwS 3 hts (gS wm1381 wm1382 wm11 wm1383) rfl rfl rfl (by decide +kernel) ⟨Nat.le_of_ble_eq_true rfl, Nat.le_of_ble_eq_true rfl⟩) (pre_s hK hP hD hS hE [] rfl rfl (by decide) hFc) rfl rfl hl.1 rfl (lv_room (Nat.le_of_ble_eq_true rfl)) dX17_failsFunction_12 ⟨Nat.le_of_ble_eq_true rfl, Nat.le_of_ble_eq_true rfl⟩) hS (fun q _ h => hFc q h) hFc (fun r u t H locs ht hvm hw hB hz1 hk1 hS => ?_)
  obtain rfl : r = 0 := hw
  obtain ⟨hP1, hD1⟩ := hB
  rw [ht] at hP1
  obtain ⟨hP, hD⟩ := va_join (wr := [(h0, .inr (12, [.int th, .ref n1, .int 0, .ref b1, .ref c1, .ref f1, .ref g1, .long 0, .int 0])), (f1, .inr (1, [.int 0, .ref (aE G), .int 0]))]) (w1 := []) hP hD [] [0, 1] rfl rfl (by decide) (by decide) hk1 hFc hP1 hD1
  have hP : va_P (DG G) clP1 [(h0, .inr (12, [.int th, .ref n1, .int 0, .ref b1, .ref c1, .ref f1, .ref g1, .long 0, .int 0])), (f1, .inr (1, [.int 0, .ref (aE G), .int 0]))] H := hP
  have hD : va_D A [(h0, .inr (12, [.int th, .ref n1, .int 0, .ref b1, .ref c1, .ref f1, .ref g1, .long 0, .int 0])), (f1, .inr (1, [.int 0, .ref (aE G), .int 0]))] := hD
  refine W.widen (k := 0) (n := 0) (Nat.le_of_ble_eq_true rfl) (Nat.le_of_ble_eq_true rfl) ?_
  refine lv_if_eq (tgt := 22) hx hb dX17_failsFunction_15 (by decide) (fun _ => ?_) (fun c => absurd (by decide) c)
  refine lv_iconst (v := 1) hx hb dX17_failsFunction_22 (by decide) ?_
  have hFc := va_free (wc := [(h0, .inr (12, [.int th, .ref n1, .int 0, .ref b1, .ref c1, .ref f1, .ref g1, .long 0, .int 0]))]) hD hS hA [0] rfl
  refine va_calli (va_runV (As := [.int 1]) (rest := []) ⟨hx, hb, hml, hown, hts⟩ (k_X17_fails_1 l hfl G h0 th n1 b1 c1 f1 g1 H.size) (cwV 1 hts (gV wm1392 wm1394 ws_p29 wm11 wm1395) rfl rfl rfl (by decide +kernel) ⟨Nat.le_of_ble_eq_true rfl, Nat.le_of_ble_eq_true rfl⟩) (pre_v (pre_s hK hP hD hS hE [0] rfl rfl (by decide) hFc) (va_recv hK hP (ci := 12) (q0 := 0) rfl rfl)) rfl rfl hl.1 rfl (lv_room (Nat.le_of_ble_eq_true rfl)) dX17_failsFunction_23 ⟨Nat.le_of_ble_eq_true rfl, Nat.le_of_ble_eq_true rfl⟩) hS (fun q _ h => hFc q h) hFc (fun r u t H locs ht hvm hw hB hz1 hk1 hS => ?_)
  obtain rfl : r = 1 := hw
  obtain ⟨hP1, hD1⟩ := hB
  rw [ht] at hP1
  obtain ⟨hP, hD⟩ := va_join (wr := [(f1, .inr (1, [.int 0, .ref (aE G), .int 0]))]) (w1 := [(h0, .inr (12, [.int 1, .ref n1, .int 0, .ref b1, .ref c1, .ref f1, .ref g1, .long 0, .int 0]))]) hP hD [0] [1] rfl rfl (by decide) (by decide) hk1 hFc hP1 hD1
  have hP : va_P (DG G) clP1 [(f1, .inr (1, [.int 0, .ref (aE G), .int 0])), (h0, .inr (12, [.int 1, .ref n1, .int 0, .ref b1, .ref c1, .ref f1, .ref g1, .long 0, .int 0]))] H := hP
  have hD : va_D A [(f1, .inr (1, [.int 0, .ref (aE G), .int 0])), (h0, .inr (12, [.int 1, .ref n1, .int 0, .ref b1, .ref c1, .ref f1, .ref g1, .long 0, .int 0]))] := hD
  refine W.widen (k := 0) (n := 0) (Nat.le_of_ble_eq_true rfl) (Nat.le_of_ble_eq_true rfl) ?_
  have hP9 := hP.sub (ws' := [(h0, .inr (12, [.int 1, .ref n1, .int 0, .ref b1, .ref c1, .ref f1, .ref g1, .long 0, .int 0]))]) [1] rfl
  have hD9 := hD.sub (ws' := [(h0, .inr (12, [.int 1, .ref n1, .int 0, .ref b1, .ref c1, .ref f1, .ref g1, .long 0, .int 0]))]) [1] (by decide) rfl
  refine W.widen (k := 0) (n := 0) (Nat.le_of_ble_eq_true rfl) (Nat.le_of_ble_eq_true rfl) ?_
  exact W.zret (v := 1) (ty := .boolean) hx hb hr (by decide) (fun t ht hW => ⟨⟨1, (), rfl, rfl, ⟨by rw [ht]; exact hP9, hD9⟩⟩, hS.F ht⟩) hS.2.2 dX17_failsFunction_26 hlocks
set_option maxHeartbeats 4000000 in
set_option maxRecDepth 100000 in
theorem k_X17_openGoals (l : Launch) (hfl : l.stackTraces = false) (G : GC) (h0 : Nat) (p0 : Int32) (th : Int32) (n1 : Nat) (b1 : Nat) (c1 : Nat) (f1 : Nat) (g1 : Nat) (sz : Nat) : Met l yX17_openGoals (Cond.code yX17_openGoals cX17_openGoals 2 (some .int) :: W0) ({ frames := 2, cells := 0, slots := 0, locals := 43 }) (va_Pc [.ref h0, .int p0] (WD G [(h0, .inr (12, [.int th, .ref n1, .int 0, .ref b1, .ref c1, .ref f1, .ref g1, .long 0, .int 0])), (f1, .inr (1, [.int 0, .ref (aE G), .int 0]))] sz)) (va_Qi (fun (r : Int32) (_ : Unit) => r = 0) (fun _ t => PW G (va_A [(h0, .inr (12, [.int th, .ref n1, .int 0, .ref b1, .ref c1, .ref f1, .ref g1, .long 0, .int 0])), (f1, .inr (1, [.int 0, .ref (aE G), .int 0]))] sz) [(h0, .inr (12, [.int 1, .ref n1, .int 0, .ref b1, .ref c1, .ref f1, .ref g1, .long 0, .int 0]))] t) (va_A [(h0, .inr (12, [.int th, .ref n1, .int 0, .ref b1, .ref c1, .ref f1, .ref g1, .long 0, .int 0])), (f1, .inr (1, [.int 0, .ref (aE G), .int 0]))] sz)) 0 0 (va_A [(h0, .inr (12, [.int th, .ref n1, .int 0, .ref b1, .ref c1, .ref f1, .ref g1, .long 0, .int 0])), (f1, .inr (1, [.int 0, .ref (aE G), .int 0]))] sz) := by
  refine Met.ofW (cc := cX17_openGoals) (maxL := 2) (ret := (some .int)) (by decide) rfl ?_
  intro p e s m args below meth c s₁ B hml hv
  obtain ⟨rfl, hsz, hP, hK, hD0, hE⟩ := hv
  have hx := B.exec
  have hb := B.bytes
  have hr := B.returns
  have hts := w0_tail B.pre
  have hown : s.vm.findClass RX17 = some m.cls := findClass_of_methodNamed B.named
  have hlocks := B.notSynchronized
  subst hsz
  have hD := hD0.self (sz := s.heap.size)
  generalize hAe : va_A [(h0, .inr (12, [.int th, .ref n1, .int 0, .ref b1, .ref c1, .ref f1, .ref g1, .long 0, .int 0])), (f1, .inr (1, [.int 0, .ref (aE G), .int 0]))] s.heap.size = A at hD hE ⊢
  have hA : ∀ q : Nat, s.heap.size ≤ q → A q := fun q h => by rw [← hAe]; exact Or.inr h
  have hS : va_S A s.heap s.heap [] := va_S.rf
  obtain ⟨H, hHe⟩ : ∃ H : Heap, H = s.heap := ⟨_, rfl⟩
  have hP : va_P (DG G) clP1 [(h0, .inr (12, [.int th, .ref n1, .int 0, .ref b1, .ref c1, .ref f1, .ref g1, .long 0, .int 0])), (f1, .inr (1, [.int 0, .ref (aE G), .int 0]))] H := by rw [hHe]; exact hP
  have hS : va_S A s.heap H [] := by rw [hHe]; exact hS
  have hl := lv_entry ([.ref h0, .int p0]) (n := 2) (Nat.le_of_ble_eq_true rfl)
  rw [lg_entry_eq, ← hHe]
  generalize (lg_sl ([.ref h0, .int p0]) ++ List.replicate (2 - (lg_sl ([.ref h0, .int p0])).length) Slot.unset).toArray = ls at hl ⊢
  have hl : lv_has ls 2 [(0, .ref h0), (1, .int p0)] := hl
  refine lv_aload_n hx hb dX17_openGoals_0 rfl (lv_at hl 0 rfl) ?_
  refine lv_iload_n hx hb dX17_openGoals_1 rfl (lv_at hl 1 rfl) ?_
  have hFc := va_free (wc := [(h0, .inr (12, [.int th, .ref n1, .int 0, .ref b1, .ref c1, .ref f1, .ref g1, .long 0, .int 0])), (f1, .inr (1, [.int 0, .ref (aE G), .int 0]))]) hD hS hA [0, 1] rfl
  refine va_calli (va_runV (As := [.int p0]) (rest := []) ⟨hx, hb, hml, hown, hts⟩ (k_X17_failsFunction l hfl G h0 p0 th n1 b1 c1 f1 g1 H.size) (cwV 1 hts (gV wm1887 wm1889 ws_p51 wm11 wm1890) rfl rfl rfl (by decide +kernel) ⟨Nat.le_of_ble_eq_true rfl, Nat.le_of_ble_eq_true rfl⟩) (pre_v (pre_s hK hP hD hS hE [0, 1] rfl rfl (by decide) hFc) (va_recv hK hP (ci := 12) (q0 := 0) rfl rfl)) rfl rfl hl.1 rfl (lv_room (Nat.le_of_ble_eq_true rfl)) dX17_openGoals_2 ⟨Nat.le_of_ble_eq_true rfl, Nat.le_of_ble_eq_true rfl⟩) hS (fun q _ h => hFc q h) hFc (fun r u t H locs ht hvm hw hB hz1 hk1 hS => ?_)
  obtain rfl : r = 1 := hw
  obtain ⟨hP1, hD1⟩ := hB
  rw [ht] at hP1
  obtain ⟨hP, hD⟩ := va_join (wr := []) (w1 := [(h0, .inr (12, [.int 1, .ref n1, .int 0, .ref b1, .ref c1, .ref f1, .ref g1, .long 0, .int 0]))]) hP hD [0, 1] [] rfl rfl (by decide) (by decide) hk1 hFc hP1 hD1
  have hP : va_P (DG G) clP1 [(h0, .inr (12, [.int 1, .ref n1, .int 0, .ref b1, .ref c1, .ref f1, .ref g1, .long 0, .int 0]))] H := hP
  have hD : va_D A [(h0, .inr (12, [.int 1, .ref n1, .int 0, .ref b1, .ref c1, .ref f1, .ref g1, .long 0, .int 0]))] := hD
  refine W.widen (k := 0) (n := 0) (Nat.le_of_ble_eq_true rfl) (Nat.le_of_ble_eq_true rfl) ?_
  refine lv_if_eq (tgt := 12) hx hb dX17_openGoals_5 (by decide) (fun c => absurd c (by decide)) (fun _ => ?_)
  refine lv_iconst (v := 0) hx hb dX17_openGoals_8 (by decide) ?_
  refine lv_goto (tgt := 17) hx hb dX17_openGoals_9 (by decide) ?_
  have hP9 := hP.sub (ws' := [(h0, .inr (12, [.int 1, .ref n1, .int 0, .ref b1, .ref c1, .ref f1, .ref g1, .long 0, .int 0]))]) [0] rfl
  have hD9 := hD.sub (ws' := [(h0, .inr (12, [.int 1, .ref n1, .int 0, .ref b1, .ref c1, .ref f1, .ref g1, .long 0, .int 0]))]) [0] (by decide) rfl
  refine W.widen (k := 0) (n := 0) (Nat.le_of_ble_eq_true rfl) (Nat.le_of_ble_eq_true rfl) ?_
  exact W.iret (v := 0) hx hb hr (fun t ht hW => ⟨⟨0, (), rfl, rfl, ⟨by rw [ht]; exact hP9, hD9⟩⟩, hS.F ht⟩) hS.2.2 dX17_openGoals_17 hlocks
set_option maxHeartbeats 4000000 in
set_option maxRecDepth 100000 in
theorem k_X17_accept (l : Launch) (hfl : l.stackTraces = false) (G : GC) (h0 : Nat) (p0 : Int32) (th : Int32) (n1 : Nat) (b1 : Nat) (c1 : Nat) (f1 : Nat) (g1 : Nat) (sz : Nat) : Met l yX17_accept (Cond.code yX17_accept cX17_accept 3 (some .int) :: W0) ({ frames := 2, cells := 0, slots := 0, locals := 43 }) (va_Pc [.ref h0, .int p0] (WD G [(h0, .inr (12, [.int th, .ref n1, .int 0, .ref b1, .ref c1, .ref f1, .ref g1, .long 0, .int 0])), (f1, .inr (1, [.int 0, .ref (aE G), .int 0]))] sz)) (va_Qi (fun (r : Int32) (_ : Unit) => r = 0) (fun _ t => PW G (va_A [(h0, .inr (12, [.int th, .ref n1, .int 0, .ref b1, .ref c1, .ref f1, .ref g1, .long 0, .int 0])), (f1, .inr (1, [.int 0, .ref (aE G), .int 0]))] sz) [(h0, .inr (12, [.int 1, .ref n1, .int 0, .ref b1, .ref c1, .ref f1, .ref g1, .long 0, .int 0]))] t) (va_A [(h0, .inr (12, [.int th, .ref n1, .int 0, .ref b1, .ref c1, .ref f1, .ref g1, .long 0, .int 0])), (f1, .inr (1, [.int 0, .ref (aE G), .int 0]))] sz)) 0 0 (va_A [(h0, .inr (12, [.int th, .ref n1, .int 0, .ref b1, .ref c1, .ref f1, .ref g1, .long 0, .int 0])), (f1, .inr (1, [.int 0, .ref (aE G), .int 0]))] sz) := by
  refine Met.ofW (cc := cX17_accept) (maxL := 3) (ret := (some .int)) (by decide) rfl ?_
  intro p e s m args below meth c s₁ B hml hv
  obtain ⟨rfl, hsz, hP, hK, hD0, hE⟩ := hv
  have hx := B.exec
  have hb := B.bytes
  have hr := B.returns
  have hts := w0_tail B.pre
  have hown : s.vm.findClass RX17 = some m.cls := findClass_of_methodNamed B.named
  have hlocks := B.notSynchronized
  subst hsz
  have hD := hD0.self (sz := s.heap.size)
  generalize hAe : va_A [(h0, .inr (12, [.int th, .ref n1, .int 0, .ref b1, .ref c1, .ref f1, .ref g1, .long 0, .int 0])), (f1, .inr (1, [.int 0, .ref (aE G), .int 0]))] s.heap.size = A at hD hE ⊢
  have hA : ∀ q : Nat, s.heap.size ≤ q → A q := fun q h => by rw [← hAe]; exact Or.inr h
  have hS : va_S A s.heap s.heap [] := va_S.rf
  obtain ⟨H, hHe⟩ : ∃ H : Heap, H = s.heap := ⟨_, rfl⟩
  have hP : va_P (DG G) clP1 [(h0, .inr (12, [.int th, .ref n1, .int 0, .ref b1, .ref c1, .ref f1, .ref g1, .long 0, .int 0])), (f1, .inr (1, [.int 0, .ref (aE G), .int 0]))] H := by rw [hHe]; exact hP
  have hS : va_S A s.heap H [] := by rw [hHe]; exact hS
  have hl := lv_entry ([.ref h0, .int p0]) (n := 3) (Nat.le_of_ble_eq_true rfl)
  rw [lg_entry_eq, ← hHe]
  generalize (lg_sl ([.ref h0, .int p0]) ++ List.replicate (3 - (lg_sl ([.ref h0, .int p0])).length) Slot.unset).toArray = ls at hl ⊢
  have hl : lv_has ls 3 [(0, .ref h0), (1, .int p0)] := hl
  refine lv_aload_n hx hb dX17_accept_0 rfl (lv_at hl 0 rfl) ?_
  refine lv_iload_n hx hb dX17_accept_1 rfl (lv_at hl 1 rfl) ?_
  have hFc := va_free (wc := [(h0, .inr (12, [.int th, .ref n1, .int 0, .ref b1, .ref c1, .ref f1, .ref g1, .long 0, .int 0])), (f1, .inr (1, [.int 0, .ref (aE G), .int 0]))]) hD hS hA [0, 1] rfl
  refine va_calli (va_runV (As := [.int p0]) (rest := []) ⟨hx, hb, hml, hown, hts⟩ (k_X17_failsFunction l hfl G h0 p0 th n1 b1 c1 f1 g1 H.size) (cwV 1 hts (gV wm1887 wm1889 ws_p51 wm11 wm1890) rfl rfl rfl (by decide +kernel) ⟨Nat.le_of_ble_eq_true rfl, Nat.le_of_ble_eq_true rfl⟩) (pre_v (pre_s hK hP hD hS hE [0, 1] rfl rfl (by decide) hFc) (va_recv hK hP (ci := 12) (q0 := 0) rfl rfl)) rfl rfl hl.1 rfl (lv_room (Nat.le_of_ble_eq_true rfl)) dX17_accept_2 ⟨Nat.le_of_ble_eq_true rfl, Nat.le_of_ble_eq_true rfl⟩) hS (fun q _ h => hFc q h) hFc (fun r u t H locs ht hvm hw hB hz1 hk1 hS => ?_)
  obtain rfl : r = 1 := hw
  obtain ⟨hP1, hD1⟩ := hB
  rw [ht] at hP1
  obtain ⟨hP, hD⟩ := va_join (wr := []) (w1 := [(h0, .inr (12, [.int 1, .ref n1, .int 0, .ref b1, .ref c1, .ref f1, .ref g1, .long 0, .int 0]))]) hP hD [0, 1] [] rfl rfl (by decide) (by decide) hk1 hFc hP1 hD1
  have hP : va_P (DG G) clP1 [(h0, .inr (12, [.int 1, .ref n1, .int 0, .ref b1, .ref c1, .ref f1, .ref g1, .long 0, .int 0]))] H := hP
  have hD : va_D A [(h0, .inr (12, [.int 1, .ref n1, .int 0, .ref b1, .ref c1, .ref f1, .ref g1, .long 0, .int 0]))] := hD
  refine W.widen (k := 0) (n := 0) (Nat.le_of_ble_eq_true rfl) (Nat.le_of_ble_eq_true rfl) ?_
  refine lv_if_eq (tgt := 10) hx hb dX17_accept_5 (by decide) (fun c => absurd c (by decide)) (fun _ => ?_)
  refine lv_iconst (v := 0) hx hb dX17_accept_8 (by decide) ?_
  have hP9 := hP.sub (ws' := [(h0, .inr (12, [.int 1, .ref n1, .int 0, .ref b1, .ref c1, .ref f1, .ref g1, .long 0, .int 0]))]) [0] rfl
  have hD9 := hD.sub (ws' := [(h0, .inr (12, [.int 1, .ref n1, .int 0, .ref b1, .ref c1, .ref f1, .ref g1, .long 0, .int 0]))]) [0] (by decide) rfl
  refine W.widen (k := 0) (n := 0) (Nat.le_of_ble_eq_true rfl) (Nat.le_of_ble_eq_true rfl) ?_
  exact W.iret (v := 0) hx hb hr (fun t ht hW => ⟨⟨0, (), rfl, rfl, ⟨by rw [ht]; exact hP9, hD9⟩⟩, hS.F ht⟩) hS.2.2 dX17_accept_9 hlocks
set_option maxHeartbeats 4000000 in
set_option maxRecDepth 100000 in
theorem k_X17_isAccepted (l : Launch) (hfl : l.stackTraces = false) (G : GC) (h0 : Nat) (p0 : Int32) (th : Int32) (n1 : Nat) (b1 : Nat) (c1 : Nat) (f1 : Nat) (g1 : Nat) (sz : Nat) : Met l yX17_isAccepted (Cond.code yX17_isAccepted cX17_isAccepted 2 (some .boolean) :: W0) ({ frames := 2, cells := 0, slots := 0, locals := 43 }) (va_Pc [.ref h0, .int p0] (WD G [(h0, .inr (12, [.int th, .ref n1, .int 0, .ref b1, .ref c1, .ref f1, .ref g1, .long 0, .int 0])), (f1, .inr (1, [.int 0, .ref (aE G), .int 0]))] sz)) (va_Qi (fun (r : Int32) (_ : Unit) => r = 0) (fun _ t => PW G (va_A [(h0, .inr (12, [.int th, .ref n1, .int 0, .ref b1, .ref c1, .ref f1, .ref g1, .long 0, .int 0])), (f1, .inr (1, [.int 0, .ref (aE G), .int 0]))] sz) [(h0, .inr (12, [.int 1, .ref n1, .int 0, .ref b1, .ref c1, .ref f1, .ref g1, .long 0, .int 0]))] t) (va_A [(h0, .inr (12, [.int th, .ref n1, .int 0, .ref b1, .ref c1, .ref f1, .ref g1, .long 0, .int 0])), (f1, .inr (1, [.int 0, .ref (aE G), .int 0]))] sz)) 0 0 (va_A [(h0, .inr (12, [.int th, .ref n1, .int 0, .ref b1, .ref c1, .ref f1, .ref g1, .long 0, .int 0])), (f1, .inr (1, [.int 0, .ref (aE G), .int 0]))] sz) := by
  refine Met.ofW (cc := cX17_isAccepted) (maxL := 2) (ret := (some .boolean)) (by decide) rfl ?_
  intro p e s m args below meth c s₁ B hml hv
  obtain ⟨rfl, hsz, hP, hK, hD0, hE⟩ := hv
  have hx := B.exec
  have hb := B.bytes
  have hr := B.returns
  have hts := w0_tail B.pre
  have hown : s.vm.findClass RX17 = some m.cls := findClass_of_methodNamed B.named
  have hlocks := B.notSynchronized
  subst hsz
  have hD := hD0.self (sz := s.heap.size)
  generalize hAe : va_A [(h0, .inr (12, [.int th, .ref n1, .int 0, .ref b1, .ref c1, .ref f1, .ref g1, .long 0, .int 0])), (f1, .inr (1, [.int 0, .ref (aE G), .int 0]))] s.heap.size = A at hD hE ⊢
  have hA : ∀ q : Nat, s.heap.size ≤ q → A q := fun q h => by rw [← hAe]; exact Or.inr h
  have hS : va_S A s.heap s.heap [] := va_S.rf
  obtain ⟨H, hHe⟩ : ∃ H : Heap, H = s.heap := ⟨_, rfl⟩
  have hP : va_P (DG G) clP1 [(h0, .inr (12, [.int th, .ref n1, .int 0, .ref b1, .ref c1, .ref f1, .ref g1, .long 0, .int 0])), (f1, .inr (1, [.int 0, .ref (aE G), .int 0]))] H := by rw [hHe]; exact hP
  have hS : va_S A s.heap H [] := by rw [hHe]; exact hS
  have hl := lv_entry ([.ref h0, .int p0]) (n := 2) (Nat.le_of_ble_eq_true rfl)
  rw [lg_entry_eq, ← hHe]
  generalize (lg_sl ([.ref h0, .int p0]) ++ List.replicate (2 - (lg_sl ([.ref h0, .int p0])).length) Slot.unset).toArray = ls at hl ⊢
  have hl : lv_has ls 2 [(0, .ref h0), (1, .int p0)] := hl
  refine lv_aload_n hx hb dX17_isAccepted_0 rfl (lv_at hl 0 rfl) ?_
  refine lv_iload_n hx hb dX17_isAccepted_1 rfl (lv_at hl 1 rfl) ?_
  have hFc := va_free (wc := [(h0, .inr (12, [.int th, .ref n1, .int 0, .ref b1, .ref c1, .ref f1, .ref g1, .long 0, .int 0])), (f1, .inr (1, [.int 0, .ref (aE G), .int 0]))]) hD hS hA [0, 1] rfl
  refine va_calli (va_runV (As := [.int p0]) (rest := []) ⟨hx, hb, hml, hown, hts⟩ (k_X17_failsFunction l hfl G h0 p0 th n1 b1 c1 f1 g1 H.size) (cwV 1 hts (gV wm1887 wm1889 ws_p51 wm11 wm1890) rfl rfl rfl (by decide +kernel) ⟨Nat.le_of_ble_eq_true rfl, Nat.le_of_ble_eq_true rfl⟩) (pre_v (pre_s hK hP hD hS hE [0, 1] rfl rfl (by decide) hFc) (va_recv hK hP (ci := 12) (q0 := 0) rfl rfl)) rfl rfl hl.1 rfl (lv_room (Nat.le_of_ble_eq_true rfl)) dX17_isAccepted_2 ⟨Nat.le_of_ble_eq_true rfl, Nat.le_of_ble_eq_true rfl⟩) hS (fun q _ h => hFc q h) hFc (fun r u t H locs ht hvm hw hB hz1 hk1 hS => ?_)
  obtain rfl : r = 1 := hw
  obtain ⟨hP1, hD1⟩ := hB
  rw [ht] at hP1
  obtain ⟨hP, hD⟩ := va_join (wr := []) (w1 := [(h0, .inr (12, [.int 1, .ref n1, .int 0, .ref b1, .ref c1, .ref f1, .ref g1, .long 0, .int 0]))]) hP hD [0, 1] [] rfl rfl (by decide) (by decide) hk1 hFc hP1 hD1
  have hP : va_P (DG G) clP1 [(h0, .inr (12, [.int 1, .ref n1, .int 0, .ref b1, .ref c1, .ref f1, .ref g1, .long 0, .int 0]))] H := hP
  have hD : va_D A [(h0, .inr (12, [.int 1, .ref n1, .int 0, .ref b1, .ref c1, .ref f1, .ref g1, .long 0, .int 0]))] := hD
  refine W.widen (k := 0) (n := 0) (Nat.le_of_ble_eq_true rfl) (Nat.le_of_ble_eq_true rfl) ?_
  refine lv_if_ne (tgt := 29) hx hb dX17_isAccepted_5 (by decide) (fun _ => ?_) (fun c => absurd c (by decide))
  refine lv_iconst (v := 0) hx hb dX17_isAccepted_29 (by decide) ?_
  have hP9 := hP.sub (ws' := [(h0, .inr (12, [.int 1, .ref n1, .int 0, .ref b1, .ref c1, .ref f1, .ref g1, .long 0, .int 0]))]) [0] rfl
  have hD9 := hD.sub (ws' := [(h0, .inr (12, [.int 1, .ref n1, .int 0, .ref b1, .ref c1, .ref f1, .ref g1, .long 0, .int 0]))]) [0] (by decide) rfl
  refine W.widen (k := 0) (n := 0) (Nat.le_of_ble_eq_true rfl) (Nat.le_of_ble_eq_true rfl) ?_
  exact W.zret (v := 0) (ty := .boolean) hx hb hr (by decide) (fun t ht hW => ⟨⟨0, (), rfl, rfl, ⟨by rw [ht]; exact hP9, hD9⟩⟩, hS.F ht⟩) hS.2.2 dX17_isAccepted_30 hlocks
set_option maxHeartbeats 4000000 in
set_option maxRecDepth 100000 in
theorem k_X17_runs (l : Launch) (hfl : l.stackTraces = false) (G : GC) (h0 : Nat) (p0 : Int32) (th : Int32) (n1 : Nat) (b1 : Nat) (c1 : Nat) (f1 : Nat) (g1 : Nat) (sz : Nat) : Met l yX17_runs (Cond.code yX17_runs cX17_runs 5 (some (.object "TelescopeCourtModel$Term")) :: W0) ({ frames := 3, cells := 0, slots := 0, locals := 64 }) (va_Pc [.ref h0, .int p0] (WD G [(h0, .inr (12, [.int th, .ref n1, .int 0, .ref b1, .ref c1, .ref f1, .ref g1, .long 0, .int 0])), (n1, .inr (1, [.int 0, .ref (aE G), .int 0]))] sz)) (va_Qq (fun (r : Option Nat) (_ : Unit) => r = none) (fun _ t => PW G (va_A [(h0, .inr (12, [.int th, .ref n1, .int 0, .ref b1, .ref c1, .ref f1, .ref g1, .long 0, .int 0])), (n1, .inr (1, [.int 0, .ref (aE G), .int 0]))] sz) [(h0, .inr (12, [.int 1, .ref n1, .int 0, .ref b1, .ref c1, .ref f1, .ref g1, .long 0, .int 0]))] t) (va_A [(h0, .inr (12, [.int th, .ref n1, .int 0, .ref b1, .ref c1, .ref f1, .ref g1, .long 0, .int 0])), (n1, .inr (1, [.int 0, .ref (aE G), .int 0]))] sz)) 0 0 (va_A [(h0, .inr (12, [.int th, .ref n1, .int 0, .ref b1, .ref c1, .ref f1, .ref g1, .long 0, .int 0])), (n1, .inr (1, [.int 0, .ref (aE G), .int 0]))] sz) := by
  refine Met.ofW (cc := cX17_runs) (maxL := 5) (ret := (some (.object "TelescopeCourtModel$Term"))) (by decide) rfl ?_
  intro p e s m args below meth c s₁ B hml hv
  obtain ⟨rfl, hsz, hP, hK, hD0, hE⟩ := hv
  have hx := B.exec
  have hb := B.bytes
  have hr := B.returns
  have hts := w0_tail B.pre
  have hown : s.vm.findClass RX17 = some m.cls := findClass_of_methodNamed B.named
  have hlocks := B.notSynchronized
  subst hsz
  have hD := hD0.self (sz := s.heap.size)
  generalize hAe : va_A [(h0, .inr (12, [.int th, .ref n1, .int 0, .ref b1, .ref c1, .ref f1, .ref g1, .long 0, .int 0])), (n1, .inr (1, [.int 0, .ref (aE G), .int 0]))] s.heap.size = A at hD hE ⊢
  have hA : ∀ q : Nat, s.heap.size ≤ q → A q := fun q h => by rw [← hAe]; exact Or.inr h
  have hS : va_S A s.heap s.heap [] := va_S.rf
  obtain ⟨H, hHe⟩ : ∃ H : Heap, H = s.heap := ⟨_, rfl⟩
  have hP : va_P (DG G) clP1 [(h0, .inr (12, [.int th, .ref n1, .int 0, .ref b1, .ref c1, .ref f1, .ref g1, .long 0, .int 0])), (n1, .inr (1, [.int 0, .ref (aE G), .int 0]))] H := by rw [hHe]; exact hP
  have hS : va_S A s.heap H [] := by rw [hHe]; exact hS
  have hl := lv_entry ([.ref h0, .int p0]) (n := 5) (Nat.le_of_ble_eq_true rfl)
  rw [lg_entry_eq, ← hHe]
  generalize (lg_sl ([.ref h0, .int p0]) ++ List.replicate (5 - (lg_sl ([.ref h0, .int p0])).length) Slot.unset).toArray = ls at hl ⊢
  have hl : lv_has ls 5 [(0, .ref h0), (1, .int p0)] := hl
  refine lv_aload_n hx hb dX17_runs_0 rfl (lv_at hl 0 rfl) ?_
  refine lv_iload_n hx hb dX17_runs_1 rfl (lv_at hl 1 rfl) ?_
  have hFc := va_free (wc := [(h0, .inr (12, [.int th, .ref n1, .int 0, .ref b1, .ref c1, .ref f1, .ref g1, .long 0, .int 0])), (n1, .inr (1, [.int 0, .ref (aE G), .int 0]))]) hD hS hA [0, 1] rfl
  refine va_calli (va_runV (As := [.int p0]) (rest := []) ⟨hx, hb, hml, hown, hts⟩ (k_X17_failsNode l hfl G h0 p0 th n1 b1 c1 f1 g1 H.size) (cwV 1 hts (gV wm1658 wm1660 ws_p39 wm11 wm1661) rfl rfl rfl (by decide +kernel) ⟨Nat.le_of_ble_eq_true rfl, Nat.le_of_ble_eq_true rfl⟩) (pre_v (pre_s hK hP hD hS hE [0, 1] rfl rfl (by decide) hFc) (va_recv hK hP (ci := 12) (q0 := 0) rfl rfl)) rfl rfl hl.1 rfl (lv_room (Nat.le_of_ble_eq_true rfl)) dX17_runs_2 ⟨Nat.le_of_ble_eq_true rfl, Nat.le_of_ble_eq_true rfl⟩) hS (fun q _ h => hFc q h) hFc (fun r u t H locs ht hvm hw hB hz1 hk1 hS => ?_)
  obtain rfl : r = 1 := hw
  obtain ⟨hP1, hD1⟩ := hB
  rw [ht] at hP1
  obtain ⟨hP, hD⟩ := va_join (wr := []) (w1 := [(h0, .inr (12, [.int 1, .ref n1, .int 0, .ref b1, .ref c1, .ref f1, .ref g1, .long 0, .int 0]))]) hP hD [0, 1] [] rfl rfl (by decide) (by decide) hk1 hFc hP1 hD1
  have hP : va_P (DG G) clP1 [(h0, .inr (12, [.int 1, .ref n1, .int 0, .ref b1, .ref c1, .ref f1, .ref g1, .long 0, .int 0]))] H := hP
  have hD : va_D A [(h0, .inr (12, [.int 1, .ref n1, .int 0, .ref b1, .ref c1, .ref f1, .ref g1, .long 0, .int 0]))] := hD
  refine W.widen (k := 0) (n := 0) (Nat.le_of_ble_eq_true rfl) (Nat.le_of_ble_eq_true rfl) ?_
  refine lv_if_eq (tgt := 10) hx hb dX17_runs_5 (by decide) (fun c => absurd c (by decide)) (fun _ => ?_)
  refine lv_null hx hb dX17_runs_8 ?_
  have hP9 := hP.sub (ws' := [(h0, .inr (12, [.int 1, .ref n1, .int 0, .ref b1, .ref c1, .ref f1, .ref g1, .long 0, .int 0]))]) [0] rfl
  have hD9 := hD.sub (ws' := [(h0, .inr (12, [.int 1, .ref n1, .int 0, .ref b1, .ref c1, .ref f1, .ref g1, .long 0, .int 0]))]) [0] (by decide) rfl
  refine W.widen (k := 0) (n := 0) (Nat.le_of_ble_eq_true rfl) (Nat.le_of_ble_eq_true rfl) ?_
  exact W.aret (v := .null) hx hb hr (Or.inl ⟨_, rfl⟩) (Or.inl rfl) (fun t ht hW => ⟨⟨none, (), rfl, rfl, ⟨by rw [ht]; exact hP9, hD9⟩⟩, hS.F ht⟩) hS.2.2 dX17_runs_9 hlocks
set_option maxHeartbeats 4000000 in
set_option maxRecDepth 100000 in
theorem k_X17_run (l : Launch) (hfl : l.stackTraces = false) (G : GC) (h0 : Nat) (p0 : Int32) (th : Int32) (n1 : Nat) (b1 : Nat) (c1 : Nat) (f1 : Nat) (g1 : Nat) (sz : Nat) : Met l yX17_run (Cond.code yX17_run cX17_run 3 (some .int) :: W0) ({ frames := 4, cells := 0, slots := 0, locals := 88 }) (va_Pc [.ref h0, .int p0] (WD G [(h0, .inr (12, [.int th, .ref n1, .int 0, .ref b1, .ref c1, .ref f1, .ref g1, .long 0, .int 0])), (n1, .inr (1, [.int 0, .ref (aE G), .int 0]))] sz)) (va_Qi (fun (r : Int32) (_ : Unit) => r = 0) (fun _ t => PW G (va_A [(h0, .inr (12, [.int th, .ref n1, .int 0, .ref b1, .ref c1, .ref f1, .ref g1, .long 0, .int 0])), (n1, .inr (1, [.int 0, .ref (aE G), .int 0]))] sz) [(h0, .inr (12, [.int 1, .ref n1, .int 0, .ref b1, .ref c1, .ref f1, .ref g1, .long 0, .int 0]))] t) (va_A [(h0, .inr (12, [.int th, .ref n1, .int 0, .ref b1, .ref c1, .ref f1, .ref g1, .long 0, .int 0])), (n1, .inr (1, [.int 0, .ref (aE G), .int 0]))] sz)) 0 0 (va_A [(h0, .inr (12, [.int th, .ref n1, .int 0, .ref b1, .ref c1, .ref f1, .ref g1, .long 0, .int 0])), (n1, .inr (1, [.int 0, .ref (aE G), .int 0]))] sz) := by
  refine Met.ofW (cc := cX17_run) (maxL := 3) (ret := (some .int)) (by decide) rfl ?_
  intro p e s m args below meth c s₁ B hml hv
  obtain ⟨rfl, hsz, hP, hK, hD0, hE⟩ := hv
  have hx := B.exec
  have hb := B.bytes
  have hr := B.returns
  have hts := w0_tail B.pre
  have hown : s.vm.findClass RX17 = some m.cls := findClass_of_methodNamed B.named
  have hlocks := B.notSynchronized
  subst hsz
  have hD := hD0.self (sz := s.heap.size)
  generalize hAe : va_A [(h0, .inr (12, [.int th, .ref n1, .int 0, .ref b1, .ref c1, .ref f1, .ref g1, .long 0, .int 0])), (n1, .inr (1, [.int 0, .ref (aE G), .int 0]))] s.heap.size = A at hD hE ⊢
  have hA : ∀ q : Nat, s.heap.size ≤ q → A q := fun q h => by rw [← hAe]; exact Or.inr h
  have hS : va_S A s.heap s.heap [] := va_S.rf
  obtain ⟨H, hHe⟩ : ∃ H : Heap, H = s.heap := ⟨_, rfl⟩
  have hP : va_P (DG G) clP1 [(h0, .inr (12, [.int th, .ref n1, .int 0, .ref b1, .ref c1, .ref f1, .ref g1, .long 0, .int 0])), (n1, .inr (1, [.int 0, .ref (aE G), .int 0]))] H := by rw [hHe]; exact hP
  have hS : va_S A s.heap H [] := by rw [hHe]; exact hS
  have hl := lv_entry ([.ref h0, .int p0]) (n := 3) (Nat.le_of_ble_eq_true rfl)
  rw [lg_entry_eq, ← hHe]
  generalize (lg_sl ([.ref h0, .int p0]) ++ List.replicate (3 - (lg_sl ([.ref h0, .int p0])).length) Slot.unset).toArray = ls at hl ⊢
  have hl : lv_has ls 3 [(0, .ref h0), (1, .int p0)] := hl
  refine lv_aload_n hx hb dX17_run_0 rfl (lv_at hl 0 rfl) ?_
  refine lv_iload_n hx hb dX17_run_1 rfl (lv_at hl 1 rfl) ?_
  have hFc := va_free (wc := [(h0, .inr (12, [.int th, .ref n1, .int 0, .ref b1, .ref c1, .ref f1, .ref g1, .long 0, .int 0])), (n1, .inr (1, [.int 0, .ref (aE G), .int 0]))]) hD hS hA [0, 1] rfl
  refine va_callq (va_runV (As := [.int p0]) (rest := []) ⟨hx, hb, hml, hown, hts⟩ (k_X17_runs l hfl G h0 p0 th n1 b1 c1 f1 g1 H.size) (cwV 1 hts (gV wm1928 wm1930 ws_p55 wm11 wm1931) rfl rfl rfl (by decide +kernel) ⟨Nat.le_of_ble_eq_true rfl, Nat.le_of_ble_eq_true rfl⟩) (pre_v (pre_s hK hP hD hS hE [0, 1] rfl rfl (by decide) hFc) (va_recv hK hP (ci := 12) (q0 := 0) rfl rfl)) rfl rfl hl.1 rfl (lv_room (Nat.le_of_ble_eq_true rfl)) dX17_run_2 ⟨Nat.le_of_ble_eq_true rfl, Nat.le_of_ble_eq_true rfl⟩) hS (fun q _ h => hFc q h) hFc (fun ro u t H locs ht hvm hw hB hz1 hk1 hS => ?_)
  obtain rfl : ro = none := hw
  obtain ⟨hP1, hD1⟩ := hB
  rw [ht] at hP1
  obtain ⟨hP, hD⟩ := va_join (wr := []) (w1 := [(h0, .inr (12, [.int 1, .ref n1, .int 0, .ref b1, .ref c1, .ref f1, .ref g1, .long 0, .int 0]))]) hP hD [0, 1] [] rfl rfl (by decide) (by decide) hk1 hFc hP1 hD1
  have hP : va_P (DG G) clP1 [(h0, .inr (12, [.int 1, .ref n1, .int 0, .ref b1, .ref c1, .ref f1, .ref g1, .long 0, .int 0]))] H := hP
  have hD : va_D A [(h0, .inr (12, [.int 1, .ref n1, .int 0, .ref b1, .ref c1, .ref f1, .ref g1, .long 0, .int 0]))] := hD
  refine W.widen (k := 0) (n := 0) (Nat.le_of_ble_eq_true rfl) (Nat.le_of_ble_eq_true rfl) ?_
  refine W.eq (g2 := F0 m 5 ls [.null]) rfl ?_
  refine lv_astore_nN (lv' := [(2, .null), (0, .ref h0), (1, .int p0)]) hx hb dX17_run_5 rfl hl (by decide) rfl (fun ls hl => ?_)
  refine lv_aload_n hx hb dX17_run_6 rfl (lv_at hl 1 rfl) ?_
  refine lv_dup hx hb dX17_run_7 rfl ?_
  refine va_get (D := DG G) (ci := 12) (v := .long 0) (C := RX17) (T := TX17) (N := 9) hx hb hts inW_X17 hown hK hP 0 rfl rfl 7 (by decide) (hts _ wm1352) (fun _ h9 => h9) rfl dX17_run_8 ?_
  refine lv_aload_nN hx hb dX17_run_11 rfl (lv_at hl 0 rfl) ?_
  refine lv_ifnonnullN hx hb dX17_run_12 ?_
  refine lv_lconst (v := 0) hx hb dX17_run_15 (by decide) ?_
  refine lv_goto (tgt := 24) hx hb dX17_run_16 (by decide) ?_
  refine lv_ladd hx hb dX17_run_24 ?_
  refine lv_topl (fun z_1 ez_1 => ?_)
  obtain rfl : z_1 = 0 := ez_1.trans (by decide)
  refine va_put (D := DG G) (ci := 12) (v := .long 0) (ty := tyX17 7) (C := RX17) (T := TX17) (N := 9) hx hb hts inW_X17 tyX17 tyX17_ok nmX17 hown hK hP hD hS 0 rfl rfl 7 (by decide) (hts _ wm1352) (fun _ h9 => h9) rfl (by decide +kernel) rfl rfl (Nat.le_of_ble_eq_true rfl) dX17_run_25 (fun H locs hP hD hS => ?_)
  have hP : va_P (DG G) clP1 [(h0, .inr (12, [.int 1, .ref n1, .int 0, .ref b1, .ref c1, .ref f1, .ref g1, .long 0, .int 0]))] H := hP
  have hD : va_D A [(h0, .inr (12, [.int 1, .ref n1, .int 0, .ref b1, .ref c1, .ref f1, .ref g1, .long 0, .int 0]))] := hD
  refine lv_aload_nN hx hb dX17_run_28 rfl (lv_at hl 0 rfl) ?_
  refine lv_ifnonnullN hx hb dX17_run_29 ?_
  refine lv_iconst (v := 0) hx hb dX17_run_32 (by decide) ?_
  refine lv_goto (tgt := 40) hx hb dX17_run_33 (by decide) ?_
  have hP9 := hP.sub (ws' := [(h0, .inr (12, [.int 1, .ref n1, .int 0, .ref b1, .ref c1, .ref f1, .ref g1, .long 0, .int 0]))]) [0] rfl
  have hD9 := hD.sub (ws' := [(h0, .inr (12, [.int 1, .ref n1, .int 0, .ref b1, .ref c1, .ref f1, .ref g1, .long 0, .int 0]))]) [0] (by decide) rfl
  refine W.widen (k := 0) (n := 0) (Nat.le_of_ble_eq_true rfl) (Nat.le_of_ble_eq_true rfl) ?_
  exact W.iret (v := 0) hx hb hr (fun t ht hW => ⟨⟨0, (), rfl, rfl, ⟨by rw [ht]; exact hP9, hD9⟩⟩, hS.F ht⟩) hS.2.2 dX17_run_40 hlocks
set_option maxHeartbeats 4000000 in
set_option maxRecDepth 100000 in
theorem k_X17_runByClauses (l : Launch) (hfl : l.stackTraces = false) (G : GC) (h0 : Nat) (p0 : Int32) (th : Int32) (n1 : Nat) (b1 : Nat) (c1 : Nat) (f1 : Nat) (g1 : Nat) (sz : Nat) : Met l yX17_runByClauses (Cond.code yX17_runByClauses cX17_runByClauses 3 (some .int) :: W0) ({ frames := 4, cells := 0, slots := 0, locals := 88 }) (va_Pc [.ref h0, .int p0] (WD G [(h0, .inr (12, [.int th, .ref n1, .int 0, .ref b1, .ref c1, .ref f1, .ref g1, .long 0, .int 0])), (n1, .inr (1, [.int 0, .ref (aE G), .int 0]))] sz)) (va_Qi (fun (r : Int32) (_ : Unit) => r = 0) (fun _ t => PW G (va_A [(h0, .inr (12, [.int th, .ref n1, .int 0, .ref b1, .ref c1, .ref f1, .ref g1, .long 0, .int 0])), (n1, .inr (1, [.int 0, .ref (aE G), .int 0]))] sz) [(h0, .inr (12, [.int 1, .ref n1, .int 0, .ref b1, .ref c1, .ref f1, .ref g1, .long 0, .int 0]))] t) (va_A [(h0, .inr (12, [.int th, .ref n1, .int 0, .ref b1, .ref c1, .ref f1, .ref g1, .long 0, .int 0])), (n1, .inr (1, [.int 0, .ref (aE G), .int 0]))] sz)) 0 0 (va_A [(h0, .inr (12, [.int th, .ref n1, .int 0, .ref b1, .ref c1, .ref f1, .ref g1, .long 0, .int 0])), (n1, .inr (1, [.int 0, .ref (aE G), .int 0]))] sz) := by
  refine Met.ofW (cc := cX17_runByClauses) (maxL := 3) (ret := (some .int)) (by decide) rfl ?_
  intro p e s m args below meth c s₁ B hml hv
  obtain ⟨rfl, hsz, hP, hK, hD0, hE⟩ := hv
  have hx := B.exec
  have hb := B.bytes
  have hr := B.returns
  have hts := w0_tail B.pre
  have hown : s.vm.findClass RX17 = some m.cls := findClass_of_methodNamed B.named
  have hlocks := B.notSynchronized
  subst hsz
  have hD := hD0.self (sz := s.heap.size)
  generalize hAe : va_A [(h0, .inr (12, [.int th, .ref n1, .int 0, .ref b1, .ref c1, .ref f1, .ref g1, .long 0, .int 0])), (n1, .inr (1, [.int 0, .ref (aE G), .int 0]))] s.heap.size = A at hD hE ⊢
  have hA : ∀ q : Nat, s.heap.size ≤ q → A q := fun q h => by rw [← hAe]; exact Or.inr h
  have hS : va_S A s.heap s.heap [] := va_S.rf
  obtain ⟨H, hHe⟩ : ∃ H : Heap, H = s.heap := ⟨_, rfl⟩
  have hP : va_P (DG G) clP1 [(h0, .inr (12, [.int th, .ref n1, .int 0, .ref b1, .ref c1, .ref f1, .ref g1, .long 0, .int 0])), (n1, .inr (1, [.int 0, .ref (aE G), .int 0]))] H := by rw [hHe]; exact hP
  have hS : va_S A s.heap H [] := by rw [hHe]; exact hS
  have hl := lv_entry ([.ref h0, .int p0]) (n := 3) (Nat.le_of_ble_eq_true rfl)
  rw [lg_entry_eq, ← hHe]
  generalize (lg_sl ([.ref h0, .int p0]) ++ List.replicate (3 - (lg_sl ([.ref h0, .int p0])).length) Slot.unset).toArray = ls at hl ⊢
  have hl : lv_has ls 3 [(0, .ref h0), (1, .int p0)] := hl
  refine lv_aload_n hx hb dX17_runByClauses_0 rfl (lv_at hl 0 rfl) ?_
  refine lv_iload_n hx hb dX17_runByClauses_1 rfl (lv_at hl 1 rfl) ?_
  have hFc := va_free (wc := [(h0, .inr (12, [.int th, .ref n1, .int 0, .ref b1, .ref c1, .ref f1, .ref g1, .long 0, .int 0])), (n1, .inr (1, [.int 0, .ref (aE G), .int 0]))]) hD hS hA [0, 1] rfl
  refine va_callq (va_runV (As := [.int p0]) (rest := []) ⟨hx, hb, hml, hown, hts⟩ (k_X17_runs l hfl G h0 p0 th n1 b1 c1 f1 g1 H.size) (cwV 1 hts (gV wm1928 wm1930 ws_p55 wm11 wm1931) rfl rfl rfl (by decide +kernel) ⟨Nat.le_of_ble_eq_true rfl, Nat.le_of_ble_eq_true rfl⟩) (pre_v (pre_s hK hP hD hS hE [0, 1] rfl rfl (by decide) hFc) (va_recv hK hP (ci := 12) (q0 := 0) rfl rfl)) rfl rfl hl.1 rfl (lv_room (Nat.le_of_ble_eq_true rfl)) dX17_runByClauses_2 ⟨Nat.le_of_ble_eq_true rfl, Nat.le_of_ble_eq_true rfl⟩) hS (fun q _ h => hFc q h) hFc (fun ro u t H locs ht hvm hw hB hz1 hk1 hS => ?_)
  obtain rfl : ro = none := hw
  obtain ⟨hP1, hD1⟩ := hB
  rw [ht] at hP1
  obtain ⟨hP, hD⟩ := va_join (wr := []) (w1 := [(h0, .inr (12, [.int 1, .ref n1, .int 0, .ref b1, .ref c1, .ref f1, .ref g1, .long 0, .int 0]))]) hP hD [0, 1] [] rfl rfl (by decide) (by decide) hk1 hFc hP1 hD1
  have hP : va_P (DG G) clP1 [(h0, .inr (12, [.int 1, .ref n1, .int 0, .ref b1, .ref c1, .ref f1, .ref g1, .long 0, .int 0]))] H := hP
  have hD : va_D A [(h0, .inr (12, [.int 1, .ref n1, .int 0, .ref b1, .ref c1, .ref f1, .ref g1, .long 0, .int 0]))] := hD
  refine W.widen (k := 0) (n := 0) (Nat.le_of_ble_eq_true rfl) (Nat.le_of_ble_eq_true rfl) ?_
  refine W.eq (g2 := F0 m 5 ls [.null]) rfl ?_
  refine lv_astore_nN (lv' := [(2, .null), (0, .ref h0), (1, .int p0)]) hx hb dX17_runByClauses_5 rfl hl (by decide) rfl (fun ls hl => ?_)
  refine lv_aload_nN hx hb dX17_runByClauses_6 rfl (lv_at hl 0 rfl) ?_
  refine lv_ifnonnullN hx hb dX17_runByClauses_7 ?_
  refine lv_iconst (v := 0) hx hb dX17_runByClauses_10 (by decide) ?_
  refine lv_goto (tgt := 18) hx hb dX17_runByClauses_11 (by decide) ?_
  have hP9 := hP.sub (ws' := [(h0, .inr (12, [.int 1, .ref n1, .int 0, .ref b1, .ref c1, .ref f1, .ref g1, .long 0, .int 0]))]) [0] rfl
  have hD9 := hD.sub (ws' := [(h0, .inr (12, [.int 1, .ref n1, .int 0, .ref b1, .ref c1, .ref f1, .ref g1, .long 0, .int 0]))]) [0] (by decide) rfl
  refine W.widen (k := 0) (n := 0) (Nat.le_of_ble_eq_true rfl) (Nat.le_of_ble_eq_true rfl) ?_
  exact W.iret (v := 0) hx hb hr (fun t ht hW => ⟨⟨0, (), rfl, rfl, ⟨by rw [ht]; exact hP9, hD9⟩⟩, hS.F ht⟩) hS.2.2 dX17_runByClauses_18 hlocks
set_option maxHeartbeats 4000000 in
set_option maxRecDepth 100000 in
theorem k_X17_steps (l : Launch) (hfl : l.stackTraces = false) (G : GC) (h0 : Nat) (p0 : Int32) (th : Int32) (n1 : Nat) (b1 : Nat) (c1 : Nat) (f1 : Nat) (g1 : Nat) (sz : Nat) : Met l yX17_steps (Cond.code yX17_steps cX17_steps 2 (some .int) :: W0) ({ frames := 4, cells := 0, slots := 0, locals := 88 }) (va_Pc [.ref h0, .int p0] (WD G [(h0, .inr (12, [.int th, .ref n1, .int 0, .ref b1, .ref c1, .ref f1, .ref g1, .long 0, .int 0])), (n1, .inr (1, [.int 0, .ref (aE G), .int 0]))] sz)) (va_Qi (fun (r : Int32) (_ : Unit) => r = 0) (fun _ t => PW G (va_A [(h0, .inr (12, [.int th, .ref n1, .int 0, .ref b1, .ref c1, .ref f1, .ref g1, .long 0, .int 0])), (n1, .inr (1, [.int 0, .ref (aE G), .int 0]))] sz) [(h0, .inr (12, [.int 1, .ref n1, .int 0, .ref b1, .ref c1, .ref f1, .ref g1, .long 0, .int 0]))] t) (va_A [(h0, .inr (12, [.int th, .ref n1, .int 0, .ref b1, .ref c1, .ref f1, .ref g1, .long 0, .int 0])), (n1, .inr (1, [.int 0, .ref (aE G), .int 0]))] sz)) 0 0 (va_A [(h0, .inr (12, [.int th, .ref n1, .int 0, .ref b1, .ref c1, .ref f1, .ref g1, .long 0, .int 0])), (n1, .inr (1, [.int 0, .ref (aE G), .int 0]))] sz) := by
  refine Met.ofW (cc := cX17_steps) (maxL := 2) (ret := (some .int)) (by decide) rfl ?_
  intro p e s m args below meth c s₁ B hml hv
  obtain ⟨rfl, hsz, hP, hK, hD0, hE⟩ := hv
  have hx := B.exec
  have hb := B.bytes
  have hr := B.returns
  have hts := w0_tail B.pre
  have hown : s.vm.findClass RX17 = some m.cls := findClass_of_methodNamed B.named
  have hlocks := B.notSynchronized
  subst hsz
  have hD := hD0.self (sz := s.heap.size)
  generalize hAe : va_A [(h0, .inr (12, [.int th, .ref n1, .int 0, .ref b1, .ref c1, .ref f1, .ref g1, .long 0, .int 0])), (n1, .inr (1, [.int 0, .ref (aE G), .int 0]))] s.heap.size = A at hD hE ⊢
  have hA : ∀ q : Nat, s.heap.size ≤ q → A q := fun q h => by rw [← hAe]; exact Or.inr h
  have hS : va_S A s.heap s.heap [] := va_S.rf
  obtain ⟨H, hHe⟩ : ∃ H : Heap, H = s.heap := ⟨_, rfl⟩
  have hP : va_P (DG G) clP1 [(h0, .inr (12, [.int th, .ref n1, .int 0, .ref b1, .ref c1, .ref f1, .ref g1, .long 0, .int 0])), (n1, .inr (1, [.int 0, .ref (aE G), .int 0]))] H := by rw [hHe]; exact hP
  have hS : va_S A s.heap H [] := by rw [hHe]; exact hS
  have hl := lv_entry ([.ref h0, .int p0]) (n := 2) (Nat.le_of_ble_eq_true rfl)
  rw [lg_entry_eq, ← hHe]
  generalize (lg_sl ([.ref h0, .int p0]) ++ List.replicate (2 - (lg_sl ([.ref h0, .int p0])).length) Slot.unset).toArray = ls at hl ⊢
  have hl : lv_has ls 2 [(0, .ref h0), (1, .int p0)] := hl
  refine lv_aload_n hx hb dX17_steps_0 rfl (lv_at hl 0 rfl) ?_
  refine lv_iload_n hx hb dX17_steps_1 rfl (lv_at hl 1 rfl) ?_
  have hFc := va_free (wc := [(h0, .inr (12, [.int th, .ref n1, .int 0, .ref b1, .ref c1, .ref f1, .ref g1, .long 0, .int 0])), (n1, .inr (1, [.int 0, .ref (aE G), .int 0]))]) hD hS hA [0, 1] rfl
  refine va_callq (va_runV (As := [.int p0]) (rest := []) ⟨hx, hb, hml, hown, hts⟩ (k_X17_runs l hfl G h0 p0 th n1 b1 c1 f1 g1 H.size) (cwV 1 hts (gV wm1928 wm1930 ws_p55 wm11 wm1931) rfl rfl rfl (by decide +kernel) ⟨Nat.le_of_ble_eq_true rfl, Nat.le_of_ble_eq_true rfl⟩) (pre_v (pre_s hK hP hD hS hE [0, 1] rfl rfl (by decide) hFc) (va_recv hK hP (ci := 12) (q0 := 0) rfl rfl)) rfl rfl hl.1 rfl (lv_room (Nat.le_of_ble_eq_true rfl)) dX17_steps_2 ⟨Nat.le_of_ble_eq_true rfl, Nat.le_of_ble_eq_true rfl⟩) hS (fun q _ h => hFc q h) hFc (fun ro u t H locs ht hvm hw hB hz1 hk1 hS => ?_)
  obtain rfl : ro = none := hw
  obtain ⟨hP1, hD1⟩ := hB
  rw [ht] at hP1
  obtain ⟨hP, hD⟩ := va_join (wr := []) (w1 := [(h0, .inr (12, [.int 1, .ref n1, .int 0, .ref b1, .ref c1, .ref f1, .ref g1, .long 0, .int 0]))]) hP hD [0, 1] [] rfl rfl (by decide) (by decide) hk1 hFc hP1 hD1
  have hP : va_P (DG G) clP1 [(h0, .inr (12, [.int 1, .ref n1, .int 0, .ref b1, .ref c1, .ref f1, .ref g1, .long 0, .int 0]))] H := hP
  have hD : va_D A [(h0, .inr (12, [.int 1, .ref n1, .int 0, .ref b1, .ref c1, .ref f1, .ref g1, .long 0, .int 0]))] := hD
  refine W.widen (k := 0) (n := 0) (Nat.le_of_ble_eq_true rfl) (Nat.le_of_ble_eq_true rfl) ?_
  refine W.eq (g2 := F0 m 5 ls [.null]) rfl ?_
  refine lv_ifnonnullN hx hb dX17_steps_5 ?_
  refine lv_iconst (v := 0) hx hb dX17_steps_8 (by decide) ?_
  refine lv_goto (tgt := 16) hx hb dX17_steps_9 (by decide) ?_
  have hP9 := hP.sub (ws' := [(h0, .inr (12, [.int 1, .ref n1, .int 0, .ref b1, .ref c1, .ref f1, .ref g1, .long 0, .int 0]))]) [0] rfl
  have hD9 := hD.sub (ws' := [(h0, .inr (12, [.int 1, .ref n1, .int 0, .ref b1, .ref c1, .ref f1, .ref g1, .long 0, .int 0]))]) [0] (by decide) rfl
  refine W.widen (k := 0) (n := 0) (Nat.le_of_ble_eq_true rfl) (Nat.le_of_ble_eq_true rfl) ?_
  exact W.iret (v := 0) hx hb hr (fun t ht hW => ⟨⟨0, (), rfl, rfl, ⟨by rw [ht]; exact hP9, hD9⟩⟩, hS.F ht⟩) hS.2.2 dX17_steps_16 hlocks
set_option maxHeartbeats 4000000 in
set_option maxRecDepth 100000 in
theorem k_X17_valueSize (l : Launch) (hfl : l.stackTraces = false) (G : GC) (h0 : Nat) (p0 : Int32) (th : Int32) (n1 : Nat) (b1 : Nat) (c1 : Nat) (f1 : Nat) (g1 : Nat) (sz : Nat) : Met l yX17_valueSize (Cond.code yX17_valueSize cX17_valueSize 3 (some .int) :: W0) ({ frames := 4, cells := 0, slots := 0, locals := 88 }) (va_Pc [.ref h0, .int p0] (WD G [(h0, .inr (12, [.int th, .ref n1, .int 0, .ref b1, .ref c1, .ref f1, .ref g1, .long 0, .int 0])), (n1, .inr (1, [.int 0, .ref (aE G), .int 0]))] sz)) (va_Qi (fun (r : Int32) (_ : Unit) => r = 0) (fun _ t => PW G (va_A [(h0, .inr (12, [.int th, .ref n1, .int 0, .ref b1, .ref c1, .ref f1, .ref g1, .long 0, .int 0])), (n1, .inr (1, [.int 0, .ref (aE G), .int 0]))] sz) [(h0, .inr (12, [.int 1, .ref n1, .int 0, .ref b1, .ref c1, .ref f1, .ref g1, .long 0, .int 0]))] t) (va_A [(h0, .inr (12, [.int th, .ref n1, .int 0, .ref b1, .ref c1, .ref f1, .ref g1, .long 0, .int 0])), (n1, .inr (1, [.int 0, .ref (aE G), .int 0]))] sz)) 0 0 (va_A [(h0, .inr (12, [.int th, .ref n1, .int 0, .ref b1, .ref c1, .ref f1, .ref g1, .long 0, .int 0])), (n1, .inr (1, [.int 0, .ref (aE G), .int 0]))] sz) := by
  refine Met.ofW (cc := cX17_valueSize) (maxL := 3) (ret := (some .int)) (by decide) rfl ?_
  intro p e s m args below meth c s₁ B hml hv
  obtain ⟨rfl, hsz, hP, hK, hD0, hE⟩ := hv
  have hx := B.exec
  have hb := B.bytes
  have hr := B.returns
  have hts := w0_tail B.pre
  have hown : s.vm.findClass RX17 = some m.cls := findClass_of_methodNamed B.named
  have hlocks := B.notSynchronized
  subst hsz
  have hD := hD0.self (sz := s.heap.size)
  generalize hAe : va_A [(h0, .inr (12, [.int th, .ref n1, .int 0, .ref b1, .ref c1, .ref f1, .ref g1, .long 0, .int 0])), (n1, .inr (1, [.int 0, .ref (aE G), .int 0]))] s.heap.size = A at hD hE ⊢
  have hA : ∀ q : Nat, s.heap.size ≤ q → A q := fun q h => by rw [← hAe]; exact Or.inr h
  have hS : va_S A s.heap s.heap [] := va_S.rf
  obtain ⟨H, hHe⟩ : ∃ H : Heap, H = s.heap := ⟨_, rfl⟩
  have hP : va_P (DG G) clP1 [(h0, .inr (12, [.int th, .ref n1, .int 0, .ref b1, .ref c1, .ref f1, .ref g1, .long 0, .int 0])), (n1, .inr (1, [.int 0, .ref (aE G), .int 0]))] H := by rw [hHe]; exact hP
  have hS : va_S A s.heap H [] := by rw [hHe]; exact hS
  have hl := lv_entry ([.ref h0, .int p0]) (n := 3) (Nat.le_of_ble_eq_true rfl)
  rw [lg_entry_eq, ← hHe]
  generalize (lg_sl ([.ref h0, .int p0]) ++ List.replicate (3 - (lg_sl ([.ref h0, .int p0])).length) Slot.unset).toArray = ls at hl ⊢
  have hl : lv_has ls 3 [(0, .ref h0), (1, .int p0)] := hl
  refine lv_aload_n hx hb dX17_valueSize_0 rfl (lv_at hl 0 rfl) ?_
  refine lv_iload_n hx hb dX17_valueSize_1 rfl (lv_at hl 1 rfl) ?_
  have hFc := va_free (wc := [(h0, .inr (12, [.int th, .ref n1, .int 0, .ref b1, .ref c1, .ref f1, .ref g1, .long 0, .int 0])), (n1, .inr (1, [.int 0, .ref (aE G), .int 0]))]) hD hS hA [0, 1] rfl
  refine va_callq (va_runV (As := [.int p0]) (rest := []) ⟨hx, hb, hml, hown, hts⟩ (k_X17_runs l hfl G h0 p0 th n1 b1 c1 f1 g1 H.size) (cwV 1 hts (gV wm1928 wm1930 ws_p55 wm11 wm1931) rfl rfl rfl (by decide +kernel) ⟨Nat.le_of_ble_eq_true rfl, Nat.le_of_ble_eq_true rfl⟩) (pre_v (pre_s hK hP hD hS hE [0, 1] rfl rfl (by decide) hFc) (va_recv hK hP (ci := 12) (q0 := 0) rfl rfl)) rfl rfl hl.1 rfl (lv_room (Nat.le_of_ble_eq_true rfl)) dX17_valueSize_2 ⟨Nat.le_of_ble_eq_true rfl, Nat.le_of_ble_eq_true rfl⟩) hS (fun q _ h => hFc q h) hFc (fun ro u t H locs ht hvm hw hB hz1 hk1 hS => ?_)
  obtain rfl : ro = none := hw
  obtain ⟨hP1, hD1⟩ := hB
  rw [ht] at hP1
  obtain ⟨hP, hD⟩ := va_join (wr := []) (w1 := [(h0, .inr (12, [.int 1, .ref n1, .int 0, .ref b1, .ref c1, .ref f1, .ref g1, .long 0, .int 0]))]) hP hD [0, 1] [] rfl rfl (by decide) (by decide) hk1 hFc hP1 hD1
  have hP : va_P (DG G) clP1 [(h0, .inr (12, [.int 1, .ref n1, .int 0, .ref b1, .ref c1, .ref f1, .ref g1, .long 0, .int 0]))] H := hP
  have hD : va_D A [(h0, .inr (12, [.int 1, .ref n1, .int 0, .ref b1, .ref c1, .ref f1, .ref g1, .long 0, .int 0]))] := hD
  refine W.widen (k := 0) (n := 0) (Nat.le_of_ble_eq_true rfl) (Nat.le_of_ble_eq_true rfl) ?_
  refine W.eq (g2 := F0 m 5 ls [.null]) rfl ?_
  refine lv_astore_nN (lv' := [(2, .null), (0, .ref h0), (1, .int p0)]) hx hb dX17_valueSize_5 rfl hl (by decide) rfl (fun ls hl => ?_)
  refine lv_aload_nN hx hb dX17_valueSize_6 rfl (lv_at hl 0 rfl) ?_
  refine lv_ifnonnullN hx hb dX17_valueSize_7 ?_
  refine lv_iconst (v := 0) hx hb dX17_valueSize_10 (by decide) ?_
  refine lv_goto (tgt := 20) hx hb dX17_valueSize_11 (by decide) ?_
  have hP9 := hP.sub (ws' := [(h0, .inr (12, [.int 1, .ref n1, .int 0, .ref b1, .ref c1, .ref f1, .ref g1, .long 0, .int 0]))]) [0] rfl
  have hD9 := hD.sub (ws' := [(h0, .inr (12, [.int 1, .ref n1, .int 0, .ref b1, .ref c1, .ref f1, .ref g1, .long 0, .int 0]))]) [0] (by decide) rfl
  refine W.widen (k := 0) (n := 0) (Nat.le_of_ble_eq_true rfl) (Nat.le_of_ble_eq_true rfl) ?_
  exact W.iret (v := 0) hx hb hr (fun t ht hW => ⟨⟨0, (), rfl, rfl, ⟨by rw [ht]; exact hP9, hD9⟩⟩, hS.F ht⟩) hS.2.2 dX17_valueSize_20 hlocks
set_option maxHeartbeats 4000000 in
set_option maxRecDepth 100000 in
theorem k_X17_allSteps (l : Launch) (hfl : l.stackTraces = false) (G : GC) (h0 : Nat) (th : Int32) (n1 : Nat) (b1 : Nat) (c1 : Nat) (f1 : Nat) (g1 : Nat) (sz : Nat) : Met l yX17_allSteps (Cond.code yX17_allSteps cX17_allSteps 1 (some .long) :: W0) ({ frames := 0, cells := 0, slots := 0, locals := 0 }) (va_Pc [.ref h0] (WD G [(h0, .inr (12, [.int th, .ref n1, .int 0, .ref b1, .ref c1, .ref f1, .ref g1, .long 0, .int 0]))] sz)) (va_Ql (fun (r : Int64) (_ : Unit) => r = 0) (fun _ t => PW G (va_A [(h0, .inr (12, [.int th, .ref n1, .int 0, .ref b1, .ref c1, .ref f1, .ref g1, .long 0, .int 0]))] sz) [(h0, .inr (12, [.int 0, .ref n1, .int 0, .ref b1, .ref c1, .ref f1, .ref g1, .long 0, .int 0]))] t) (va_A [(h0, .inr (12, [.int th, .ref n1, .int 0, .ref b1, .ref c1, .ref f1, .ref g1, .long 0, .int 0]))] sz)) 0 0 (va_A [(h0, .inr (12, [.int th, .ref n1, .int 0, .ref b1, .ref c1, .ref f1, .ref g1, .long 0, .int 0]))] sz) := by
  refine Met.ofW (cc := cX17_allSteps) (maxL := 1) (ret := (some .long)) (by decide) rfl ?_
  intro p e s m args below meth c s₁ B hml hv
  obtain ⟨rfl, hsz, hP, hK, hD0, hE⟩ := hv
  have hx := B.exec
  have hb := B.bytes
  have hr := B.returns
  have hts := w0_tail B.pre
  have hown : s.vm.findClass RX17 = some m.cls := findClass_of_methodNamed B.named
  have hlocks := B.notSynchronized
  subst hsz
  have hD := hD0.self (sz := s.heap.size)
  generalize hAe : va_A [(h0, .inr (12, [.int th, .ref n1, .int 0, .ref b1, .ref c1, .ref f1, .ref g1, .long 0, .int 0]))] s.heap.size = A at hD hE ⊢
  have hA : ∀ q : Nat, s.heap.size ≤ q → A q := fun q h => by rw [← hAe]; exact Or.inr h
  have hS : va_S A s.heap s.heap [] := va_S.rf
  obtain ⟨H, hHe⟩ : ∃ H : Heap, H = s.heap := ⟨_, rfl⟩
  have hP : va_P (DG G) clP1 [(h0, .inr (12, [.int th, .ref n1, .int 0, .ref b1, .ref c1, .ref f1, .ref g1, .long 0, .int 0]))] H := by rw [hHe]; exact hP
  have hS : va_S A s.heap H [] := by rw [hHe]; exact hS
  have hl := lv_entry ([.ref h0]) (n := 1) (Nat.le_of_ble_eq_true rfl)
  rw [lg_entry_eq, ← hHe]
  generalize (lg_sl ([.ref h0]) ++ List.replicate (1 - (lg_sl ([.ref h0])).length) Slot.unset).toArray = ls at hl ⊢
  have hl : lv_has ls 1 [(0, .ref h0)] := hl
  refine lv_aload_n hx hb dX17_allSteps_0 rfl (lv_at hl 0 rfl) ?_
  refine lv_iconst (v := 0) hx hb dX17_allSteps_1 (by decide) ?_
  refine va_put (D := DG G) (ci := 12) (v := .int 0) (ty := tyX17 0) (C := RX17) (T := TX17) (N := 9) hx hb hts inW_X17 tyX17 tyX17_ok nmX17 hown hK hP hD hS 0 rfl rfl 0 (by decide) (hts _ wm1345) (fun _ h9 => h9) rfl (by decide +kernel) rfl rfl (Nat.le_of_ble_eq_true rfl) dX17_allSteps_2 (fun H locs hP hD hS => ?_)
  have hP : va_P (DG G) clP1 [(h0, .inr (12, [.int 0, .ref n1, .int 0, .ref b1, .ref c1, .ref f1, .ref g1, .long 0, .int 0]))] H := hP
  have hD : va_D A [(h0, .inr (12, [.int 0, .ref n1, .int 0, .ref b1, .ref c1, .ref f1, .ref g1, .long 0, .int 0]))] := hD
  refine lv_aload_n hx hb dX17_allSteps_5 rfl (lv_at hl 0 rfl) ?_
  refine va_get (D := DG G) (ci := 12) (v := .long 0) (C := RX17) (T := TX17) (N := 9) hx hb hts inW_X17 hown hK hP 0 rfl rfl 7 (by decide) (hts _ wm1352) (fun _ h9 => h9) rfl dX17_allSteps_6 ?_
  have hP9 := hP.sub (ws' := [(h0, .inr (12, [.int 0, .ref n1, .int 0, .ref b1, .ref c1, .ref f1, .ref g1, .long 0, .int 0]))]) [0] rfl
  have hD9 := hD.sub (ws' := [(h0, .inr (12, [.int 0, .ref n1, .int 0, .ref b1, .ref c1, .ref f1, .ref g1, .long 0, .int 0]))]) [0] (by decide) rfl
  refine W.widen (k := 0) (n := 0) (Nat.le_of_ble_eq_true rfl) (Nat.le_of_ble_eq_true rfl) ?_
  exact W.lret (v := 0) hx hb hr (fun t ht hW => ⟨⟨0, (), rfl, rfl, ⟨by rw [ht]; exact hP9, hD9⟩⟩, hS.F ht⟩) hS.2.2 dX17_allSteps_9 hlocks
set_option maxHeartbeats 4000000 in
set_option maxRecDepth 100000 in
theorem k_X17_filledShare (l : Launch) (hfl : l.stackTraces = false) (G : GC) (h0 : Nat) (th : Int32) (n1 : Nat) (b1 : Nat) (c1 : Nat) (f1 : Nat) (g1 : Nat) (sz : Nat) : Met l yX17_filledShare (Cond.code yX17_filledShare cX17_filledShare 5 (some .float) :: W0) ({ frames := 3, cells := 1, slots := 4, locals := 53 }) (va_Pc [.ref h0] (WD G [(h0, .inr (12, [.int th, .ref n1, .int 0, .ref b1, .ref c1, .ref f1, .ref g1, .long 0, .int 0])), (g1, .inr (1, [.int 0, .ref (aE G), .int 0]))] sz)) (va_Qf (fun (_ : UInt32) (_ : Unit) => True) (fun _ t => PW G (va_A [(h0, .inr (12, [.int th, .ref n1, .int 0, .ref b1, .ref c1, .ref f1, .ref g1, .long 0, .int 0])), (g1, .inr (1, [.int 0, .ref (aE G), .int 0]))] sz) [(h0, .inr (12, [.int 1, .ref n1, .int 0, .ref b1, .ref c1, .ref f1, .ref g1, .long 0, .int 0]))] t) (va_A [(h0, .inr (12, [.int th, .ref n1, .int 0, .ref b1, .ref c1, .ref f1, .ref g1, .long 0, .int 0])), (g1, .inr (1, [.int 0, .ref (aE G), .int 0]))] sz)) 1 4 (va_A [(h0, .inr (12, [.int th, .ref n1, .int 0, .ref b1, .ref c1, .ref f1, .ref g1, .long 0, .int 0])), (g1, .inr (1, [.int 0, .ref (aE G), .int 0]))] sz) := by
  refine Met.ofW (cc := cX17_filledShare) (maxL := 5) (ret := (some .float)) (by decide) rfl ?_
  intro p e s m args below meth c s₁ B hml hv
  obtain ⟨rfl, hsz, hP, hK, hD0, hE⟩ := hv
  have hx := B.exec
  have hb := B.bytes
  have hr := B.returns
  have hts := w0_tail B.pre
  have hown : s.vm.findClass RX17 = some m.cls := findClass_of_methodNamed B.named
  have hlocks := B.notSynchronized
  subst hsz
  have hD := hD0.self (sz := s.heap.size)
  generalize hAe : va_A [(h0, .inr (12, [.int th, .ref n1, .int 0, .ref b1, .ref c1, .ref f1, .ref g1, .long 0, .int 0])), (g1, .inr (1, [.int 0, .ref (aE G), .int 0]))] s.heap.size = A at hD hE ⊢
  have hA : ∀ q : Nat, s.heap.size ≤ q → A q := fun q h => by rw [← hAe]; exact Or.inr h
  have hS : va_S A s.heap s.heap [] := va_S.rf
  obtain ⟨H, hHe⟩ : ∃ H : Heap, H = s.heap := ⟨_, rfl⟩
  have hP : va_P (DG G) clP1 [(h0, .inr (12, [.int th, .ref n1, .int 0, .ref b1, .ref c1, .ref f1, .ref g1, .long 0, .int 0])), (g1, .inr (1, [.int 0, .ref (aE G), .int 0]))] H := by rw [hHe]; exact hP
  have hS : va_S A s.heap H [] := by rw [hHe]; exact hS
  have hl := lv_entry ([.ref h0]) (n := 5) (Nat.le_of_ble_eq_true rfl)
  rw [lg_entry_eq, ← hHe]
  generalize (lg_sl ([.ref h0]) ++ List.replicate (5 - (lg_sl ([.ref h0])).length) Slot.unset).toArray = ls at hl ⊢
  have hl : lv_has ls 5 [(0, .ref h0)] := hl
  refine lv_iconst (v := 0) hx hb dX17_filledShare_0 (by decide) ?_
  refine lv_istore_n (lv' := [(1, .int 0), (0, .ref h0)]) hx hb dX17_filledShare_1 rfl hl (by decide) rfl (fun ls hl => ?_)
  refine lv_iconst (v := 0) hx hb dX17_filledShare_2 (by decide) ?_
  refine lv_istore_n (lv' := [(2, .int 0), (1, .int 0), (0, .ref h0)]) hx hb dX17_filledShare_3 rfl hl (by decide) rfl (fun ls hl => ?_)
  refine lv_aload_n hx hb dX17_filledShare_4 rfl (lv_at hl 2 rfl) ?_
  refine va_get (D := DG G) (ci := 12) (v := .ref g1) (C := RX17) (T := TX17) (N := 9) hx hb hts inW_X17 hown hK hP 0 rfl rfl 6 (by decide) (hts _ wm1351) (fun _ h9 => h9) rfl dX17_filledShare_5 ?_
  have hFc := va_free (wc := [(g1, .inr (1, [.int 0, .ref (aE G), .int 0]))]) hD hS hA [1] rfl
  refine va_callr (va_runV (As := []) (rest := []) ⟨hx, hb, hml, hown, hts⟩ (k_J_iterator l hfl G g1 H.size) (cwV 0 hts (gV wm1574 wm1575 wm1576 wm14 wm1577) rfl rfl rfl (by decide +kernel) ⟨Nat.le_of_ble_eq_true rfl, Nat.le_of_ble_eq_true rfl⟩) (pre_v (pre_s hK hP hD hS hE [1] rfl rfl (by decide) hFc) (va_recv hK hP (ci := 1) (q0 := 1) rfl rfl)) rfl rfl hl.1 rfl (lv_room (Nat.le_of_ble_eq_true rfl)) dX17_filledShare_8 ⟨Nat.le_of_ble_eq_true rfl, Nat.le_of_ble_eq_true rfl⟩) hS (fun q _ h => hFc q h) hFc (fun u ra t H locs ht hvm hw hB hz1 hk1 hS => ?_)
  obtain ⟨hP1, hD1⟩ := hB
  rw [ht] at hP1
  obtain ⟨hP, hD⟩ := va_join (wr := [(h0, .inr (12, [.int th, .ref n1, .int 0, .ref b1, .ref c1, .ref f1, .ref g1, .long 0, .int 0]))]) (w1 := [(ra, .inr (0, [.int 0, .int (-1), .int 0, .ref g1])), (g1, .inr (1, [.int 0, .ref (aE G), .int 0]))]) hP hD [1] [0] rfl rfl (by decide) (by decide) hk1 hFc hP1 hD1
  have hP : va_P (DG G) clP1 [(h0, .inr (12, [.int th, .ref n1, .int 0, .ref b1, .ref c1, .ref f1, .ref g1, .long 0, .int 0])), (ra, .inr (0, [.int 0, .int (-1), .int 0, .ref g1])), (g1, .inr (1, [.int 0, .ref (aE G), .int 0]))] H := hP
  have hD : va_D A [(h0, .inr (12, [.int th, .ref n1, .int 0, .ref b1, .ref c1, .ref f1, .ref g1, .long 0, .int 0])), (ra, .inr (0, [.int 0, .int (-1), .int 0, .ref g1])), (g1, .inr (1, [.int 0, .ref (aE G), .int 0]))] := hD
  refine W.widen (k := 1) (n := 4) (Nat.le_of_ble_eq_true rfl) (Nat.le_of_ble_eq_true rfl) ?_
  obtain ⟨q_1, eq_1⟩ : ∃ z : Nat, z = ra := ⟨_, rfl⟩
  subst eq_1
  have hP : va_P (DG G) clP1 [(h0, .inr (12, [.int th, .ref n1, .int 0, .ref b1, .ref c1, .ref f1, .ref g1, .long 0, .int 0])), (q_1, .inr (0, [.int 0, .int (-1), .int 0, .ref g1])), (g1, .inr (1, [.int 0, .ref (aE G), .int 0]))] H := hP
  have hD : va_D A [(h0, .inr (12, [.int th, .ref n1, .int 0, .ref b1, .ref c1, .ref f1, .ref g1, .long 0, .int 0])), (q_1, .inr (0, [.int 0, .int (-1), .int 0, .ref g1])), (g1, .inr (1, [.int 0, .ref (aE G), .int 0]))] := hD
  refine lv_astore_n (lv' := [(3, .ref q_1), (2, .int 0), (1, .int 0), (0, .ref h0)]) hx hb dX17_filledShare_11 rfl hl (by decide) rfl (fun ls hl => ?_)
  refine lv_aload_n hx hb dX17_filledShare_12 rfl (lv_at hl 0 rfl) ?_
  have hFc := va_free (wc := [(q_1, .inr (0, [.int 0, .int (-1), .int 0, .ref g1])), (g1, .inr (1, [.int 0, .ref (aE G), .int 0]))]) hD hS hA [1, 2] rfl
  refine va_callFi (va_runF (As := []) (rest := []) ((hK.1 0 _ rfl).2) ⟨hx, hb, hml, hown, hts⟩ (k_J_hasNext l hfl G q_1 g1 H.size) (va_cwF 0 hts (gF wm1598 wm1602 wm1604 wm30 wm1606) rfl rfl rfl (EV.fw hE) (by decide +kernel) ⟨Nat.le_of_ble_eq_true rfl, Nat.le_of_ble_eq_true rfl⟩) (pre_v (pre_s hK hP hD hS hE [1, 2] rfl rfl (by decide) hFc) (va_recv hK hP (ci := 0) (q0 := 1) rfl rfl)) rfl rfl hl.1 rfl (lv_room (Nat.le_of_ble_eq_true rfl)) dX17_filledShare_13 ⟨Nat.le_of_ble_eq_true rfl, Nat.le_of_ble_eq_true rfl⟩) hS (fun q _ h => hFc q h) hFc (fun r u t H locs ht hvm hw hB hz1 hk1 hS => ?_)
  obtain rfl : r = 0 := hw
  obtain ⟨hP1, hD1⟩ := hB
  rw [ht] at hP1
  obtain ⟨hP, hD⟩ := va_join (wr := [(h0, .inr (12, [.int th, .ref n1, .int 0, .ref b1, .ref c1, .ref f1, .ref g1, .long 0, .int 0]))]) (w1 := []) hP hD [1, 2] [0] rfl rfl (by decide) (by decide) hk1 hFc hP1 hD1
  have hP : va_P (DG G) clP1 [(h0, .inr (12, [.int th, .ref n1, .int 0, .ref b1, .ref c1, .ref f1, .ref g1, .long 0, .int 0]))] H := hP
  have hD : va_D A [(h0, .inr (12, [.int th, .ref n1, .int 0, .ref b1, .ref c1, .ref f1, .ref g1, .long 0, .int 0]))] := hD
  refine W.widen (k := 1) (n := 4) (Nat.le_of_ble_eq_true rfl) (Nat.le_of_ble_eq_true rfl) ?_
  refine lv_if_eq (tgt := 71) hx hb dX17_filledShare_18 (by decide) (fun _ => ?_) (fun c => absurd (by decide) c)
  refine lv_aload_n hx hb dX17_filledShare_71 rfl (lv_at hl 3 rfl) ?_
  refine lv_iload_n hx hb dX17_filledShare_72 rfl (lv_at hl 1 rfl) ?_
  refine lv_if_ne (tgt := 80) hx hb dX17_filledShare_73 (by decide) (fun c => absurd (by decide) c) (fun _ => ?_)
  refine lv_iconst (v := 1) hx hb dX17_filledShare_76 (by decide) ?_
  refine lv_goto (tgt := 81) hx hb dX17_filledShare_77 (by decide) ?_
  have hFc := va_free (wc := [(h0, .inr (12, [.int th, .ref n1, .int 0, .ref b1, .ref c1, .ref f1, .ref g1, .long 0, .int 0]))]) hD hS hA [0] rfl
  refine va_calli (va_runV (As := [.int 1]) (rest := []) ⟨hx, hb, hml, hown, hts⟩ (k_X17_fails_1 l hfl G h0 th n1 b1 c1 f1 g1 H.size) (cwV 1 hts (gV wm1392 wm1394 ws_p29 wm11 wm1395) rfl rfl rfl (by decide +kernel) ⟨Nat.le_of_ble_eq_true rfl, Nat.le_of_ble_eq_true rfl⟩) (pre_v (pre_s hK hP hD hS hE [0] rfl rfl (by decide) hFc) (va_recv hK hP (ci := 12) (q0 := 0) rfl rfl)) rfl rfl hl.1 rfl (lv_room (Nat.le_of_ble_eq_true rfl)) dX17_filledShare_81 ⟨Nat.le_of_ble_eq_true rfl, Nat.le_of_ble_eq_true rfl⟩) hS (fun q _ h => hFc q h) hFc (fun r u t H locs ht hvm hw hB hz1 hk1 hS => ?_)
  obtain rfl : r = 1 := hw
  obtain ⟨hP1, hD1⟩ := hB
  rw [ht] at hP1
  obtain ⟨hP, hD⟩ := va_join (wr := []) (w1 := [(h0, .inr (12, [.int 1, .ref n1, .int 0, .ref b1, .ref c1, .ref f1, .ref g1, .long 0, .int 0]))]) hP hD [0] [] rfl rfl (by decide) (by decide) hk1 hFc hP1 hD1
  have hP : va_P (DG G) clP1 [(h0, .inr (12, [.int 1, .ref n1, .int 0, .ref b1, .ref c1, .ref f1, .ref g1, .long 0, .int 0]))] H := hP
  have hD : va_D A [(h0, .inr (12, [.int 1, .ref n1, .int 0, .ref b1, .ref c1, .ref f1, .ref g1, .long 0, .int 0]))] := hD
  refine W.widen (k := 1) (n := 4) (Nat.le_of_ble_eq_true rfl) (Nat.le_of_ble_eq_true rfl) ?_
  refine lv_if_eq (tgt := 91) hx hb dX17_filledShare_84 (by decide) (fun c => absurd c (by decide)) (fun _ => ?_)
  refine lv_fconst0 hx hb dX17_filledShare_87 ?_
  refine lv_topf (fun z_2 _ => ?_)
  refine lv_goto (tgt := 96) hx hb dX17_filledShare_88 (by decide) ?_
  have hP9 := hP.sub (ws' := [(h0, .inr (12, [.int 1, .ref n1, .int 0, .ref b1, .ref c1, .ref f1, .ref g1, .long 0, .int 0]))]) [0] rfl
  have hD9 := hD.sub (ws' := [(h0, .inr (12, [.int 1, .ref n1, .int 0, .ref b1, .ref c1, .ref f1, .ref g1, .long 0, .int 0]))]) [0] (by decide) rfl
  refine W.widen (k := 1) (n := 4) (Nat.le_of_ble_eq_true rfl) (Nat.le_of_ble_eq_true rfl) ?_
  exact W.fret (v := z_2) hx hb hr (fun t ht hW => ⟨⟨z_2, (), rfl, trivial, ⟨by rw [ht]; exact hP9, hD9⟩⟩, hS.F ht⟩) hS.2.2 dX17_filledShare_96 hlocks
set_option maxHeartbeats 4000000 in
set_option maxRecDepth 100000 in
theorem k_X17_meanSize (l : Launch) (hfl : l.stackTraces = false) (G : GC) (h0 : Nat) (th : Int32) (n1 : Nat) (b1 : Nat) (c1 : Nat) (f1 : Nat) (g1 : Nat) (sz : Nat) : Met l yX17_meanSize (Cond.code yX17_meanSize cX17_meanSize 5 (some .double) :: W0) ({ frames := 3, cells := 1, slots := 4, locals := 53 }) (va_Pc [.ref h0] (WD G [(h0, .inr (12, [.int th, .ref n1, .int 0, .ref b1, .ref c1, .ref f1, .ref g1, .long 0, .int 0])), (g1, .inr (1, [.int 0, .ref (aE G), .int 0]))] sz)) (va_Qd (fun (_ : UInt64) (_ : Unit) => True) (fun _ t => PW G (va_A [(h0, .inr (12, [.int th, .ref n1, .int 0, .ref b1, .ref c1, .ref f1, .ref g1, .long 0, .int 0])), (g1, .inr (1, [.int 0, .ref (aE G), .int 0]))] sz) [(h0, .inr (12, [.int 1, .ref n1, .int 0, .ref b1, .ref c1, .ref f1, .ref g1, .long 0, .int 0]))] t) (va_A [(h0, .inr (12, [.int th, .ref n1, .int 0, .ref b1, .ref c1, .ref f1, .ref g1, .long 0, .int 0])), (g1, .inr (1, [.int 0, .ref (aE G), .int 0]))] sz)) 1 4 (va_A [(h0, .inr (12, [.int th, .ref n1, .int 0, .ref b1, .ref c1, .ref f1, .ref g1, .long 0, .int 0])), (g1, .inr (1, [.int 0, .ref (aE G), .int 0]))] sz) := by
  refine Met.ofW (cc := cX17_meanSize) (maxL := 5) (ret := (some .double)) (by decide) rfl ?_
  intro p e s m args below meth c s₁ B hml hv
  obtain ⟨rfl, hsz, hP, hK, hD0, hE⟩ := hv
  have hx := B.exec
  have hb := B.bytes
  have hr := B.returns
  have hts := w0_tail B.pre
  have hown : s.vm.findClass RX17 = some m.cls := findClass_of_methodNamed B.named
  have hlocks := B.notSynchronized
  subst hsz
  have hD := hD0.self (sz := s.heap.size)
  generalize hAe : va_A [(h0, .inr (12, [.int th, .ref n1, .int 0, .ref b1, .ref c1, .ref f1, .ref g1, .long 0, .int 0])), (g1, .inr (1, [.int 0, .ref (aE G), .int 0]))] s.heap.size = A at hD hE ⊢
  have hA : ∀ q : Nat, s.heap.size ≤ q → A q := fun q h => by rw [← hAe]; exact Or.inr h
  have hS : va_S A s.heap s.heap [] := va_S.rf
  obtain ⟨H, hHe⟩ : ∃ H : Heap, H = s.heap := ⟨_, rfl⟩
  have hP : va_P (DG G) clP1 [(h0, .inr (12, [.int th, .ref n1, .int 0, .ref b1, .ref c1, .ref f1, .ref g1, .long 0, .int 0])), (g1, .inr (1, [.int 0, .ref (aE G), .int 0]))] H := by rw [hHe]; exact hP
  have hS : va_S A s.heap H [] := by rw [hHe]; exact hS
  have hl := lv_entry ([.ref h0]) (n := 5) (Nat.le_of_ble_eq_true rfl)
  rw [lg_entry_eq, ← hHe]
  generalize (lg_sl ([.ref h0]) ++ List.replicate (5 - (lg_sl ([.ref h0])).length) Slot.unset).toArray = ls at hl ⊢
  have hl : lv_has ls 5 [(0, .ref h0)] := hl
  refine lv_iconst (v := 0) hx hb dX17_meanSize_0 (by decide) ?_
  refine lv_istore_n (lv' := [(1, .int 0), (0, .ref h0)]) hx hb dX17_meanSize_1 rfl hl (by decide) rfl (fun ls hl => ?_)
  refine lv_iconst (v := 0) hx hb dX17_meanSize_2 (by decide) ?_
  refine lv_istore_n (lv' := [(2, .int 0), (1, .int 0), (0, .ref h0)]) hx hb dX17_meanSize_3 rfl hl (by decide) rfl (fun ls hl => ?_)
  refine lv_aload_n hx hb dX17_meanSize_4 rfl (lv_at hl 2 rfl) ?_
  refine va_get (D := DG G) (ci := 12) (v := .ref g1) (C := RX17) (T := TX17) (N := 9) hx hb hts inW_X17 hown hK hP 0 rfl rfl 6 (by decide) (hts _ wm1351) (fun _ h9 => h9) rfl dX17_meanSize_5 ?_
  have hFc := va_free (wc := [(g1, .inr (1, [.int 0, .ref (aE G), .int 0]))]) hD hS hA [1] rfl
  refine va_callr (va_runV (As := []) (rest := []) ⟨hx, hb, hml, hown, hts⟩ (k_J_iterator l hfl G g1 H.size) (cwV 0 hts (gV wm1574 wm1575 wm1576 wm14 wm1577) rfl rfl rfl (by decide +kernel) ⟨Nat.le_of_ble_eq_true rfl, Nat.le_of_ble_eq_true rfl⟩) (pre_v (pre_s hK hP hD hS hE [1] rfl rfl (by decide) hFc) (va_recv hK hP (ci := 1) (q0 := 1) rfl rfl)) rfl rfl hl.1 rfl (lv_room (Nat.le_of_ble_eq_true rfl)) dX17_meanSize_8 ⟨Nat.le_of_ble_eq_true rfl, Nat.le_of_ble_eq_true rfl⟩) hS (fun q _ h => hFc q h) hFc (fun u ra t H locs ht hvm hw hB hz1 hk1 hS => ?_)
  obtain ⟨hP1, hD1⟩ := hB
  rw [ht] at hP1
  obtain ⟨hP, hD⟩ := va_join (wr := [(h0, .inr (12, [.int th, .ref n1, .int 0, .ref b1, .ref c1, .ref f1, .ref g1, .long 0, .int 0]))]) (w1 := [(ra, .inr (0, [.int 0, .int (-1), .int 0, .ref g1])), (g1, .inr (1, [.int 0, .ref (aE G), .int 0]))]) hP hD [1] [0] rfl rfl (by decide) (by decide) hk1 hFc hP1 hD1
  have hP : va_P (DG G) clP1 [(h0, .inr (12, [.int th, .ref n1, .int 0, .ref b1, .ref c1, .ref f1, .ref g1, .long 0, .int 0])), (ra, .inr (0, [.int 0, .int (-1), .int 0, .ref g1])), (g1, .inr (1, [.int 0, .ref (aE G), .int 0]))] H := hP
  have hD : va_D A [(h0, .inr (12, [.int th, .ref n1, .int 0, .ref b1, .ref c1, .ref f1, .ref g1, .long 0, .int 0])), (ra, .inr (0, [.int 0, .int (-1), .int 0, .ref g1])), (g1, .inr (1, [.int 0, .ref (aE G), .int 0]))] := hD
  refine W.widen (k := 1) (n := 4) (Nat.le_of_ble_eq_true rfl) (Nat.le_of_ble_eq_true rfl) ?_
  obtain ⟨q_1, eq_1⟩ : ∃ z : Nat, z = ra := ⟨_, rfl⟩
  subst eq_1
  have hP : va_P (DG G) clP1 [(h0, .inr (12, [.int th, .ref n1, .int 0, .ref b1, .ref c1, .ref f1, .ref g1, .long 0, .int 0])), (q_1, .inr (0, [.int 0, .int (-1), .int 0, .ref g1])), (g1, .inr (1, [.int 0, .ref (aE G), .int 0]))] H := hP
  have hD : va_D A [(h0, .inr (12, [.int th, .ref n1, .int 0, .ref b1, .ref c1, .ref f1, .ref g1, .long 0, .int 0])), (q_1, .inr (0, [.int 0, .int (-1), .int 0, .ref g1])), (g1, .inr (1, [.int 0, .ref (aE G), .int 0]))] := hD
  refine lv_astore_n (lv' := [(3, .ref q_1), (2, .int 0), (1, .int 0), (0, .ref h0)]) hx hb dX17_meanSize_11 rfl hl (by decide) rfl (fun ls hl => ?_)
  refine lv_aload_n hx hb dX17_meanSize_12 rfl (lv_at hl 0 rfl) ?_
  have hFc := va_free (wc := [(q_1, .inr (0, [.int 0, .int (-1), .int 0, .ref g1])), (g1, .inr (1, [.int 0, .ref (aE G), .int 0]))]) hD hS hA [1, 2] rfl
  refine va_callFi (va_runF (As := []) (rest := []) ((hK.1 0 _ rfl).2) ⟨hx, hb, hml, hown, hts⟩ (k_J_hasNext l hfl G q_1 g1 H.size) (va_cwF 0 hts (gF wm1598 wm1602 wm1604 wm30 wm1606) rfl rfl rfl (EV.fw hE) (by decide +kernel) ⟨Nat.le_of_ble_eq_true rfl, Nat.le_of_ble_eq_true rfl⟩) (pre_v (pre_s hK hP hD hS hE [1, 2] rfl rfl (by decide) hFc) (va_recv hK hP (ci := 0) (q0 := 1) rfl rfl)) rfl rfl hl.1 rfl (lv_room (Nat.le_of_ble_eq_true rfl)) dX17_meanSize_13 ⟨Nat.le_of_ble_eq_true rfl, Nat.le_of_ble_eq_true rfl⟩) hS (fun q _ h => hFc q h) hFc (fun r u t H locs ht hvm hw hB hz1 hk1 hS => ?_)
  obtain rfl : r = 0 := hw
  obtain ⟨hP1, hD1⟩ := hB
  rw [ht] at hP1
  obtain ⟨hP, hD⟩ := va_join (wr := [(h0, .inr (12, [.int th, .ref n1, .int 0, .ref b1, .ref c1, .ref f1, .ref g1, .long 0, .int 0]))]) (w1 := []) hP hD [1, 2] [0] rfl rfl (by decide) (by decide) hk1 hFc hP1 hD1
  have hP : va_P (DG G) clP1 [(h0, .inr (12, [.int th, .ref n1, .int 0, .ref b1, .ref c1, .ref f1, .ref g1, .long 0, .int 0]))] H := hP
  have hD : va_D A [(h0, .inr (12, [.int th, .ref n1, .int 0, .ref b1, .ref c1, .ref f1, .ref g1, .long 0, .int 0]))] := hD
  refine W.widen (k := 1) (n := 4) (Nat.le_of_ble_eq_true rfl) (Nat.le_of_ble_eq_true rfl) ?_
  refine lv_if_eq (tgt := 78) hx hb dX17_meanSize_18 (by decide) (fun _ => ?_) (fun c => absurd (by decide) c)
  refine lv_aload_n hx hb dX17_meanSize_78 rfl (lv_at hl 3 rfl) ?_
  refine lv_iload_n hx hb dX17_meanSize_79 rfl (lv_at hl 1 rfl) ?_
  refine lv_if_ne (tgt := 87) hx hb dX17_meanSize_80 (by decide) (fun c => absurd (by decide) c) (fun _ => ?_)
  refine lv_iconst (v := 1) hx hb dX17_meanSize_83 (by decide) ?_
  refine lv_goto (tgt := 88) hx hb dX17_meanSize_84 (by decide) ?_
  have hFc := va_free (wc := [(h0, .inr (12, [.int th, .ref n1, .int 0, .ref b1, .ref c1, .ref f1, .ref g1, .long 0, .int 0]))]) hD hS hA [0] rfl
  refine va_calli (va_runV (As := [.int 1]) (rest := []) ⟨hx, hb, hml, hown, hts⟩ (k_X17_fails_1 l hfl G h0 th n1 b1 c1 f1 g1 H.size) (cwV 1 hts (gV wm1392 wm1394 ws_p29 wm11 wm1395) rfl rfl rfl (by decide +kernel) ⟨Nat.le_of_ble_eq_true rfl, Nat.le_of_ble_eq_true rfl⟩) (pre_v (pre_s hK hP hD hS hE [0] rfl rfl (by decide) hFc) (va_recv hK hP (ci := 12) (q0 := 0) rfl rfl)) rfl rfl hl.1 rfl (lv_room (Nat.le_of_ble_eq_true rfl)) dX17_meanSize_88 ⟨Nat.le_of_ble_eq_true rfl, Nat.le_of_ble_eq_true rfl⟩) hS (fun q _ h => hFc q h) hFc (fun r u t H locs ht hvm hw hB hz1 hk1 hS => ?_)
  obtain rfl : r = 1 := hw
  obtain ⟨hP1, hD1⟩ := hB
  rw [ht] at hP1
  obtain ⟨hP, hD⟩ := va_join (wr := []) (w1 := [(h0, .inr (12, [.int 1, .ref n1, .int 0, .ref b1, .ref c1, .ref f1, .ref g1, .long 0, .int 0]))]) hP hD [0] [] rfl rfl (by decide) (by decide) hk1 hFc hP1 hD1
  have hP : va_P (DG G) clP1 [(h0, .inr (12, [.int 1, .ref n1, .int 0, .ref b1, .ref c1, .ref f1, .ref g1, .long 0, .int 0]))] H := hP
  have hD : va_D A [(h0, .inr (12, [.int 1, .ref n1, .int 0, .ref b1, .ref c1, .ref f1, .ref g1, .long 0, .int 0]))] := hD
  refine W.widen (k := 1) (n := 4) (Nat.le_of_ble_eq_true rfl) (Nat.le_of_ble_eq_true rfl) ?_
  refine lv_if_eq (tgt := 98) hx hb dX17_meanSize_91 (by decide) (fun c => absurd c (by decide)) (fun _ => ?_)
  refine lv_dconst0 hx hb dX17_meanSize_94 ?_
  refine lv_topd (fun z_2 _ => ?_)
  refine lv_goto (tgt := 103) hx hb dX17_meanSize_95 (by decide) ?_
  have hP9 := hP.sub (ws' := [(h0, .inr (12, [.int 1, .ref n1, .int 0, .ref b1, .ref c1, .ref f1, .ref g1, .long 0, .int 0]))]) [0] rfl
  have hD9 := hD.sub (ws' := [(h0, .inr (12, [.int 1, .ref n1, .int 0, .ref b1, .ref c1, .ref f1, .ref g1, .long 0, .int 0]))]) [0] (by decide) rfl
  refine W.widen (k := 1) (n := 4) (Nat.le_of_ble_eq_true rfl) (Nat.le_of_ble_eq_true rfl) ?_
  exact W.dret (v := z_2) hx hb hr (fun t ht hW => ⟨⟨z_2, (), rfl, trivial, ⟨by rw [ht]; exact hP9, hD9⟩⟩, hS.F ht⟩) hS.2.2 dX17_meanSize_103 hlocks
set_option maxHeartbeats 4000000 in
set_option maxRecDepth 100000 in
theorem k_X17_isSound (l : Launch) (hfl : l.stackTraces = false) (G : GC) (h0 : Nat) (th : Int32) (n1 : Nat) (b1 : Nat) (c1 : Nat) (f1 : Nat) (g1 : Nat) (sz : Nat) : Met l yX17_isSound (Cond.code yX17_isSound cX17_isSound 1 (some .boolean) :: W0) ({ frames := 0, cells := 0, slots := 0, locals := 0 }) (va_Pc [.ref h0] (WD G [(h0, .inr (12, [.int th, .ref n1, .int 0, .ref b1, .ref c1, .ref f1, .ref g1, .long 0, .int 0]))] sz)) (va_Qi (fun (r : Int32) (_ : Unit) => r = 1) (fun _ t => PW G (va_A [(h0, .inr (12, [.int th, .ref n1, .int 0, .ref b1, .ref c1, .ref f1, .ref g1, .long 0, .int 0]))] sz) [(h0, .inr (12, [.int 0, .ref n1, .int 0, .ref b1, .ref c1, .ref f1, .ref g1, .long 0, .int 0]))] t) (va_A [(h0, .inr (12, [.int th, .ref n1, .int 0, .ref b1, .ref c1, .ref f1, .ref g1, .long 0, .int 0]))] sz)) 0 0 (va_A [(h0, .inr (12, [.int th, .ref n1, .int 0, .ref b1, .ref c1, .ref f1, .ref g1, .long 0, .int 0]))] sz) := by
  refine Met.ofW (cc := cX17_isSound) (maxL := 1) (ret := (some .boolean)) (by decide) rfl ?_
  intro p e s m args below meth c s₁ B hml hv
  obtain ⟨rfl, hsz, hP, hK, hD0, hE⟩ := hv
  have hx := B.exec
  have hb := B.bytes
  have hr := B.returns
  have hts := w0_tail B.pre
  have hown : s.vm.findClass RX17 = some m.cls := findClass_of_methodNamed B.named
  have hlocks := B.notSynchronized
  subst hsz
  have hD := hD0.self (sz := s.heap.size)
  generalize hAe : va_A [(h0, .inr (12, [.int th, .ref n1, .int 0, .ref b1, .ref c1, .ref f1, .ref g1, .long 0, .int 0]))] s.heap.size = A at hD hE ⊢
  have hA : ∀ q : Nat, s.heap.size ≤ q → A q := fun q h => by rw [← hAe]; exact Or.inr h
  have hS : va_S A s.heap s.heap [] := va_S.rf
  obtain ⟨H, hHe⟩ : ∃ H : Heap, H = s.heap := ⟨_, rfl⟩
  have hP : va_P (DG G) clP1 [(h0, .inr (12, [.int th, .ref n1, .int 0, .ref b1, .ref c1, .ref f1, .ref g1, .long 0, .int 0]))] H := by rw [hHe]; exact hP
  have hS : va_S A s.heap H [] := by rw [hHe]; exact hS
  have hl := lv_entry ([.ref h0]) (n := 1) (Nat.le_of_ble_eq_true rfl)
  rw [lg_entry_eq, ← hHe]
  generalize (lg_sl ([.ref h0]) ++ List.replicate (1 - (lg_sl ([.ref h0])).length) Slot.unset).toArray = ls at hl ⊢
  have hl : lv_has ls 1 [(0, .ref h0)] := hl
  refine lv_aload_n hx hb dX17_isSound_0 rfl (lv_at hl 0 rfl) ?_
  refine lv_iconst (v := 0) hx hb dX17_isSound_1 (by decide) ?_
  refine va_put (D := DG G) (ci := 12) (v := .int 0) (ty := tyX17 0) (C := RX17) (T := TX17) (N := 9) hx hb hts inW_X17 tyX17 tyX17_ok nmX17 hown hK hP hD hS 0 rfl rfl 0 (by decide) (hts _ wm1345) (fun _ h9 => h9) rfl (by decide +kernel) rfl rfl (Nat.le_of_ble_eq_true rfl) dX17_isSound_2 (fun H locs hP hD hS => ?_)
  have hP : va_P (DG G) clP1 [(h0, .inr (12, [.int 0, .ref n1, .int 0, .ref b1, .ref c1, .ref f1, .ref g1, .long 0, .int 0]))] H := hP
  have hD : va_D A [(h0, .inr (12, [.int 0, .ref n1, .int 0, .ref b1, .ref c1, .ref f1, .ref g1, .long 0, .int 0]))] := hD
  refine lv_iconst (v := 1) hx hb dX17_isSound_5 (by decide) ?_
  have hP9 := hP.sub (ws' := [(h0, .inr (12, [.int 0, .ref n1, .int 0, .ref b1, .ref c1, .ref f1, .ref g1, .long 0, .int 0]))]) [0] rfl
  have hD9 := hD.sub (ws' := [(h0, .inr (12, [.int 0, .ref n1, .int 0, .ref b1, .ref c1, .ref f1, .ref g1, .long 0, .int 0]))]) [0] (by decide) rfl
  refine W.widen (k := 0) (n := 0) (Nat.le_of_ble_eq_true rfl) (Nat.le_of_ble_eq_true rfl) ?_
  exact W.zret (v := 1) (ty := .boolean) hx hb hr (by decide) (fun t ht hW => ⟨⟨1, (), rfl, rfl, ⟨by rw [ht]; exact hP9, hD9⟩⟩, hS.F ht⟩) hS.2.2 dX17_isSound_6 hlocks
