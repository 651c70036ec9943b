def f_X10_ofFunctions (fi : TS → FS → US → SS → DS → PS → Int32 → Option (Int32 × TS × FS × US)) (T : TS) (F : FS) (U : US) (S : SS) (D : DS) (P : PS) (p1 : Int32) : Option (Int32 × TS × FS × US) := (Option.bind (g_X9_firstOf T p1) (fun q_1 => (Option.bind (fi T F U S D P q_1) (fun q_2 => (Option.bind (g_X1_formOf q_2.2.1 q_2.2.2.1 q_2.1) (fun q_3 => (Option.bind (g_X9_kindOf q_3.2.1 q_3.1) (fun q_4 => (if q_4 = 0 then (Option.bind (g_X8_push q_2.2.2.2 q_1) (fun q_6 => (if q_6.1 = 0 then some ((-1), q_3.2.1, q_3.2.2, q_6.2) else (Option.bind (g_X9_secondOf q_3.2.1 p1) (fun q_8 => (Option.bind (fi q_3.2.1 q_3.2.2 q_6.2 S D P q_8) (fun q_9 => (Option.bind (g_X1_formOf q_9.2.1 q_9.2.2.1 q_9.1) (fun q_10 => (Option.bind (g_X8_pop q_9.2.2.2) (fun q_11 => (Option.bind (g_X9_kindOf q_10.2.1 q_10.1) (fun q_12 => (if q_12 = 0 then (Option.bind (g_X9_firstOf q_10.2.1 q_3.1) (fun q_14 => (Option.bind (g_X9_firstOf q_10.2.1 q_10.1) (fun q_15 => (Option.bind (g_X9_leaf q_10.2.1 0 (if q_14 < q_15 then q_15 else q_14)) (fun q_16 => some (q_16.1, q_16.2, q_10.2.2, q_11))))))) else some ((-1), q_10.2.1, q_10.2.2, q_11))))))))))))))) else some ((-1), q_3.2.1, q_3.2.2, q_2.2.2.2))))))))))
set_option maxHeartbeats 2000000 in
set_option maxRecDepth 100000 in
theorem k_X10_ofFunctions (l : Launch) (hfl : l.stackTraces = false) (G : GC) (a : AS) (d : Nat) (fi : TS → FS → US → SS → DS → PS → Int32 → Option (Int32 × TS × FS × US)) (hfi : ∀ (T : TS) (F : FS) (U : US) (S : SS) (D : DS) (R : RS) (M : MS) (N : NS) (P : PS) (_ : lkA a D.1.toNatClampNeg D.2.1.toNatClampNeg) (p1 : Int32) (r9 : Int32) (T9 : TS) (F9 : FS) (U9 : US), fi T F U S D P p1 = some (r9, T9, F9, U9) → ∀ (sz : Nat), Met l yX10_find (Cond.code yX10_find cX10_find 4 (some .int) :: W0) ({ frames := 500 + d * 2, cells := 0, slots := 0, locals := 12000 + d * 80 }) (va_Pc [.ref (a.1 24), .int p1] (WD G (wC G a T F U S D R M N P) sz)) (va_Qi (fun (r : Int32) (_ : Unit) => r = r9) (fun _ t => PW G (va_A (wC G a T F U S D R M N P) sz) (wC G a T9 F9 U9 S D R M N P) t) (va_A (wC G a T F U S D R M N P) sz)) 0 0 (va_A (wC G a T F U S D R M N P) sz)) (T : TS) (F : FS) (U : US) (S : SS) (D : DS) (R : RS) (M : MS) (N : NS) (P : PS) (hlk : lkA a D.1.toNatClampNeg D.2.1.toNatClampNeg) (p1 : Int32) (r9 : Int32) (T9 : TS) (F9 : FS) (U9 : US) (hm : f_X10_ofFunctions fi T F U S D P p1 = some (r9, T9, F9, U9)) (sz : Nat) : Met l yX10_ofFunctions (Cond.code yX10_ofFunctions cX10_ofFunctions 6 (some .int) :: W0) ({ frames := 501 + d * 2, cells := 0, slots := 0, locals := 12023 + d * 80 }) (va_Pc [.ref (a.1 24), .int p1] (WD G (wC G a T F U S D R M N P) sz)) (va_Qi (fun (r : Int32) (_ : Unit) => r = r9) (fun _ t => PW G (va_A (wC G a T F U S D R M N P) sz) (wC G a T9 F9 U9 S D R M N P) t) (va_A (wC G a T F U S D R M N P) sz)) 0 0 (va_A (wC G a T F U S D R M N P) sz) := by
  rw [f_X10_ofFunctions] at hm
  refine Met.ofW (cc := cX10_ofFunctions) (maxL := 6) (ret := (some .int)) (by decide) rfl ?_
  intro p e s m args below meth c s₁ B hml hv
  obtain ⟨rfl, hsz, hP, hK, hD0, hE⟩ := hv
  have hx := B.exec
  have hb := B.bytes
  have hr := B.returns
  have hts := w0_tail B.pre
  have hown : s.vm.findClass RX10 = some m.cls := findClass_of_methodNamed B.named
  have hlocks := B.notSynchronized
  have hD := hD0.self (sz := sz)
  obtain ⟨A, hAe⟩ : ∃ A, (va_A (wC G a T F U S D R M N P) sz) = A := ⟨_, rfl⟩
  rw [hAe] at hD hE
  have hA : ∀ q : Nat, s.heap.size ≤ q → A q := fun q h => by rw [← hAe]; exact Or.inr (by rw [← hsz]; exact h)
  have hS : va_S A s.heap s.heap [] := va_S.rf
  obtain ⟨H, hHe⟩ : ∃ H : Heap, H = s.heap := ⟨_, rfl⟩
  have hP : va_P (DG G) clP3 (wC G a T F U S D R M N P) H := by rw [hHe]; exact hP
  have hS : va_S A s.heap H [] := by rw [hHe]; exact hS
  have hl := lv_entry ([.ref (a.1 24), .int p1]) (n := 6) (Nat.le_of_ble_eq_true rfl)
  rw [lg_entry_eq, ← hHe]
  generalize (lg_sl ([.ref (a.1 24), .int p1]) ++ List.replicate (6 - (lg_sl ([.ref (a.1 24), .int p1])).length) Slot.unset).toArray = ls at hl ⊢
  have hl : lv_has ls 6 [(0, .ref (a.1 24)), (1, .int p1)] := hl
  refine lv_aload_n hx hb dX10_ofFunctions_0 rfl (lv_at hl 0 rfl) ?_
  refine va_get (D := DG G) (ci := 9) (v := .ref (a.1 1)) (C := RX10) (T := TX10) (N := 6) hx hb hts inW_X10 hown hK hP 24 rfl rfl 0 (by decide) (hts _ wm195) (fun _ h9 => h9) rfl dX10_ofFunctions_1 ?_
  refine lv_astore_n (lv' := [(2, .ref (a.1 1)), (0, .ref (a.1 24)), (1, .int p1)]) hx hb dX10_ofFunctions_4 rfl hl (by decide) rfl (fun ls hl => ?_)
  refine lv_aload_n hx hb dX10_ofFunctions_5 rfl (lv_at hl 0 rfl) ?_
  refine lv_iload_n hx hb dX10_ofFunctions_6 rfl (lv_at hl 2 rfl) ?_
  obtain ⟨q_1, hq_1, hm⟩ := bind_some hm
  have hFc := free_all hD hS hA
  refine va_calli (va_runV (As := [.int p1]) (rest := []) ⟨hx, hb, hml, hown, hts⟩ (K_X9_firstOf l hfl G a T F U S D R M N P p1  q_1 hq_1 H.size) (cwV 1 hts (gV wm430 wm431 wm432 wm2 wm433) rfl rfl rfl (by decide +kernel) ⟨(by show 0 + 1 ≤ 501 + d * 2; omega), (by show 8 + (2 + 11) + (0) ≤ 12023 + d * 80; omega)⟩) (pre_v (pre_w hK hP hD hS hE hFc) (va_recv hK hP (ci := 8) (q0 := 1) rfl rfl)) rfl rfl hl.1 rfl (lv_room (Nat.le_of_ble_eq_true rfl)) dX10_ofFunctions_7 ⟨Nat.le_of_ble_eq_true rfl, Nat.le_of_ble_eq_true rfl⟩) hS (fun q _ h => hFc q h) hFc (fun r u t H locs ht hvm hw hB hz1 hk1 hS => ?_)
  rw [show r = q_1 from hw]
  have hP : va_P (DG G) clP3 (wC G a T F U S D R M N P) H := by rw [← ht]; exact hB.1
  have hD : va_D A (wC G a T F U S D R M N P) := hB.2.weaken (fun _ p _ h => hFc p.1 h)
  clear hB hFc hw hk1
  refine W.widen (k := 0) (n := 0) (Nat.le_of_ble_eq_true rfl) (Nat.le_of_ble_eq_true rfl) ?_
  refine lv_istore_n (lv' := [(3, .int q_1), (2, .ref (a.1 1)), (0, .ref (a.1 24)), (1, .int p1)]) hx hb dX10_ofFunctions_10 rfl hl (by decide) rfl (fun ls hl => ?_)
  refine lv_aload_n hx hb dX10_ofFunctions_11 rfl (lv_at hl 2 rfl) ?_
  refine va_get (D := DG G) (ci := 9) (v := .ref (a.1 11)) (C := RX10) (T := TX10) (N := 6) hx hb hts inW_X10 hown hK hP 24 rfl rfl 1 (by decide) (hts _ wm196) (fun _ h9 => h9) rfl dX10_ofFunctions_12 ?_
  refine lv_aload_n hx hb dX10_ofFunctions_15 rfl (lv_at hl 2 rfl) ?_
  refine lv_iload_n hx hb dX10_ofFunctions_16 rfl (lv_at hl 0 rfl) ?_
  obtain ⟨q_2, hq_2, hm⟩ := bind_some hm
  have hFc := free_all hD hS hA
  refine va_calli (va_runS (As := [.ref (a.1 24), .int q_1]) (rest := [.ref (a.1 11)]) ⟨hx, hb, hml, hown, hts⟩ (hfi T F U S D R M N P hlk q_1  q_2.1 q_2.2.1 q_2.2.2.1 q_2.2.2.2 hq_2 H.size) (cwS 2 hts (gS wm427 wm428 wm6 wm429) rfl rfl rfl (by decide +kernel) ⟨(by show 500 + d * 2 + 1 ≤ 501 + d * 2; omega), (by show 8 + (4 + 11) + (12000 + d * 80) ≤ 12023 + d * 80; omega)⟩) (pre_w hK hP hD hS hE hFc) rfl rfl hl.1 rfl (lv_room (Nat.le_of_ble_eq_true rfl)) dX10_ofFunctions_17 ⟨Nat.le_of_ble_eq_true rfl, Nat.le_of_ble_eq_true rfl⟩) hS (fun q _ h => hFc q h) hFc (fun r u t H locs ht hvm hw hB hz1 hk1 hS => ?_)
  rw [show r = q_2.1 from hw]
  have hP : va_P (DG G) clP3 (wC G a q_2.2.1 q_2.2.2.1 q_2.2.2.2 S D R M N P) H := by rw [← ht]; exact hB.1
  have hD : va_D A (wC G a q_2.2.1 q_2.2.2.1 q_2.2.2.2 S D R M N P) := hB.2.weaken (fun _ p _ h => hFc p.1 h)
  clear hB hFc hw hk1
  refine W.widen (k := 0) (n := 0) (Nat.le_of_ble_eq_true rfl) (Nat.le_of_ble_eq_true rfl) ?_
  obtain ⟨q_3, hq_3, hm⟩ := bind_some hm
  have hFc := free_all hD hS hA
  refine va_calli (va_runV (As := [.int q_2.1]) (rest := []) ⟨hx, hb, hml, hown, hts⟩ (K_X1_formOf l hfl G a q_2.2.1 q_2.2.2.1 q_2.2.2.2 S D R M N P q_2.1  q_3.1 q_3.2.1 q_3.2.2 hq_3 H.size) (cwV 1 hts (gV wm494 wm495 wm496 wm3 wm497) rfl rfl rfl (by decide +kernel) ⟨(by show 404 + 1 ≤ 501 + d * 2; omega), (by show 8 + (6 + 11) + (10492) ≤ 12023 + d * 80; omega)⟩) (pre_v (pre_w hK hP hD hS hE hFc) (va_recv hK hP (ci := 1) (q0 := 11) rfl rfl)) rfl rfl hl.1 rfl (lv_room (Nat.le_of_ble_eq_true rfl)) dX10_ofFunctions_20 ⟨Nat.le_of_ble_eq_true rfl, Nat.le_of_ble_eq_true rfl⟩) hS (fun q _ h => hFc q h) hFc (fun r u t H locs ht hvm hw hB hz1 hk1 hS => ?_)
  rw [show r = q_3.1 from hw]
  have hP : va_P (DG G) clP3 (wC G a q_3.2.1 q_3.2.2 q_2.2.2.2 S D R M N P) H := by rw [← ht]; exact hB.1
  have hD : va_D A (wC G a q_3.2.1 q_3.2.2 q_2.2.2.2 S D R M N P) := hB.2.weaken (fun _ p _ h => hFc p.1 h)
  clear hB hFc hw hk1
  refine W.widen (k := 0) (n := 0) (Nat.le_of_ble_eq_true rfl) (Nat.le_of_ble_eq_true rfl) ?_
  refine lv_istore (lv' := [(4, .int q_3.1), (3, .int q_1), (2, .ref (a.1 1)), (0, .ref (a.1 24)), (1, .int p1)]) hx hb dX10_ofFunctions_23 hl (by decide) rfl (fun ls hl => ?_)
  refine lv_aload_n hx hb dX10_ofFunctions_25 rfl (lv_at hl 2 rfl) ?_
  refine lv_iload hx hb dX10_ofFunctions_26 (lv_at hl 0 rfl) ?_
  obtain ⟨q_4, hq_4, hm⟩ := bind_some hm
  have hFc := free_all hD hS hA
  refine va_calli (va_runV (As := [.int q_3.1]) (rest := []) ⟨hx, hb, hml, hown, hts⟩ (K_X9_kindOf l hfl G a q_3.2.1 q_3.2.2 q_2.2.2.2 S D R M N P q_3.1  q_4 hq_4 H.size) (cwV 1 hts (gV wm434 wm435 wm436 wm2 wm437) rfl rfl rfl (by decide +kernel) ⟨(by show 0 + 1 ≤ 501 + d * 2; omega), (by show 8 + (2 + 11) + (0) ≤ 12023 + d * 80; omega)⟩) (pre_v (pre_w hK hP hD hS hE hFc) (va_recv hK hP (ci := 8) (q0 := 1) rfl rfl)) rfl rfl hl.1 rfl (lv_room (Nat.le_of_ble_eq_true rfl)) dX10_ofFunctions_28 ⟨Nat.le_of_ble_eq_true rfl, Nat.le_of_ble_eq_true rfl⟩) hS (fun q _ h => hFc q h) hFc (fun r u t H locs ht hvm hw hB hz1 hk1 hS => ?_)
  rw [show r = q_4 from hw]
  have hP : va_P (DG G) clP3 (wC G a q_3.2.1 q_3.2.2 q_2.2.2.2 S D R M N P) H := by rw [← ht]; exact hB.1
  have hD : va_D A (wC G a q_3.2.1 q_3.2.2 q_2.2.2.2 S D R M N P) := hB.2.weaken (fun _ p _ h => hFc p.1 h)
  clear hB hFc hw hk1
  refine W.widen (k := 0) (n := 0) (Nat.le_of_ble_eq_true rfl) (Nat.le_of_ble_eq_true rfl) ?_
  refine lv_if_ne (tgt := 45) hx hb dX10_ofFunctions_31 (by decide) (fun c_5 => ?_) (fun c_5 => ?_)
  · rw [if_neg c_5] at hm
    refine lv_iconst (v := (-1)) hx hb dX10_ofFunctions_45 (by decide) ?_
    simp only [Option.some.injEq, Prod.mk.injEq] at hm
    obtain ⟨rfl, rfl, rfl, rfl⟩ := hm
    refine W.widen (k := 0) (n := 0) (Nat.le_of_ble_eq_true rfl) (Nat.le_of_ble_eq_true rfl) ?_
    exact W.iret (v := (-1)) hx hb hr (fun t ht hW => ⟨⟨(-1), (), rfl, rfl, ⟨by rw [ht]; exact hP, by rw [hAe]; exact hD⟩⟩, by rw [hAe]; exact hS.F ht⟩) (by rw [hAe]; exact hS.2.2) dX10_ofFunctions_46 hlocks
  · rw [if_pos c_5] at hm
    refine lv_aload_n hx hb dX10_ofFunctions_34 rfl (lv_at hl 3 rfl) ?_
    refine va_get (D := DG G) (ci := 9) (v := .ref (a.1 27)) (C := RX10) (T := TX10) (N := 6) hx hb hts inW_X10 hown hK hP 24 rfl rfl 5 (by decide) (hts _ wm200) (fun _ h9 => h9) rfl dX10_ofFunctions_35 ?_
    refine lv_iload_n hx hb dX10_ofFunctions_38 rfl (lv_at hl 1 rfl) ?_
    obtain ⟨q_6, hq_6, hm⟩ := bind_some hm
    have hFc := free_all hD hS hA
    refine va_calli (va_runV (As := [.int q_1]) (rest := []) ⟨hx, hb, hml, hown, hts⟩ (K_X8_push l hfl G a q_3.2.1 q_3.2.2 q_2.2.2.2 S D R M N P q_1  q_6.1 q_6.2 hq_6 H.size) (cwV 1 hts (gV wm541 wm424 wm425 wm7 wm426) rfl rfl rfl (by decide +kernel) ⟨(by show 0 + 1 ≤ 501 + d * 2; omega), (by show 8 + (2 + 11) + (0) ≤ 12023 + d * 80; omega)⟩) (pre_v (pre_w hK hP hD hS hE hFc) (va_recv hK hP (ci := 7) (q0 := 27) rfl rfl)) rfl rfl hl.1 rfl (lv_room (Nat.le_of_ble_eq_true rfl)) dX10_ofFunctions_39 ⟨Nat.le_of_ble_eq_true rfl, Nat.le_of_ble_eq_true rfl⟩) hS (fun q _ h => hFc q h) hFc (fun r u t H locs ht hvm hw hB hz1 hk1 hS => ?_)
    rw [show r = q_6.1 from hw]
    have hP : va_P (DG G) clP3 (wC G a q_3.2.1 q_3.2.2 q_6.2 S D R M N P) H := by rw [← ht]; exact hB.1
    have hD : va_D A (wC G a q_3.2.1 q_3.2.2 q_6.2 S D R M N P) := hB.2.weaken (fun _ p _ h => hFc p.1 h)
    clear hB hFc hw hk1
    refine W.widen (k := 0) (n := 0) (Nat.le_of_ble_eq_true rfl) (Nat.le_of_ble_eq_true rfl) ?_
    refine lv_if_ne (tgt := 47) hx hb dX10_ofFunctions_42 (by decide) (fun c_7 => ?_) (fun c_7 => ?_)
    · rw [if_neg c_7] at hm
      refine lv_aload_n hx hb dX10_ofFunctions_47 rfl (lv_at hl 3 rfl) ?_
      refine va_get (D := DG G) (ci := 9) (v := .ref (a.1 11)) (C := RX10) (T := TX10) (N := 6) hx hb hts inW_X10 hown hK hP 24 rfl rfl 1 (by decide) (hts _ wm196) (fun _ h9 => h9) rfl dX10_ofFunctions_48 ?_
      refine lv_aload_n hx hb dX10_ofFunctions_51 rfl (lv_at hl 3 rfl) ?_
      refine lv_aload_n hx hb dX10_ofFunctions_52 rfl (lv_at hl 2 rfl) ?_
      refine lv_iload_n hx hb dX10_ofFunctions_53 rfl (lv_at hl 4 rfl) ?_
      obtain ⟨q_8, hq_8, hm⟩ := bind_some hm
      have hFc := free_all hD hS hA
      refine va_calli (va_runV (As := [.int p1]) (rest := [.ref (a.1 24), .ref (a.1 11)]) ⟨hx, hb, hml, hown, hts⟩ (K_X9_secondOf l hfl G a q_3.2.1 q_3.2.2 q_6.2 S D R M N P p1  q_8 hq_8 H.size) (cwV 1 hts (gV wm542 wm460 wm461 wm2 wm462) rfl rfl rfl (by decide +kernel) ⟨(by show 0 + 1 ≤ 501 + d * 2; omega), (by show 8 + (2 + 11) + (0) ≤ 12023 + d * 80; omega)⟩) (pre_v (pre_w hK hP hD hS hE hFc) (va_recv hK hP (ci := 8) (q0 := 1) rfl rfl)) rfl rfl hl.1 rfl (lv_room (Nat.le_of_ble_eq_true rfl)) dX10_ofFunctions_54 ⟨Nat.le_of_ble_eq_true rfl, Nat.le_of_ble_eq_true rfl⟩) hS (fun q _ h => hFc q h) hFc (fun r u t H locs ht hvm hw hB hz1 hk1 hS => ?_)
      rw [show r = q_8 from hw]
      have hP : va_P (DG G) clP3 (wC G a q_3.2.1 q_3.2.2 q_6.2 S D R M N P) H := by rw [← ht]; exact hB.1
      have hD : va_D A (wC G a q_3.2.1 q_3.2.2 q_6.2 S D R M N P) := hB.2.weaken (fun _ p _ h => hFc p.1 h)
      clear hB hFc hw hk1
      refine W.widen (k := 0) (n := 0) (Nat.le_of_ble_eq_true rfl) (Nat.le_of_ble_eq_true rfl) ?_
      obtain ⟨q_9, hq_9, hm⟩ := bind_some hm
      have hFc := free_all hD hS hA
      refine va_calli (va_runS (As := [.ref (a.1 24), .int q_8]) (rest := [.ref (a.1 11)]) ⟨hx, hb, hml, hown, hts⟩ (hfi q_3.2.1 q_3.2.2 q_6.2 S D R M N P hlk q_8  q_9.1 q_9.2.1 q_9.2.2.1 q_9.2.2.2 hq_9 H.size) (cwS 2 hts (gS wm427 wm428 wm6 wm429) rfl rfl rfl (by decide +kernel) ⟨(by show 500 + d * 2 + 1 ≤ 501 + d * 2; omega), (by show 8 + (4 + 11) + (12000 + d * 80) ≤ 12023 + d * 80; omega)⟩) (pre_w hK hP hD hS hE hFc) rfl rfl hl.1 rfl (lv_room (Nat.le_of_ble_eq_true rfl)) dX10_ofFunctions_57 ⟨Nat.le_of_ble_eq_true rfl, Nat.le_of_ble_eq_true rfl⟩) hS (fun q _ h => hFc q h) hFc (fun r u t H locs ht hvm hw hB hz1 hk1 hS => ?_)
      rw [show r = q_9.1 from hw]
      have hP : va_P (DG G) clP3 (wC G a q_9.2.1 q_9.2.2.1 q_9.2.2.2 S D R M N P) H := by rw [← ht]; exact hB.1
      have hD : va_D A (wC G a q_9.2.1 q_9.2.2.1 q_9.2.2.2 S D R M N P) := hB.2.weaken (fun _ p _ h => hFc p.1 h)
      clear hB hFc hw hk1
      refine W.widen (k := 0) (n := 0) (Nat.le_of_ble_eq_true rfl) (Nat.le_of_ble_eq_true rfl) ?_
      obtain ⟨q_10, hq_10, hm⟩ := bind_some hm
      have hFc := free_all hD hS hA
      refine va_calli (va_runV (As := [.int q_9.1]) (rest := []) ⟨hx, hb, hml, hown, hts⟩ (K_X1_formOf l hfl G a q_9.2.1 q_9.2.2.1 q_9.2.2.2 S D R M N P q_9.1  q_10.1 q_10.2.1 q_10.2.2 hq_10 H.size) (cwV 1 hts (gV wm494 wm495 wm496 wm3 wm497) rfl rfl rfl (by decide +kernel) ⟨(by show 404 + 1 ≤ 501 + d * 2; omega), (by show 8 + (6 + 11) + (10492) ≤ 12023 + d * 80; omega)⟩) (pre_v (pre_w hK hP hD hS hE hFc) (va_recv hK hP (ci := 1) (q0 := 11) rfl rfl)) rfl rfl hl.1 rfl (lv_room (Nat.le_of_ble_eq_true rfl)) dX10_ofFunctions_60 ⟨Nat.le_of_ble_eq_true rfl, Nat.le_of_ble_eq_true rfl⟩) hS (fun q _ h => hFc q h) hFc (fun r u t H locs ht hvm hw hB hz1 hk1 hS => ?_)
      rw [show r = q_10.1 from hw]
      have hP : va_P (DG G) clP3 (wC G a q_10.2.1 q_10.2.2 q_9.2.2.2 S D R M N P) H := by rw [← ht]; exact hB.1
      have hD : va_D A (wC G a q_10.2.1 q_10.2.2 q_9.2.2.2 S D R M N P) := hB.2.weaken (fun _ p _ h => hFc p.1 h)
      clear hB hFc hw hk1
      refine W.widen (k := 0) (n := 0) (Nat.le_of_ble_eq_true rfl) (Nat.le_of_ble_eq_true rfl) ?_
      refine lv_istore (lv' := [(5, .int q_10.1), (4, .int q_3.1), (3, .int q_1), (2, .ref (a.1 1)), (0, .ref (a.1 24)), (1, .int p1)]) hx hb dX10_ofFunctions_63 hl (by decide) rfl (fun ls hl => ?_)
      refine lv_aload_n hx hb dX10_ofFunctions_65 rfl (lv_at hl 4 rfl) ?_
      refine va_get (D := DG G) (ci := 9) (v := .ref (a.1 27)) (C := RX10) (T := TX10) (N := 6) hx hb hts inW_X10 hown hK hP 24 rfl rfl 5 (by decide) (hts _ wm200) (fun _ h9 => h9) rfl dX10_ofFunctions_66 ?_
      obtain ⟨q_11, hq_11, hm⟩ := bind_some hm
      have hFc := free_all hD hS hA
      refine va_callv (va_runV (As := []) (rest := []) ⟨hx, hb, hml, hown, hts⟩ (K_X8_pop l hfl G a q_10.2.1 q_10.2.2 q_9.2.2.2 S D R M N P   q_11 hq_11 H.size) (cwV 0 hts (gV wm543 wm544 wm545 wm7 wm546) rfl rfl rfl (by decide +kernel) ⟨(by show 0 + 1 ≤ 501 + d * 2; omega), (by show 8 + (1 + 11) + (0) ≤ 12023 + d * 80; omega)⟩) (pre_v (pre_w hK hP hD hS hE hFc) (va_recv hK hP (ci := 7) (q0 := 27) rfl rfl)) rfl rfl hl.1 rfl (lv_room (Nat.le_of_ble_eq_true rfl)) dX10_ofFunctions_69 ⟨Nat.le_of_ble_eq_true rfl, Nat.le_of_ble_eq_true rfl⟩) hS (fun q _ h => hFc q h) hFc (fun u t H locs ht hvm hw hB hz1 hk1 hS => ?_)
      have hP : va_P (DG G) clP3 (wC G a q_10.2.1 q_10.2.2 q_11 S D R M N P) H := by rw [← ht]; exact hB.1
      have hD : va_D A (wC G a q_10.2.1 q_10.2.2 q_11 S D R M N P) := hB.2.weaken (fun _ p _ h => hFc p.1 h)
      clear hB hFc hk1
      refine W.widen (k := 0) (n := 0) (Nat.le_of_ble_eq_true rfl) (Nat.le_of_ble_eq_true rfl) ?_
      refine lv_aload_n hx hb dX10_ofFunctions_72 rfl (lv_at hl 3 rfl) ?_
      refine lv_iload hx hb dX10_ofFunctions_73 (lv_at hl 0 rfl) ?_
      obtain ⟨q_12, hq_12, hm⟩ := bind_some hm
      have hFc := free_all hD hS hA
      refine va_calli (va_runV (As := [.int q_10.1]) (rest := []) ⟨hx, hb, hml, hown, hts⟩ (K_X9_kindOf l hfl G a q_10.2.1 q_10.2.2 q_11 S D R M N P q_10.1  q_12 hq_12 H.size) (cwV 1 hts (gV wm434 wm435 wm436 wm2 wm437) rfl rfl rfl (by decide +kernel) ⟨(by show 0 + 1 ≤ 501 + d * 2; omega), (by show 8 + (2 + 11) + (0) ≤ 12023 + d * 80; omega)⟩) (pre_v (pre_w hK hP hD hS hE hFc) (va_recv hK hP (ci := 8) (q0 := 1) rfl rfl)) rfl rfl hl.1 rfl (lv_room (Nat.le_of_ble_eq_true rfl)) dX10_ofFunctions_75 ⟨Nat.le_of_ble_eq_true rfl, Nat.le_of_ble_eq_true rfl⟩) hS (fun q _ h => hFc q h) hFc (fun r u t H locs ht hvm hw hB hz1 hk1 hS => ?_)
      rw [show r = q_12 from hw]
      have hP : va_P (DG G) clP3 (wC G a q_10.2.1 q_10.2.2 q_11 S D R M N P) H := by rw [← ht]; exact hB.1
      have hD : va_D A (wC G a q_10.2.1 q_10.2.2 q_11 S D R M N P) := hB.2.weaken (fun _ p _ h => hFc p.1 h)
      clear hB hFc hw hk1
      refine W.widen (k := 0) (n := 0) (Nat.le_of_ble_eq_true rfl) (Nat.le_of_ble_eq_true rfl) ?_
      refine lv_if_eq (tgt := 83) hx hb dX10_ofFunctions_78 (by decide) (fun c_13 => ?_) (fun c_13 => ?_)
      · rw [if_pos c_13] at hm
        refine lv_aload_n hx hb dX10_ofFunctions_83 rfl (lv_at hl 3 rfl) ?_
        refine lv_iconst (v := 0) hx hb dX10_ofFunctions_84 (by decide) ?_
        refine lv_aload_n hx hb dX10_ofFunctions_85 rfl (lv_at hl 3 rfl) ?_
        refine lv_iload hx hb dX10_ofFunctions_86 (lv_at hl 1 rfl) ?_
        obtain ⟨q_14, hq_14, hm⟩ := bind_some hm
        have hFc := free_all hD hS hA
        refine va_calli (va_runV (As := [.int q_3.1]) (rest := [.int 0, .ref (a.1 1)]) ⟨hx, hb, hml, hown, hts⟩ (K_X9_firstOf l hfl G a q_10.2.1 q_10.2.2 q_11 S D R M N P q_3.1  q_14 hq_14 H.size) (cwV 1 hts (gV wm430 wm431 wm432 wm2 wm433) rfl rfl rfl (by decide +kernel) ⟨(by show 0 + 1 ≤ 501 + d * 2; omega), (by show 8 + (2 + 11) + (0) ≤ 12023 + d * 80; omega)⟩) (pre_v (pre_w hK hP hD hS hE hFc) (va_recv hK hP (ci := 8) (q0 := 1) rfl rfl)) rfl rfl hl.1 rfl (lv_room (Nat.le_of_ble_eq_true rfl)) dX10_ofFunctions_88 ⟨Nat.le_of_ble_eq_true rfl, Nat.le_of_ble_eq_true rfl⟩) hS (fun q _ h => hFc q h) hFc (fun r u t H locs ht hvm hw hB hz1 hk1 hS => ?_)
        rw [show r = q_14 from hw]
        have hP : va_P (DG G) clP3 (wC G a q_10.2.1 q_10.2.2 q_11 S D R M N P) H := by rw [← ht]; exact hB.1
        have hD : va_D A (wC G a q_10.2.1 q_10.2.2 q_11 S D R M N P) := hB.2.weaken (fun _ p _ h => hFc p.1 h)
        clear hB hFc hw hk1
        refine W.widen (k := 0) (n := 0) (Nat.le_of_ble_eq_true rfl) (Nat.le_of_ble_eq_true rfl) ?_
        refine lv_aload_n hx hb dX10_ofFunctions_91 rfl (lv_at hl 3 rfl) ?_
        refine lv_iload hx hb dX10_ofFunctions_92 (lv_at hl 0 rfl) ?_
        obtain ⟨q_15, hq_15, hm⟩ := bind_some hm
        have hFc := free_all hD hS hA
        refine va_calli (va_runV (As := [.int q_10.1]) (rest := [.int q_14, .int 0, .ref (a.1 1)]) ⟨hx, hb, hml, hown, hts⟩ (K_X9_firstOf l hfl G a q_10.2.1 q_10.2.2 q_11 S D R M N P q_10.1  q_15 hq_15 H.size) (cwV 1 hts (gV wm430 wm431 wm432 wm2 wm433) rfl rfl rfl (by decide +kernel) ⟨(by show 0 + 1 ≤ 501 + d * 2; omega), (by show 8 + (2 + 11) + (0) ≤ 12023 + d * 80; omega)⟩) (pre_v (pre_w hK hP hD hS hE hFc) (va_recv hK hP (ci := 8) (q0 := 1) rfl rfl)) rfl rfl hl.1 rfl (lv_room (Nat.le_of_ble_eq_true rfl)) dX10_ofFunctions_94 ⟨Nat.le_of_ble_eq_true rfl, Nat.le_of_ble_eq_true rfl⟩) hS (fun q _ h => hFc q h) hFc (fun r u t H locs ht hvm hw hB hz1 hk1 hS => ?_)
        rw [show r = q_15 from hw]
        have hP : va_P (DG G) clP3 (wC G a q_10.2.1 q_10.2.2 q_11 S D R M N P) H := by rw [← ht]; exact hB.1
        have hD : va_D A (wC G a q_10.2.1 q_10.2.2 q_11 S D R M N P) := hB.2.weaken (fun _ p _ h => hFc p.1 h)
        clear hB hFc hw hk1
        refine W.widen (k := 0) (n := 0) (Nat.le_of_ble_eq_true rfl) (Nat.le_of_ble_eq_true rfl) ?_
        refine va_mmax hx hb (hml.trans hl.1.symm) hown (hts _ wm547) (hts _ wm182) (hts _ wm8) (hts _ wm183) (by first | exact Nat.le_of_ble_eq_true rfl | (show 1 ≤ 501 + d * 2; omega) | (show 15 ≤ 12023 + d * 80; omega)) (by first | exact Nat.le_of_ble_eq_true rfl | (show 1 ≤ 501 + d * 2; omega) | (show 15 ≤ 12023 + d * 80; omega)) (by first | exact Nat.le_of_ble_eq_true rfl | (show 1 ≤ 501 + d * 2; omega) | (show 15 ≤ 12023 + d * 80; omega)) (by first | exact Nat.le_of_ble_eq_true rfl | (show 1 ≤ 501 + d * 2; omega) | (show 15 ≤ 12023 + d * 80; omega)) dX10_ofFunctions_97 ?_
        obtain ⟨q_16, hq_16, hm⟩ := bind_some hm
        have hFc := free_all hD hS hA
        refine va_calli (va_runV (As := [.int 0, .int (if q_14 < q_15 then q_15 else q_14)]) (rest := []) ⟨hx, hb, hml, hown, hts⟩ (K_X9_leaf l hfl G a q_10.2.1 q_10.2.2 q_11 S D R M N P 0 (if q_14 < q_15 then q_15 else q_14)  q_16.1 q_16.2 hq_16 H.size) (cwV 2 hts (gV wm438 wm439 wm440 wm2 wm441) rfl rfl rfl (by decide +kernel) ⟨(by show 0 + 1 ≤ 501 + d * 2; omega), (by show 8 + (4 + 11) + (0) ≤ 12023 + d * 80; omega)⟩) (pre_v (pre_w hK hP hD hS hE hFc) (va_recv hK hP (ci := 8) (q0 := 1) rfl rfl)) rfl rfl hl.1 rfl (lv_room (Nat.le_of_ble_eq_true rfl)) dX10_ofFunctions_100 ⟨Nat.le_of_ble_eq_true rfl, Nat.le_of_ble_eq_true rfl⟩) hS (fun q _ h => hFc q h) hFc (fun r u t H locs ht hvm hw hB hz1 hk1 hS => ?_)
        rw [show r = q_16.1 from hw]
        have hP : va_P (DG G) clP3 (wC G a q_16.2 q_10.2.2 q_11 S D R M N P) H := by rw [← ht]; exact hB.1
        have hD : va_D A (wC G a q_16.2 q_10.2.2 q_11 S D R M N P) := hB.2.weaken (fun _ p _ h => hFc p.1 h)
        clear hB hFc hw hk1
        refine W.widen (k := 0) (n := 0) (Nat.le_of_ble_eq_true rfl) (Nat.le_of_ble_eq_true rfl) ?_
        simp only [Option.some.injEq, Prod.mk.injEq] at hm
        obtain ⟨rfl, rfl, rfl, rfl⟩ := hm
        refine W.widen (k := 0) (n := 0) (Nat.le_of_ble_eq_true rfl) (Nat.le_of_ble_eq_true rfl) ?_
        exact W.iret (v := q_16.1) hx hb hr (fun t ht hW => ⟨⟨q_16.1, (), rfl, rfl, ⟨by rw [ht]; exact hP, by rw [hAe]; exact hD⟩⟩, by rw [hAe]; exact hS.F ht⟩) (by rw [hAe]; exact hS.2.2) dX10_ofFunctions_103 hlocks
      · rw [if_neg c_13] at hm
        refine lv_iconst (v := (-1)) hx hb dX10_ofFunctions_81 (by decide) ?_
        simp only [Option.some.injEq, Prod.mk.injEq] at hm
        obtain ⟨rfl, rfl, rfl, rfl⟩ := hm
        refine W.widen (k := 0) (n := 0) (Nat.le_of_ble_eq_true rfl) (Nat.le_of_ble_eq_true rfl) ?_
        exact W.iret (v := (-1)) hx hb hr (fun t ht hW => ⟨⟨(-1), (), rfl, rfl, ⟨by rw [ht]; exact hP, by rw [hAe]; exact hD⟩⟩, by rw [hAe]; exact hS.F ht⟩) (by rw [hAe]; exact hS.2.2) dX10_ofFunctions_82 hlocks
    · rw [if_pos c_7] at hm
      refine lv_iconst (v := (-1)) hx hb dX10_ofFunctions_45 (by decide) ?_
      simp only [Option.some.injEq, Prod.mk.injEq] at hm
      obtain ⟨rfl, rfl, rfl, rfl⟩ := hm
      refine W.widen (k := 0) (n := 0) (Nat.le_of_ble_eq_true rfl) (Nat.le_of_ble_eq_true rfl) ?_
      exact W.iret (v := (-1)) hx hb hr (fun t ht hW => ⟨⟨(-1), (), rfl, rfl, ⟨by rw [ht]; exact hP, by rw [hAe]; exact hD⟩⟩, by rw [hAe]; exact hS.F ht⟩) (by rw [hAe]; exact hS.2.2) dX10_ofFunctions_46 hlocks
def f_X10_ofLambda (fi : TS → FS → US → SS → DS → PS → Int32 → Option (Int32 × TS × FS × US)) (T : TS) (F : FS) (U : US) (S : SS) (D : DS) (P : PS) (p1 : Int32) : Option (Int32 × TS × FS × US) := (Option.bind (g_X9_firstOf T p1) (fun q_1 => (Option.bind (fi T F U S D P q_1) (fun q_2 => (Option.bind (g_X1_formOf q_2.2.1 q_2.2.2.1 q_2.1) (fun q_3 => (Option.bind (g_X9_kindOf q_3.2.1 q_3.1) (fun q_4 => (if q_4 = 0 then (Option.bind (g_X8_push q_2.2.2.2 q_1) (fun q_6 => (if q_6.1 = 0 then some ((-1), q_3.2.1, q_3.2.2, q_6.2) else (Option.bind (g_X9_secondOf q_3.2.1 p1) (fun q_8 => (Option.bind (fi q_3.2.1 q_3.2.2 q_6.2 S D P q_8) (fun q_9 => (Option.bind (g_X8_pop q_9.2.2.2) (fun q_10 => (Option.bind (g_X9_pair q_9.2.1 5 q_1 q_9.1) (fun q_11 => some (q_11.1, q_11.2, q_9.2.2.1, q_10)))))))))))) else some ((-1), q_3.2.1, q_3.2.2, q_2.2.2.2))))))))))
set_option maxHeartbeats 2000000 in
set_option maxRecDepth 100000 in
theorem k_X10_ofLambda (l : Launch) (hfl : l.stackTraces = false) (G : GC) (a : AS) (d : Nat) (fi : TS → FS → US → SS → DS → PS → Int32 → Option (Int32 × TS × FS × US)) (hfi : ∀ (T : TS) (F : FS) (U : US) (S : SS) (D : DS) (R : RS) (M : MS) (N : NS) (P : PS) (_ : lkA a D.1.toNatClampNeg D.2.1.toNatClampNeg) (p1 : Int32) (r9 : Int32) (T9 : TS) (F9 : FS) (U9 : US), fi T F U S D P p1 = some (r9, T9, F9, U9) → ∀ (sz : Nat), Met l yX10_find (Cond.code yX10_find cX10_find 4 (some .int) :: W0) ({ frames := 500 + d * 2, cells := 0, slots := 0, locals := 12000 + d * 80 }) (va_Pc [.ref (a.1 24), .int p1] (WD G (wC G a T F U S D R M N P) sz)) (va_Qi (fun (r : Int32) (_ : Unit) => r = r9) (fun _ t => PW G (va_A (wC G a T F U S D R M N P) sz) (wC G a T9 F9 U9 S D R M N P) t) (va_A (wC G a T F U S D R M N P) sz)) 0 0 (va_A (wC G a T F U S D R M N P) sz)) (T : TS) (F : FS) (U : US) (S : SS) (D : DS) (R : RS) (M : MS) (N : NS) (P : PS) (hlk : lkA a D.1.toNatClampNeg D.2.1.toNatClampNeg) (p1 : Int32) (r9 : Int32) (T9 : TS) (F9 : FS) (U9 : US) (hm : f_X10_ofLambda fi T F U S D P p1 = some (r9, T9, F9, U9)) (sz : Nat) : Met l yX10_ofLambda (Cond.code yX10_ofLambda cX10_ofLambda 6 (some .int) :: W0) ({ frames := 501 + d * 2, cells := 0, slots := 0, locals := 12023 + d * 80 }) (va_Pc [.ref (a.1 24), .int p1] (WD G (wC G a T F U S D R M N P) sz)) (va_Qi (fun (r : Int32) (_ : Unit) => r = r9) (fun _ t => PW G (va_A (wC G a T F U S D R M N P) sz) (wC G a T9 F9 U9 S D R M N P) t) (va_A (wC G a T F U S D R M N P) sz)) 0 0 (va_A (wC G a T F U S D R M N P) sz) := by
  rw [f_X10_ofLambda] at hm
  refine Met.ofW (cc := cX10_ofLambda) (maxL := 6) (ret := (some .int)) (by decide) rfl ?_
  intro p e s m args below meth c s₁ B hml hv
  obtain ⟨rfl, hsz, hP, hK, hD0, hE⟩ := hv
  have hx := B.exec
  have hb := B.bytes
  have hr := B.returns
  have hts := w0_tail B.pre
  have hown : s.vm.findClass RX10 = some m.cls := findClass_of_methodNamed B.named
  have hlocks := B.notSynchronized
  have hD := hD0.self (sz := sz)
  obtain ⟨A, hAe⟩ : ∃ A, (va_A (wC G a T F U S D R M N P) sz) = A := ⟨_, rfl⟩
  rw [hAe] at hD hE
  have hA : ∀ q : Nat, s.heap.size ≤ q → A q := fun q h => by rw [← hAe]; exact Or.inr (by rw [← hsz]; exact h)
  have hS : va_S A s.heap s.heap [] := va_S.rf
  obtain ⟨H, hHe⟩ : ∃ H : Heap, H = s.heap := ⟨_, rfl⟩
  have hP : va_P (DG G) clP3 (wC G a T F U S D R M N P) H := by rw [hHe]; exact hP
  have hS : va_S A s.heap H [] := by rw [hHe]; exact hS
  have hl := lv_entry ([.ref (a.1 24), .int p1]) (n := 6) (Nat.le_of_ble_eq_true rfl)
  rw [lg_entry_eq, ← hHe]
  generalize (lg_sl ([.ref (a.1 24), .int p1]) ++ List.replicate (6 - (lg_sl ([.ref (a.1 24), .int p1])).length) Slot.unset).toArray = ls at hl ⊢
  have hl : lv_has ls 6 [(0, .ref (a.1 24)), (1, .int p1)] := hl
  refine lv_aload_n hx hb dX10_ofLambda_0 rfl (lv_at hl 0 rfl) ?_
  refine va_get (D := DG G) (ci := 9) (v := .ref (a.1 1)) (C := RX10) (T := TX10) (N := 6) hx hb hts inW_X10 hown hK hP 24 rfl rfl 0 (by decide) (hts _ wm195) (fun _ h9 => h9) rfl dX10_ofLambda_1 ?_
  refine lv_astore_n (lv' := [(2, .ref (a.1 1)), (0, .ref (a.1 24)), (1, .int p1)]) hx hb dX10_ofLambda_4 rfl hl (by decide) rfl (fun ls hl => ?_)
  refine lv_aload_n hx hb dX10_ofLambda_5 rfl (lv_at hl 0 rfl) ?_
  refine lv_iload_n hx hb dX10_ofLambda_6 rfl (lv_at hl 2 rfl) ?_
  obtain ⟨q_1, hq_1, hm⟩ := bind_some hm
  have hFc := free_all hD hS hA
  refine va_calli (va_runV (As := [.int p1]) (rest := []) ⟨hx, hb, hml, hown, hts⟩ (K_X9_firstOf l hfl G a T F U S D R M N P p1  q_1 hq_1 H.size) (cwV 1 hts (gV wm430 wm431 wm432 wm2 wm433) rfl rfl rfl (by decide +kernel) ⟨(by show 0 + 1 ≤ 501 + d * 2; omega), (by show 8 + (2 + 11) + (0) ≤ 12023 + d * 80; omega)⟩) (pre_v (pre_w hK hP hD hS hE hFc) (va_recv hK hP (ci := 8) (q0 := 1) rfl rfl)) rfl rfl hl.1 rfl (lv_room (Nat.le_of_ble_eq_true rfl)) dX10_ofLambda_7 ⟨Nat.le_of_ble_eq_true rfl, Nat.le_of_ble_eq_true rfl⟩) hS (fun q _ h => hFc q h) hFc (fun r u t H locs ht hvm hw hB hz1 hk1 hS => ?_)
  rw [show r = q_1 from hw]
  have hP : va_P (DG G) clP3 (wC G a T F U S D R M N P) H := by rw [← ht]; exact hB.1
  have hD : va_D A (wC G a T F U S D R M N P) := hB.2.weaken (fun _ p _ h => hFc p.1 h)
  clear hB hFc hw hk1
  refine W.widen (k := 0) (n := 0) (Nat.le_of_ble_eq_true rfl) (Nat.le_of_ble_eq_true rfl) ?_
  refine lv_istore_n (lv' := [(3, .int q_1), (2, .ref (a.1 1)), (0, .ref (a.1 24)), (1, .int p1)]) hx hb dX10_ofLambda_10 rfl hl (by decide) rfl (fun ls hl => ?_)
  refine lv_aload_n hx hb dX10_ofLambda_11 rfl (lv_at hl 2 rfl) ?_
  refine va_get (D := DG G) (ci := 9) (v := .ref (a.1 11)) (C := RX10) (T := TX10) (N := 6) hx hb hts inW_X10 hown hK hP 24 rfl rfl 1 (by decide) (hts _ wm196) (fun _ h9 => h9) rfl dX10_ofLambda_12 ?_
  refine lv_aload_n hx hb dX10_ofLambda_15 rfl (lv_at hl 2 rfl) ?_
  refine lv_iload_n hx hb dX10_ofLambda_16 rfl (lv_at hl 0 rfl) ?_
  obtain ⟨q_2, hq_2, hm⟩ := bind_some hm
  have hFc := free_all hD hS hA
  refine va_calli (va_runS (As := [.ref (a.1 24), .int q_1]) (rest := [.ref (a.1 11)]) ⟨hx, hb, hml, hown, hts⟩ (hfi T F U S D R M N P hlk q_1  q_2.1 q_2.2.1 q_2.2.2.1 q_2.2.2.2 hq_2 H.size) (cwS 2 hts (gS wm427 wm428 wm6 wm429) rfl rfl rfl (by decide +kernel) ⟨(by show 500 + d * 2 + 1 ≤ 501 + d * 2; omega), (by show 8 + (4 + 11) + (12000 + d * 80) ≤ 12023 + d * 80; omega)⟩) (pre_w hK hP hD hS hE hFc) rfl rfl hl.1 rfl (lv_room (Nat.le_of_ble_eq_true rfl)) dX10_ofLambda_17 ⟨Nat.le_of_ble_eq_true rfl, Nat.le_of_ble_eq_true rfl⟩) hS (fun q _ h => hFc q h) hFc (fun r u t H locs ht hvm hw hB hz1 hk1 hS => ?_)
  rw [show r = q_2.1 from hw]
  have hP : va_P (DG G) clP3 (wC G a q_2.2.1 q_2.2.2.1 q_2.2.2.2 S D R M N P) H := by rw [← ht]; exact hB.1
  have hD : va_D A (wC G a q_2.2.1 q_2.2.2.1 q_2.2.2.2 S D R M N P) := hB.2.weaken (fun _ p _ h => hFc p.1 h)
  clear hB hFc hw hk1
  refine W.widen (k := 0) (n := 0) (Nat.le_of_ble_eq_true rfl) (Nat.le_of_ble_eq_true rfl) ?_
  obtain ⟨q_3, hq_3, hm⟩ := bind_some hm
  have hFc := free_all hD hS hA
  refine va_calli (va_runV (As := [.int q_2.1]) (rest := []) ⟨hx, hb, hml, hown, hts⟩ (K_X1_formOf l hfl G a q_2.2.1 q_2.2.2.1 q_2.2.2.2 S D R M N P q_2.1  q_3.1 q_3.2.1 q_3.2.2 hq_3 H.size) (cwV 1 hts (gV wm494 wm495 wm496 wm3 wm497) rfl rfl rfl (by decide +kernel) ⟨(by show 404 + 1 ≤ 501 + d * 2; omega), (by show 8 + (6 + 11) + (10492) ≤ 12023 + d * 80; omega)⟩) (pre_v (pre_w hK hP hD hS hE hFc) (va_recv hK hP (ci := 1) (q0 := 11) rfl rfl)) rfl rfl hl.1 rfl (lv_room (Nat.le_of_ble_eq_true rfl)) dX10_ofLambda_20 ⟨Nat.le_of_ble_eq_true rfl, Nat.le_of_ble_eq_true rfl⟩) hS (fun q _ h => hFc q h) hFc (fun r u t H locs ht hvm hw hB hz1 hk1 hS => ?_)
  rw [show r = q_3.1 from hw]
  have hP : va_P (DG G) clP3 (wC G a q_3.2.1 q_3.2.2 q_2.2.2.2 S D R M N P) H := by rw [← ht]; exact hB.1
  have hD : va_D A (wC G a q_3.2.1 q_3.2.2 q_2.2.2.2 S D R M N P) := hB.2.weaken (fun _ p _ h => hFc p.1 h)
  clear hB hFc hw hk1
  refine W.widen (k := 0) (n := 0) (Nat.le_of_ble_eq_true rfl) (Nat.le_of_ble_eq_true rfl) ?_
  refine lv_istore (lv' := [(4, .int q_3.1), (3, .int q_1), (2, .ref (a.1 1)), (0, .ref (a.1 24)), (1, .int p1)]) hx hb dX10_ofLambda_23 hl (by decide) rfl (fun ls hl => ?_)
  refine lv_aload_n hx hb dX10_ofLambda_25 rfl (lv_at hl 2 rfl) ?_
  refine lv_iload hx hb dX10_ofLambda_26 (lv_at hl 0 rfl) ?_
  obtain ⟨q_4, hq_4, hm⟩ := bind_some hm
  have hFc := free_all hD hS hA
  refine va_calli (va_runV (As := [.int q_3.1]) (rest := []) ⟨hx, hb, hml, hown, hts⟩ (K_X9_kindOf l hfl G a q_3.2.1 q_3.2.2 q_2.2.2.2 S D R M N P q_3.1  q_4 hq_4 H.size) (cwV 1 hts (gV wm434 wm435 wm436 wm2 wm437) rfl rfl rfl (by decide +kernel) ⟨(by show 0 + 1 ≤ 501 + d * 2; omega), (by show 8 + (2 + 11) + (0) ≤ 12023 + d * 80; omega)⟩) (pre_v (pre_w hK hP hD hS hE hFc) (va_recv hK hP (ci := 8) (q0 := 1) rfl rfl)) rfl rfl hl.1 rfl (lv_room (Nat.le_of_ble_eq_true rfl)) dX10_ofLambda_28 ⟨Nat.le_of_ble_eq_true rfl, Nat.le_of_ble_eq_true rfl⟩) hS (fun q _ h => hFc q h) hFc (fun r u t H locs ht hvm hw hB hz1 hk1 hS => ?_)
  rw [show r = q_4 from hw]
  have hP : va_P (DG G) clP3 (wC G a q_3.2.1 q_3.2.2 q_2.2.2.2 S D R M N P) H := by rw [← ht]; exact hB.1
  have hD : va_D A (wC G a q_3.2.1 q_3.2.2 q_2.2.2.2 S D R M N P) := hB.2.weaken (fun _ p _ h => hFc p.1 h)
  clear hB hFc hw hk1
  refine W.widen (k := 0) (n := 0) (Nat.le_of_ble_eq_true rfl) (Nat.le_of_ble_eq_true rfl) ?_
  refine lv_if_ne (tgt := 45) hx hb dX10_ofLambda_31 (by decide) (fun c_5 => ?_) (fun c_5 => ?_)
  · rw [if_neg c_5] at hm
    refine lv_iconst (v := (-1)) hx hb dX10_ofLambda_45 (by decide) ?_
    simp only [Option.some.injEq, Prod.mk.injEq] at hm
    obtain ⟨rfl, rfl, rfl, rfl⟩ := hm
    refine W.widen (k := 0) (n := 0) (Nat.le_of_ble_eq_true rfl) (Nat.le_of_ble_eq_true rfl) ?_
    exact W.iret (v := (-1)) hx hb hr (fun t ht hW => ⟨⟨(-1), (), rfl, rfl, ⟨by rw [ht]; exact hP, by rw [hAe]; exact hD⟩⟩, by rw [hAe]; exact hS.F ht⟩) (by rw [hAe]; exact hS.2.2) dX10_ofLambda_46 hlocks
  · rw [if_pos c_5] at hm
    refine lv_aload_n hx hb dX10_ofLambda_34 rfl (lv_at hl 3 rfl) ?_
    refine va_get (D := DG G) (ci := 9) (v := .ref (a.1 27)) (C := RX10) (T := TX10) (N := 6) hx hb hts inW_X10 hown hK hP 24 rfl rfl 5 (by decide) (hts _ wm200) (fun _ h9 => h9) rfl dX10_ofLambda_35 ?_
    refine lv_iload_n hx hb dX10_ofLambda_38 rfl (lv_at hl 1 rfl) ?_
    obtain ⟨q_6, hq_6, hm⟩ := bind_some hm
    have hFc := free_all hD hS hA
    refine va_calli (va_runV (As := [.int q_1]) (rest := []) ⟨hx, hb, hml, hown, hts⟩ (K_X8_push l hfl G a q_3.2.1 q_3.2.2 q_2.2.2.2 S D R M N P q_1  q_6.1 q_6.2 hq_6 H.size) (cwV 1 hts (gV wm541 wm424 wm425 wm7 wm426) rfl rfl rfl (by decide +kernel) ⟨(by show 0 + 1 ≤ 501 + d * 2; omega), (by show 8 + (2 + 11) + (0) ≤ 12023 + d * 80; omega)⟩) (pre_v (pre_w hK hP hD hS hE hFc) (va_recv hK hP (ci := 7) (q0 := 27) rfl rfl)) rfl rfl hl.1 rfl (lv_room (Nat.le_of_ble_eq_true rfl)) dX10_ofLambda_39 ⟨Nat.le_of_ble_eq_true rfl, Nat.le_of_ble_eq_true rfl⟩) hS (fun q _ h => hFc q h) hFc (fun r u t H locs ht hvm hw hB hz1 hk1 hS => ?_)
    rw [show r = q_6.1 from hw]
    have hP : va_P (DG G) clP3 (wC G a q_3.2.1 q_3.2.2 q_6.2 S D R M N P) H := by rw [← ht]; exact hB.1
    have hD : va_D A (wC G a q_3.2.1 q_3.2.2 q_6.2 S D R M N P) := hB.2.weaken (fun _ p _ h => hFc p.1 h)
    clear hB hFc hw hk1
    refine W.widen (k := 0) (n := 0) (Nat.le_of_ble_eq_true rfl) (Nat.le_of_ble_eq_true rfl) ?_
    refine lv_if_ne (tgt := 47) hx hb dX10_ofLambda_42 (by decide) (fun c_7 => ?_) (fun c_7 => ?_)
    · rw [if_neg c_7] at hm
      refine lv_aload_n hx hb dX10_ofLambda_47 rfl (lv_at hl 3 rfl) ?_
      refine lv_aload_n hx hb dX10_ofLambda_48 rfl (lv_at hl 2 rfl) ?_
      refine lv_iload_n hx hb dX10_ofLambda_49 rfl (lv_at hl 4 rfl) ?_
      obtain ⟨q_8, hq_8, hm⟩ := bind_some hm
      have hFc := free_all hD hS hA
      refine va_calli (va_runV (As := [.int p1]) (rest := [.ref (a.1 24)]) ⟨hx, hb, hml, hown, hts⟩ (K_X9_secondOf l hfl G a q_3.2.1 q_3.2.2 q_6.2 S D R M N P p1  q_8 hq_8 H.size) (cwV 1 hts (gV wm542 wm460 wm461 wm2 wm462) rfl rfl rfl (by decide +kernel) ⟨(by show 0 + 1 ≤ 501 + d * 2; omega), (by show 8 + (2 + 11) + (0) ≤ 12023 + d * 80; omega)⟩) (pre_v (pre_w hK hP hD hS hE hFc) (va_recv hK hP (ci := 8) (q0 := 1) rfl rfl)) rfl rfl hl.1 rfl (lv_room (Nat.le_of_ble_eq_true rfl)) dX10_ofLambda_50 ⟨Nat.le_of_ble_eq_true rfl, Nat.le_of_ble_eq_true rfl⟩) hS (fun q _ h => hFc q h) hFc (fun r u t H locs ht hvm hw hB hz1 hk1 hS => ?_)
      rw [show r = q_8 from hw]
      have hP : va_P (DG G) clP3 (wC G a q_3.2.1 q_3.2.2 q_6.2 S D R M N P) H := by rw [← ht]; exact hB.1
      have hD : va_D A (wC G a q_3.2.1 q_3.2.2 q_6.2 S D R M N P) := hB.2.weaken (fun _ p _ h => hFc p.1 h)
      clear hB hFc hw hk1
      refine W.widen (k := 0) (n := 0) (Nat.le_of_ble_eq_true rfl) (Nat.le_of_ble_eq_true rfl) ?_
      obtain ⟨q_9, hq_9, hm⟩ := bind_some hm
      have hFc := free_all hD hS hA
      refine va_calli (va_runS (As := [.ref (a.1 24), .int q_8]) (rest := []) ⟨hx, hb, hml, hown, hts⟩ (hfi q_3.2.1 q_3.2.2 q_6.2 S D R M N P hlk q_8  q_9.1 q_9.2.1 q_9.2.2.1 q_9.2.2.2 hq_9 H.size) (cwS 2 hts (gS wm427 wm428 wm6 wm429) rfl rfl rfl (by decide +kernel) ⟨(by show 500 + d * 2 + 1 ≤ 501 + d * 2; omega), (by show 8 + (4 + 11) + (12000 + d * 80) ≤ 12023 + d * 80; omega)⟩) (pre_w hK hP hD hS hE hFc) rfl rfl hl.1 rfl (lv_room (Nat.le_of_ble_eq_true rfl)) dX10_ofLambda_53 ⟨Nat.le_of_ble_eq_true rfl, Nat.le_of_ble_eq_true rfl⟩) hS (fun q _ h => hFc q h) hFc (fun r u t H locs ht hvm hw hB hz1 hk1 hS => ?_)
      rw [show r = q_9.1 from hw]
      have hP : va_P (DG G) clP3 (wC G a q_9.2.1 q_9.2.2.1 q_9.2.2.2 S D R M N P) H := by rw [← ht]; exact hB.1
      have hD : va_D A (wC G a q_9.2.1 q_9.2.2.1 q_9.2.2.2 S D R M N P) := hB.2.weaken (fun _ p _ h => hFc p.1 h)
      clear hB hFc hw hk1
      refine W.widen (k := 0) (n := 0) (Nat.le_of_ble_eq_true rfl) (Nat.le_of_ble_eq_true rfl) ?_
      refine lv_istore (lv' := [(5, .int q_9.1), (4, .int q_3.1), (3, .int q_1), (2, .ref (a.1 1)), (0, .ref (a.1 24)), (1, .int p1)]) hx hb dX10_ofLambda_56 hl (by decide) rfl (fun ls hl => ?_)
      refine lv_aload_n hx hb dX10_ofLambda_58 rfl (lv_at hl 4 rfl) ?_
      refine va_get (D := DG G) (ci := 9) (v := .ref (a.1 27)) (C := RX10) (T := TX10) (N := 6) hx hb hts inW_X10 hown hK hP 24 rfl rfl 5 (by decide) (hts _ wm200) (fun _ h9 => h9) rfl dX10_ofLambda_59 ?_
      obtain ⟨q_10, hq_10, hm⟩ := bind_some hm
      have hFc := free_all hD hS hA
      refine va_callv (va_runV (As := []) (rest := []) ⟨hx, hb, hml, hown, hts⟩ (K_X8_pop l hfl G a q_9.2.1 q_9.2.2.1 q_9.2.2.2 S D R M N P   q_10 hq_10 H.size) (cwV 0 hts (gV wm543 wm544 wm545 wm7 wm546) rfl rfl rfl (by decide +kernel) ⟨(by show 0 + 1 ≤ 501 + d * 2; omega), (by show 8 + (1 + 11) + (0) ≤ 12023 + d * 80; omega)⟩) (pre_v (pre_w hK hP hD hS hE hFc) (va_recv hK hP (ci := 7) (q0 := 27) rfl rfl)) rfl rfl hl.1 rfl (lv_room (Nat.le_of_ble_eq_true rfl)) dX10_ofLambda_62 ⟨Nat.le_of_ble_eq_true rfl, Nat.le_of_ble_eq_true rfl⟩) hS (fun q _ h => hFc q h) hFc (fun u t H locs ht hvm hw hB hz1 hk1 hS => ?_)
      have hP : va_P (DG G) clP3 (wC G a q_9.2.1 q_9.2.2.1 q_10 S D R M N P) H := by rw [← ht]; exact hB.1
      have hD : va_D A (wC G a q_9.2.1 q_9.2.2.1 q_10 S D R M N P) := hB.2.weaken (fun _ p _ h => hFc p.1 h)
      clear hB hFc hk1
      refine W.widen (k := 0) (n := 0) (Nat.le_of_ble_eq_true rfl) (Nat.le_of_ble_eq_true rfl) ?_
      refine lv_aload_n hx hb dX10_ofLambda_65 rfl (lv_at hl 3 rfl) ?_
      refine lv_iconst (v := 5) hx hb dX10_ofLambda_66 (by decide) ?_
      refine lv_iload_n hx hb dX10_ofLambda_67 rfl (lv_at hl 2 rfl) ?_
      refine lv_iload hx hb dX10_ofLambda_68 (lv_at hl 0 rfl) ?_
      obtain ⟨q_11, hq_11, hm⟩ := bind_some hm
      have hFc := free_all hD hS hA
      refine va_calli (va_runV (As := [.int 5, .int q_1, .int q_9.1]) (rest := []) ⟨hx, hb, hml, hown, hts⟩ (K_X9_pair l hfl G a q_9.2.1 q_9.2.2.1 q_10 S D R M N P 5 q_1 q_9.1  q_11.1 q_11.2 hq_11 H.size) (cwV 3 hts (gV wm551 wm464 wm465 wm2 wm466) rfl rfl rfl (by decide +kernel) ⟨(by show 1 + 1 ≤ 501 + d * 2; omega), (by show 8 + (6 + 11) + (15) ≤ 12023 + d * 80; omega)⟩) (pre_v (pre_w hK hP hD hS hE hFc) (va_recv hK hP (ci := 8) (q0 := 1) rfl rfl)) rfl rfl hl.1 rfl (lv_room (Nat.le_of_ble_eq_true rfl)) dX10_ofLambda_70 ⟨Nat.le_of_ble_eq_true rfl, Nat.le_of_ble_eq_true rfl⟩) hS (fun q _ h => hFc q h) hFc (fun r u t H locs ht hvm hw hB hz1 hk1 hS => ?_)
      rw [show r = q_11.1 from hw]
      have hP : va_P (DG G) clP3 (wC G a q_11.2 q_9.2.2.1 q_10 S D R M N P) H := by rw [← ht]; exact hB.1
      have hD : va_D A (wC G a q_11.2 q_9.2.2.1 q_10 S D R M N P) := hB.2.weaken (fun _ p _ h => hFc p.1 h)
      clear hB hFc hw hk1
      refine W.widen (k := 0) (n := 0) (Nat.le_of_ble_eq_true rfl) (Nat.le_of_ble_eq_true rfl) ?_
      simp only [Option.some.injEq, Prod.mk.injEq] at hm
      obtain ⟨rfl, rfl, rfl, rfl⟩ := hm
      refine W.widen (k := 0) (n := 0) (Nat.le_of_ble_eq_true rfl) (Nat.le_of_ble_eq_true rfl) ?_
      exact W.iret (v := q_11.1) hx hb hr (fun t ht hW => ⟨⟨q_11.1, (), rfl, rfl, ⟨by rw [ht]; exact hP, by rw [hAe]; exact hD⟩⟩, by rw [hAe]; exact hS.F ht⟩) (by rw [hAe]; exact hS.2.2) dX10_ofLambda_73 hlocks
    · rw [if_pos c_7] at hm
      refine lv_iconst (v := (-1)) hx hb dX10_ofLambda_45 (by decide) ?_
      simp only [Option.some.injEq, Prod.mk.injEq] at hm
      obtain ⟨rfl, rfl, rfl, rfl⟩ := hm
      refine W.widen (k := 0) (n := 0) (Nat.le_of_ble_eq_true rfl) (Nat.le_of_ble_eq_true rfl) ?_
      exact W.iret (v := (-1)) hx hb hr (fun t ht hW => ⟨⟨(-1), (), rfl, rfl, ⟨by rw [ht]; exact hP, by rw [hAe]; exact hD⟩⟩, by rw [hAe]; exact hS.F ht⟩) (by rw [hAe]; exact hS.2.2) dX10_ofLambda_46 hlocks
def f_X10_ofApplication (fi : TS → FS → US → SS → DS → PS → Int32 → Option (Int32 × TS × FS × US)) (T : TS) (F : FS) (U : US) (S : SS) (D : DS) (P : PS) (p1 : Int32) : Option (Int32 × TS × FS × US) := (Option.bind (g_X9_secondOf T p1) (fun q_1 => (Option.bind (g_X9_firstOf T p1) (fun q_2 => (Option.bind (fi T F U S D P q_2) (fun q_3 => (Option.bind (g_X1_formOf q_3.2.1 q_3.2.2.1 q_3.1) (fun q_4 => (Option.bind (g_X9_kindOf q_4.2.1 q_4.1) (fun q_5 => (if q_5 = 5 then (Option.bind (g_X9_mark q_4.2.1) (fun q_7 => (Option.bind (fi q_4.2.1 q_4.2.2 q_3.2.2.2 S D P q_1) (fun q_8 => (Option.bind (g_X1_formOf q_8.2.1 q_8.2.2.1 q_8.1) (fun q_9 => (Option.bind (g_X9_firstOf q_9.2.1 q_4.1) (fun q_10 => (Option.bind (g_X6_same q_9.2.1 q_9.1 q_10) (fun q_11 => (Option.bind (g_X9_release q_9.2.1 q_7) (fun q_12 => (if q_11 = 0 then some ((-1), q_12, q_9.2.2, q_8.2.2.2) else (Option.bind (g_X9_secondOf q_12 q_4.1) (fun q_14 => (Option.bind (g_X6_put q_12 q_14 q_1 0) (fun q_15 => some (q_15.1, q_15.2, q_9.2.2, q_8.2.2.2)))))))))))))))))) else some ((-1), q_4.2.1, q_4.2.2, q_3.2.2.2))))))))))))
set_option maxHeartbeats 2000000 in
set_option maxRecDepth 100000 in
theorem k_X10_ofApplication (l : Launch) (hfl : l.stackTraces = false) (G : GC) (a : AS) (d : Nat) (fi : TS → FS → US → SS → DS → PS → Int32 → Option (Int32 × TS × FS × US)) (hfi : ∀ (T : TS) (F : FS) (U : US) (S : SS) (D : DS) (R : RS) (M : MS) (N : NS) (P : PS) (_ : lkA a D.1.toNatClampNeg D.2.1.toNatClampNeg) (p1 : Int32) (r9 : Int32) (T9 : TS) (F9 : FS) (U9 : US), fi T F U S D P p1 = some (r9, T9, F9, U9) → ∀ (sz : Nat), Met l yX10_find (Cond.code yX10_find cX10_find 4 (some .int) :: W0) ({ frames := 500 + d * 2, cells := 0, slots := 0, locals := 12000 + d * 80 }) (va_Pc [.ref (a.1 24), .int p1] (WD G (wC G a T F U S D R M N P) sz)) (va_Qi (fun (r : Int32) (_ : Unit) => r = r9) (fun _ t => PW G (va_A (wC G a T F U S D R M N P) sz) (wC G a T9 F9 U9 S D R M N P) t) (va_A (wC G a T F U S D R M N P) sz)) 0 0 (va_A (wC G a T F U S D R M N P) sz)) (T : TS) (F : FS) (U : US) (S : SS) (D : DS) (R : RS) (M : MS) (N : NS) (P : PS) (hlk : lkA a D.1.toNatClampNeg D.2.1.toNatClampNeg) (p1 : Int32) (r9 : Int32) (T9 : TS) (F9 : FS) (U9 : US) (hm : f_X10_ofApplication fi T F U S D P p1 = some (r9, T9, F9, U9)) (sz : Nat) : Met l yX10_ofApplication (Cond.code yX10_ofApplication cX10_ofApplication 7 (some .int) :: W0) ({ frames := 501 + d * 2, cells := 0, slots := 0, locals := 12023 + d * 80 }) (va_Pc [.ref (a.1 24), .int p1] (WD G (wC G a T F U S D R M N P) sz)) (va_Qi (fun (r : Int32) (_ : Unit) => r = r9) (fun _ t => PW G (va_A (wC G a T F U S D R M N P) sz) (wC G a T9 F9 U9 S D R M N P) t) (va_A (wC G a T F U S D R M N P) sz)) 0 0 (va_A (wC G a T F U S D R M N P) sz) := by
  rw [f_X10_ofApplication] at hm
  refine Met.ofW (cc := cX10_ofApplication) (maxL := 7) (ret := (some .int)) (by decide) rfl ?_
  intro p e s m args below meth c s₁ B hml hv
  obtain ⟨rfl, hsz, hP, hK, hD0, hE⟩ := hv
  have hx := B.exec
  have hb := B.bytes
  have hr := B.returns
  have hts := w0_tail B.pre
  have hown : s.vm.findClass RX10 = some m.cls := findClass_of_methodNamed B.named
  have hlocks := B.notSynchronized
  have hD := hD0.self (sz := sz)
  obtain ⟨A, hAe⟩ : ∃ A, (va_A (wC G a T F U S D R M N P) sz) = A := ⟨_, rfl⟩
  rw [hAe] at hD hE
  have hA : ∀ q : Nat, s.heap.size ≤ q → A q := fun q h => by rw [← hAe]; exact Or.inr (by rw [← hsz]; exact h)
  have hS : va_S A s.heap s.heap [] := va_S.rf
  obtain ⟨H, hHe⟩ : ∃ H : Heap, H = s.heap := ⟨_, rfl⟩
  have hP : va_P (DG G) clP3 (wC G a T F U S D R M N P) H := by rw [hHe]; exact hP
  have hS : va_S A s.heap H [] := by rw [hHe]; exact hS
  have hl := lv_entry ([.ref (a.1 24), .int p1]) (n := 7) (Nat.le_of_ble_eq_true rfl)
  rw [lg_entry_eq, ← hHe]
  generalize (lg_sl ([.ref (a.1 24), .int p1]) ++ List.replicate (7 - (lg_sl ([.ref (a.1 24), .int p1])).length) Slot.unset).toArray = ls at hl ⊢
  have hl : lv_has ls 7 [(0, .ref (a.1 24)), (1, .int p1)] := hl
  refine lv_aload_n hx hb dX10_ofApplication_0 rfl (lv_at hl 0 rfl) ?_
  refine va_get (D := DG G) (ci := 9) (v := .ref (a.1 1)) (C := RX10) (T := TX10) (N := 6) hx hb hts inW_X10 hown hK hP 24 rfl rfl 0 (by decide) (hts _ wm195) (fun _ h9 => h9) rfl dX10_ofApplication_1 ?_
  refine lv_astore_n (lv' := [(2, .ref (a.1 1)), (0, .ref (a.1 24)), (1, .int p1)]) hx hb dX10_ofApplication_4 rfl hl (by decide) rfl (fun ls hl => ?_)
  refine lv_aload_n hx hb dX10_ofApplication_5 rfl (lv_at hl 0 rfl) ?_
  refine lv_iload_n hx hb dX10_ofApplication_6 rfl (lv_at hl 2 rfl) ?_
  obtain ⟨q_1, hq_1, hm⟩ := bind_some hm
  have hFc := free_all hD hS hA
  refine va_calli (va_runV (As := [.int p1]) (rest := []) ⟨hx, hb, hml, hown, hts⟩ (K_X9_secondOf l hfl G a T F U S D R M N P p1  q_1 hq_1 H.size) (cwV 1 hts (gV wm542 wm460 wm461 wm2 wm462) rfl rfl rfl (by decide +kernel) ⟨(by show 0 + 1 ≤ 501 + d * 2; omega), (by show 8 + (2 + 11) + (0) ≤ 12023 + d * 80; omega)⟩) (pre_v (pre_w hK hP hD hS hE hFc) (va_recv hK hP (ci := 8) (q0 := 1) rfl rfl)) rfl rfl hl.1 rfl (lv_room (Nat.le_of_ble_eq_true rfl)) dX10_ofApplication_7 ⟨Nat.le_of_ble_eq_true rfl, Nat.le_of_ble_eq_true rfl⟩) hS (fun q _ h => hFc q h) hFc (fun r u t H locs ht hvm hw hB hz1 hk1 hS => ?_)
  rw [show r = q_1 from hw]
  have hP : va_P (DG G) clP3 (wC G a T F U S D R M N P) H := by rw [← ht]; exact hB.1
  have hD : va_D A (wC G a T F U S D R M N P) := hB.2.weaken (fun _ p _ h => hFc p.1 h)
  clear hB hFc hw hk1
  refine W.widen (k := 0) (n := 0) (Nat.le_of_ble_eq_true rfl) (Nat.le_of_ble_eq_true rfl) ?_
  refine lv_istore_n (lv' := [(3, .int q_1), (2, .ref (a.1 1)), (0, .ref (a.1 24)), (1, .int p1)]) hx hb dX10_ofApplication_10 rfl hl (by decide) rfl (fun ls hl => ?_)
  refine lv_aload_n hx hb dX10_ofApplication_11 rfl (lv_at hl 2 rfl) ?_
  refine va_get (D := DG G) (ci := 9) (v := .ref (a.1 11)) (C := RX10) (T := TX10) (N := 6) hx hb hts inW_X10 hown hK hP 24 rfl rfl 1 (by decide) (hts _ wm196) (fun _ h9 => h9) rfl dX10_ofApplication_12 ?_
  refine lv_aload_n hx hb dX10_ofApplication_15 rfl (lv_at hl 2 rfl) ?_
  refine lv_aload_n hx hb dX10_ofApplication_16 rfl (lv_at hl 1 rfl) ?_
  refine lv_iload_n hx hb dX10_ofApplication_17 rfl (lv_at hl 3 rfl) ?_
  obtain ⟨q_2, hq_2, hm⟩ := bind_some hm
  have hFc := free_all hD hS hA
  refine va_calli (va_runV (As := [.int p1]) (rest := [.ref (a.1 24), .ref (a.1 11)]) ⟨hx, hb, hml, hown, hts⟩ (K_X9_firstOf l hfl G a T F U S D R M N P p1  q_2 hq_2 H.size) (cwV 1 hts (gV wm430 wm431 wm432 wm2 wm433) rfl rfl rfl (by decide +kernel) ⟨(by show 0 + 1 ≤ 501 + d * 2; omega), (by show 8 + (2 + 11) + (0) ≤ 12023 + d * 80; omega)⟩) (pre_v (pre_w hK hP hD hS hE hFc) (va_recv hK hP (ci := 8) (q0 := 1) rfl rfl)) rfl rfl hl.1 rfl (lv_room (Nat.le_of_ble_eq_true rfl)) dX10_ofApplication_18 ⟨Nat.le_of_ble_eq_true rfl, Nat.le_of_ble_eq_true rfl⟩) hS (fun q _ h => hFc q h) hFc (fun r u t H locs ht hvm hw hB hz1 hk1 hS => ?_)
  rw [show r = q_2 from hw]
  have hP : va_P (DG G) clP3 (wC G a T F U S D R M N P) H := by rw [← ht]; exact hB.1
  have hD : va_D A (wC G a T F U S D R M N P) := hB.2.weaken (fun _ p _ h => hFc p.1 h)
  clear hB hFc hw hk1
  refine W.widen (k := 0) (n := 0) (Nat.le_of_ble_eq_true rfl) (Nat.le_of_ble_eq_true rfl) ?_
  obtain ⟨q_3, hq_3, hm⟩ := bind_some hm
  have hFc := free_all hD hS hA
  refine va_calli (va_runS (As := [.ref (a.1 24), .int q_2]) (rest := [.ref (a.1 11)]) ⟨hx, hb, hml, hown, hts⟩ (hfi T F U S D R M N P hlk q_2  q_3.1 q_3.2.1 q_3.2.2.1 q_3.2.2.2 hq_3 H.size) (cwS 2 hts (gS wm427 wm428 wm6 wm429) rfl rfl rfl (by decide +kernel) ⟨(by show 500 + d * 2 + 1 ≤ 501 + d * 2; omega), (by show 8 + (4 + 11) + (12000 + d * 80) ≤ 12023 + d * 80; omega)⟩) (pre_w hK hP hD hS hE hFc) rfl rfl hl.1 rfl (lv_room (Nat.le_of_ble_eq_true rfl)) dX10_ofApplication_21 ⟨Nat.le_of_ble_eq_true rfl, Nat.le_of_ble_eq_true rfl⟩) hS (fun q _ h => hFc q h) hFc (fun r u t H locs ht hvm hw hB hz1 hk1 hS => ?_)
  rw [show r = q_3.1 from hw]
  have hP : va_P (DG G) clP3 (wC G a q_3.2.1 q_3.2.2.1 q_3.2.2.2 S D R M N P) H := by rw [← ht]; exact hB.1
  have hD : va_D A (wC G a q_3.2.1 q_3.2.2.1 q_3.2.2.2 S D R M N P) := hB.2.weaken (fun _ p _ h => hFc p.1 h)
  clear hB hFc hw hk1
  refine W.widen (k := 0) (n := 0) (Nat.le_of_ble_eq_true rfl) (Nat.le_of_ble_eq_true rfl) ?_
  obtain ⟨q_4, hq_4, hm⟩ := bind_some hm
  have hFc := free_all hD hS hA
  refine va_calli (va_runV (As := [.int q_3.1]) (rest := []) ⟨hx, hb, hml, hown, hts⟩ (K_X1_formOf l hfl G a q_3.2.1 q_3.2.2.1 q_3.2.2.2 S D R M N P q_3.1  q_4.1 q_4.2.1 q_4.2.2 hq_4 H.size) (cwV 1 hts (gV wm494 wm495 wm496 wm3 wm497) rfl rfl rfl (by decide +kernel) ⟨(by show 404 + 1 ≤ 501 + d * 2; omega), (by show 8 + (6 + 11) + (10492) ≤ 12023 + d * 80; omega)⟩) (pre_v (pre_w hK hP hD hS hE hFc) (va_recv hK hP (ci := 1) (q0 := 11) rfl rfl)) rfl rfl hl.1 rfl (lv_room (Nat.le_of_ble_eq_true rfl)) dX10_ofApplication_24 ⟨Nat.le_of_ble_eq_true rfl, Nat.le_of_ble_eq_true rfl⟩) hS (fun q _ h => hFc q h) hFc (fun r u t H locs ht hvm hw hB hz1 hk1 hS => ?_)
  rw [show r = q_4.1 from hw]
  have hP : va_P (DG G) clP3 (wC G a q_4.2.1 q_4.2.2 q_3.2.2.2 S D R M N P) H := by rw [← ht]; exact hB.1
  have hD : va_D A (wC G a q_4.2.1 q_4.2.2 q_3.2.2.2 S D R M N P) := hB.2.weaken (fun _ p _ h => hFc p.1 h)
  clear hB hFc hw hk1
  refine W.widen (k := 0) (n := 0) (Nat.le_of_ble_eq_true rfl) (Nat.le_of_ble_eq_true rfl) ?_
  refine lv_istore (lv' := [(4, .int q_4.1), (3, .int q_1), (2, .ref (a.1 1)), (0, .ref (a.1 24)), (1, .int p1)]) hx hb dX10_ofApplication_27 hl (by decide) rfl (fun ls hl => ?_)
  refine lv_aload_n hx hb dX10_ofApplication_29 rfl (lv_at hl 2 rfl) ?_
  refine lv_iload hx hb dX10_ofApplication_30 (lv_at hl 0 rfl) ?_
  obtain ⟨q_5, hq_5, hm⟩ := bind_some hm
  have hFc := free_all hD hS hA
  refine va_calli (va_runV (As := [.int q_4.1]) (rest := []) ⟨hx, hb, hml, hown, hts⟩ (K_X9_kindOf l hfl G a q_4.2.1 q_4.2.2 q_3.2.2.2 S D R M N P q_4.1  q_5 hq_5 H.size) (cwV 1 hts (gV wm434 wm435 wm436 wm2 wm437) rfl rfl rfl (by decide +kernel) ⟨(by show 0 + 1 ≤ 501 + d * 2; omega), (by show 8 + (2 + 11) + (0) ≤ 12023 + d * 80; omega)⟩) (pre_v (pre_w hK hP hD hS hE hFc) (va_recv hK hP (ci := 8) (q0 := 1) rfl rfl)) rfl rfl hl.1 rfl (lv_room (Nat.le_of_ble_eq_true rfl)) dX10_ofApplication_32 ⟨Nat.le_of_ble_eq_true rfl, Nat.le_of_ble_eq_true rfl⟩) hS (fun q _ h => hFc q h) hFc (fun r u t H locs ht hvm hw hB hz1 hk1 hS => ?_)
  rw [show r = q_5 from hw]
  have hP : va_P (DG G) clP3 (wC G a q_4.2.1 q_4.2.2 q_3.2.2.2 S D R M N P) H := by rw [← ht]; exact hB.1
  have hD : va_D A (wC G a q_4.2.1 q_4.2.2 q_3.2.2.2 S D R M N P) := hB.2.weaken (fun _ p _ h => hFc p.1 h)
  clear hB hFc hw hk1
  refine W.widen (k := 0) (n := 0) (Nat.le_of_ble_eq_true rfl) (Nat.le_of_ble_eq_true rfl) ?_
  refine lv_iconst (v := 5) hx hb dX10_ofApplication_35 (by decide) ?_
  refine lv_icmp_eq (tgt := 41) hx hb dX10_ofApplication_36 (by decide) (fun c_6 => ?_) (fun c_6 => ?_)
  · rw [if_pos c_6] at hm
    refine lv_aload_n hx hb dX10_ofApplication_41 rfl (lv_at hl 2 rfl) ?_
    obtain ⟨q_7, hq_7, hm⟩ := bind_some hm
    have hFc := free_all hD hS hA
    refine va_calli (va_runV (As := []) (rest := []) ⟨hx, hb, hml, hown, hts⟩ (K_X9_mark l hfl G a q_4.2.1 q_4.2.2 q_3.2.2.2 S D R M N P   q_7 hq_7 H.size) (cwV 0 hts (gV wm418 wm411 wm412 wm2 wm413) rfl rfl rfl (by decide +kernel) ⟨(by show 0 + 1 ≤ 501 + d * 2; omega), (by show 8 + (1 + 11) + (0) ≤ 12023 + d * 80; omega)⟩) (pre_v (pre_w hK hP hD hS hE hFc) (va_recv hK hP (ci := 8) (q0 := 1) rfl rfl)) rfl rfl hl.1 rfl (lv_room (Nat.le_of_ble_eq_true rfl)) dX10_ofApplication_42 ⟨Nat.le_of_ble_eq_true rfl, Nat.le_of_ble_eq_true rfl⟩) hS (fun q _ h => hFc q h) hFc (fun r u t H locs ht hvm hw hB hz1 hk1 hS => ?_)
    rw [show r = q_7 from hw]
    have hP : va_P (DG G) clP3 (wC G a q_4.2.1 q_4.2.2 q_3.2.2.2 S D R M N P) H := by rw [← ht]; exact hB.1
    have hD : va_D A (wC G a q_4.2.1 q_4.2.2 q_3.2.2.2 S D R M N P) := hB.2.weaken (fun _ p _ h => hFc p.1 h)
    clear hB hFc hw hk1
    refine W.widen (k := 0) (n := 0) (Nat.le_of_ble_eq_true rfl) (Nat.le_of_ble_eq_true rfl) ?_
    refine lv_istore (lv' := [(5, .int q_7), (4, .int q_4.1), (3, .int q_1), (2, .ref (a.1 1)), (0, .ref (a.1 24)), (1, .int p1)]) hx hb dX10_ofApplication_45 hl (by decide) rfl (fun ls hl => ?_)
    refine lv_aload_n hx hb dX10_ofApplication_47 rfl (lv_at hl 3 rfl) ?_
    refine lv_aload_n hx hb dX10_ofApplication_48 rfl (lv_at hl 4 rfl) ?_
    refine va_get (D := DG G) (ci := 9) (v := .ref (a.1 11)) (C := RX10) (T := TX10) (N := 6) hx hb hts inW_X10 hown hK hP 24 rfl rfl 1 (by decide) (hts _ wm196) (fun _ h9 => h9) rfl dX10_ofApplication_49 ?_
    refine lv_aload_n hx hb dX10_ofApplication_52 rfl (lv_at hl 4 rfl) ?_
    refine lv_iload_n hx hb dX10_ofApplication_53 rfl (lv_at hl 2 rfl) ?_
    obtain ⟨q_8, hq_8, hm⟩ := bind_some hm
    have hFc := free_all hD hS hA
    refine va_calli (va_runS (As := [.ref (a.1 24), .int q_1]) (rest := [.ref (a.1 11), .ref (a.1 1)]) ⟨hx, hb, hml, hown, hts⟩ (hfi q_4.2.1 q_4.2.2 q_3.2.2.2 S D R M N P hlk q_1  q_8.1 q_8.2.1 q_8.2.2.1 q_8.2.2.2 hq_8 H.size) (cwS 2 hts (gS wm427 wm428 wm6 wm429) rfl rfl rfl (by decide +kernel) ⟨(by show 500 + d * 2 + 1 ≤ 501 + d * 2; omega), (by show 8 + (4 + 11) + (12000 + d * 80) ≤ 12023 + d * 80; omega)⟩) (pre_w hK hP hD hS hE hFc) rfl rfl hl.1 rfl (lv_room (Nat.le_of_ble_eq_true rfl)) dX10_ofApplication_54 ⟨Nat.le_of_ble_eq_true rfl, Nat.le_of_ble_eq_true rfl⟩) hS (fun q _ h => hFc q h) hFc (fun r u t H locs ht hvm hw hB hz1 hk1 hS => ?_)
    rw [show r = q_8.1 from hw]
    have hP : va_P (DG G) clP3 (wC G a q_8.2.1 q_8.2.2.1 q_8.2.2.2 S D R M N P) H := by rw [← ht]; exact hB.1
    have hD : va_D A (wC G a q_8.2.1 q_8.2.2.1 q_8.2.2.2 S D R M N P) := hB.2.weaken (fun _ p _ h => hFc p.1 h)
    clear hB hFc hw hk1
    refine W.widen (k := 0) (n := 0) (Nat.le_of_ble_eq_true rfl) (Nat.le_of_ble_eq_true rfl) ?_
    obtain ⟨q_9, hq_9, hm⟩ := bind_some hm
    have hFc := free_all hD hS hA
    refine va_calli (va_runV (As := [.int q_8.1]) (rest := [.ref (a.1 1)]) ⟨hx, hb, hml, hown, hts⟩ (K_X1_formOf l hfl G a q_8.2.1 q_8.2.2.1 q_8.2.2.2 S D R M N P q_8.1  q_9.1 q_9.2.1 q_9.2.2 hq_9 H.size) (cwV 1 hts (gV wm494 wm495 wm496 wm3 wm497) rfl rfl rfl (by decide +kernel) ⟨(by show 404 + 1 ≤ 501 + d * 2; omega), (by show 8 + (6 + 11) + (10492) ≤ 12023 + d * 80; omega)⟩) (pre_v (pre_w hK hP hD hS hE hFc) (va_recv hK hP (ci := 1) (q0 := 11) rfl rfl)) rfl rfl hl.1 rfl (lv_room (Nat.le_of_ble_eq_true rfl)) dX10_ofApplication_57 ⟨Nat.le_of_ble_eq_true rfl, Nat.le_of_ble_eq_true rfl⟩) hS (fun q _ h => hFc q h) hFc (fun r u t H locs ht hvm hw hB hz1 hk1 hS => ?_)
    rw [show r = q_9.1 from hw]
    have hP : va_P (DG G) clP3 (wC G a q_9.2.1 q_9.2.2 q_8.2.2.2 S D R M N P) H := by rw [← ht]; exact hB.1
    have hD : va_D A (wC G a q_9.2.1 q_9.2.2 q_8.2.2.2 S D R M N P) := hB.2.weaken (fun _ p _ h => hFc p.1 h)
    clear hB hFc hw hk1
    refine W.widen (k := 0) (n := 0) (Nat.le_of_ble_eq_true rfl) (Nat.le_of_ble_eq_true rfl) ?_
    refine lv_aload_n hx hb dX10_ofApplication_60 rfl (lv_at hl 3 rfl) ?_
    refine lv_iload hx hb dX10_ofApplication_61 (lv_at hl 1 rfl) ?_
    obtain ⟨q_10, hq_10, hm⟩ := bind_some hm
    have hFc := free_all hD hS hA
    refine va_calli (va_runV (As := [.int q_4.1]) (rest := [.int q_9.1, .ref (a.1 1)]) ⟨hx, hb, hml, hown, hts⟩ (K_X9_firstOf l hfl G a q_9.2.1 q_9.2.2 q_8.2.2.2 S D R M N P q_4.1  q_10 hq_10 H.size) (cwV 1 hts (gV wm430 wm431 wm432 wm2 wm433) rfl rfl rfl (by decide +kernel) ⟨(by show 0 + 1 ≤ 501 + d * 2; omega), (by show 8 + (2 + 11) + (0) ≤ 12023 + d * 80; omega)⟩) (pre_v (pre_w hK hP hD hS hE hFc) (va_recv hK hP (ci := 8) (q0 := 1) rfl rfl)) rfl rfl hl.1 rfl (lv_room (Nat.le_of_ble_eq_true rfl)) dX10_ofApplication_63 ⟨Nat.le_of_ble_eq_true rfl, Nat.le_of_ble_eq_true rfl⟩) hS (fun q _ h => hFc q h) hFc (fun r u t H locs ht hvm hw hB hz1 hk1 hS => ?_)
    rw [show r = q_10 from hw]
    have hP : va_P (DG G) clP3 (wC G a q_9.2.1 q_9.2.2 q_8.2.2.2 S D R M N P) H := by rw [← ht]; exact hB.1
    have hD : va_D A (wC G a q_9.2.1 q_9.2.2 q_8.2.2.2 S D R M N P) := hB.2.weaken (fun _ p _ h => hFc p.1 h)
    clear hB hFc hw hk1
    refine W.widen (k := 0) (n := 0) (Nat.le_of_ble_eq_true rfl) (Nat.le_of_ble_eq_true rfl) ?_
    obtain ⟨q_11, hq_11, hm⟩ := bind_some hm
    have hFc := free_all hD hS hA
    refine va_calli (va_runSN (As := [.ref (a.1 1), .int q_9.1, .int q_10]) (rest := []) ⟨hx, hb, hml, hown, hts⟩ (K_X6_same l hfl G a q_9.2.1 q_9.2.2 q_8.2.2.2 S D R M N P q_9.1 q_10  q_11 hq_11 H.size) ⟨va_cnB 3 hts (gC wm557) rfl rfl rfl (hE.1 _ nw555) (hts _ wm20) (by decide +kernel) ⟨(by show 201 + 1 ≤ 501 + d * 2; omega), (by show 8 + (4 + 11) + (4621) ≤ 12023 + d * 80; omega)⟩, hts _ wm556, trivial⟩ (pre_w hK hP hD hS hE hFc) rfl rfl hl.1 rfl (lv_room (Nat.le_of_ble_eq_true rfl)) dX10_ofApplication_66 ⟨Nat.le_of_ble_eq_true rfl, Nat.le_of_ble_eq_true rfl⟩) hS (fun q _ h => hFc q h) hFc (fun r u t H locs ht hvm hw hB hz1 hk1 hS => ?_)
    rw [show r = q_11 from hw]
    have hP : va_P (DG G) clP3 (wC G a q_9.2.1 q_9.2.2 q_8.2.2.2 S D R M N P) H := by rw [← ht]; exact hB.1
    have hD : va_D A (wC G a q_9.2.1 q_9.2.2 q_8.2.2.2 S D R M N P) := hB.2.weaken (fun _ p _ h => hFc p.1 h)
    clear hB hFc hw hk1
    refine W.widen (k := 0) (n := 0) (Nat.le_of_ble_eq_true rfl) (Nat.le_of_ble_eq_true rfl) ?_
    refine lv_istore (lv' := [(6, .int q_11), (5, .int q_7), (4, .int q_4.1), (3, .int q_1), (2, .ref (a.1 1)), (0, .ref (a.1 24)), (1, .int p1)]) hx hb dX10_ofApplication_69 hl (by decide) rfl (fun ls hl => ?_)
    refine lv_aload_n hx hb dX10_ofApplication_71 rfl (lv_at hl 4 rfl) ?_
    refine lv_iload hx hb dX10_ofApplication_72 (lv_at hl 1 rfl) ?_
    obtain ⟨q_12, hq_12, hm⟩ := bind_some hm
    have hFc := free_all hD hS hA
    refine va_callv (va_runV (As := [.int q_7]) (rest := []) ⟨hx, hb, hml, hown, hts⟩ (K_X9_release l hfl G a q_9.2.1 q_9.2.2 q_8.2.2.2 S D R M N P q_7  q_12 hq_12 H.size) (cwV 1 hts (gV wm561 wm509 wm510 wm2 wm511) rfl rfl rfl (by decide +kernel) ⟨(by show 0 + 1 ≤ 501 + d * 2; omega), (by show 8 + (2 + 11) + (0) ≤ 12023 + d * 80; omega)⟩) (pre_v (pre_w hK hP hD hS hE hFc) (va_recv hK hP (ci := 8) (q0 := 1) rfl rfl)) rfl rfl hl.1 rfl (lv_room (Nat.le_of_ble_eq_true rfl)) dX10_ofApplication_74 ⟨Nat.le_of_ble_eq_true rfl, Nat.le_of_ble_eq_true rfl⟩) hS (fun q _ h => hFc q h) hFc (fun u t H locs ht hvm hw hB hz1 hk1 hS => ?_)
    have hP : va_P (DG G) clP3 (wC G a q_12 q_9.2.2 q_8.2.2.2 S D R M N P) H := by rw [← ht]; exact hB.1
    have hD : va_D A (wC G a q_12 q_9.2.2 q_8.2.2.2 S D R M N P) := hB.2.weaken (fun _ p _ h => hFc p.1 h)
    clear hB hFc hk1
    refine W.widen (k := 0) (n := 0) (Nat.le_of_ble_eq_true rfl) (Nat.le_of_ble_eq_true rfl) ?_
    refine lv_iload hx hb dX10_ofApplication_77 (lv_at hl 0 rfl) ?_
    refine lv_if_eq (tgt := 97) hx hb dX10_ofApplication_79 (by decide) (fun c_13 => ?_) (fun c_13 => ?_)
    · rw [if_pos c_13] at hm
      refine lv_iconst (v := (-1)) hx hb dX10_ofApplication_97 (by decide) ?_
      simp only [Option.some.injEq, Prod.mk.injEq] at hm
      obtain ⟨rfl, rfl, rfl, rfl⟩ := hm
      refine W.widen (k := 0) (n := 0) (Nat.le_of_ble_eq_true rfl) (Nat.le_of_ble_eq_true rfl) ?_
      exact W.iret (v := (-1)) hx hb hr (fun t ht hW => ⟨⟨(-1), (), rfl, rfl, ⟨by rw [ht]; exact hP, by rw [hAe]; exact hD⟩⟩, by rw [hAe]; exact hS.F ht⟩) (by rw [hAe]; exact hS.2.2) dX10_ofApplication_98 hlocks
    · rw [if_neg c_13] at hm
      refine lv_aload_n hx hb dX10_ofApplication_82 rfl (lv_at hl 4 rfl) ?_
      refine lv_aload_n hx hb dX10_ofApplication_83 rfl (lv_at hl 4 rfl) ?_
      refine lv_iload hx hb dX10_ofApplication_84 (lv_at hl 2 rfl) ?_
      obtain ⟨q_14, hq_14, hm⟩ := bind_some hm
      have hFc := free_all hD hS hA
      refine va_calli (va_runV (As := [.int q_4.1]) (rest := [.ref (a.1 1)]) ⟨hx, hb, hml, hown, hts⟩ (K_X9_secondOf l hfl G a q_12 q_9.2.2 q_8.2.2.2 S D R M N P q_4.1  q_14 hq_14 H.size) (cwV 1 hts (gV wm542 wm460 wm461 wm2 wm462) rfl rfl rfl (by decide +kernel) ⟨(by show 0 + 1 ≤ 501 + d * 2; omega), (by show 8 + (2 + 11) + (0) ≤ 12023 + d * 80; omega)⟩) (pre_v (pre_w hK hP hD hS hE hFc) (va_recv hK hP (ci := 8) (q0 := 1) rfl rfl)) rfl rfl hl.1 rfl (lv_room (Nat.le_of_ble_eq_true rfl)) dX10_ofApplication_86 ⟨Nat.le_of_ble_eq_true rfl, Nat.le_of_ble_eq_true rfl⟩) hS (fun q _ h => hFc q h) hFc (fun r u t H locs ht hvm hw hB hz1 hk1 hS => ?_)
      rw [show r = q_14 from hw]
      have hP : va_P (DG G) clP3 (wC G a q_12 q_9.2.2 q_8.2.2.2 S D R M N P) H := by rw [← ht]; exact hB.1
      have hD : va_D A (wC G a q_12 q_9.2.2 q_8.2.2.2 S D R M N P) := hB.2.weaken (fun _ p _ h => hFc p.1 h)
      clear hB hFc hw hk1
      refine W.widen (k := 0) (n := 0) (Nat.le_of_ble_eq_true rfl) (Nat.le_of_ble_eq_true rfl) ?_
      refine lv_iload_n hx hb dX10_ofApplication_89 rfl (lv_at hl 3 rfl) ?_
      refine lv_iconst (v := 0) hx hb dX10_ofApplication_90 (by decide) ?_
      obtain ⟨q_15, hq_15, hm⟩ := bind_some hm
      have hFc := free_all hD hS hA
      refine va_calli (va_runSN (As := [.ref (a.1 1), .int q_14, .int q_1, .int 0]) (rest := []) ⟨hx, hb, hml, hown, hts⟩ (K_X6_put l hfl G a q_12 q_9.2.2 q_8.2.2.2 S D R M N P q_14 q_1 0  q_15.1 q_15.2 hq_15 H.size) ⟨va_cnB 4 hts (gC wm533) rfl rfl rfl (hE.1 _ nw562) (hts _ wm20) (by decide +kernel) ⟨(by show 403 + 1 ≤ 501 + d * 2; omega), (by show 8 + (7 + 11) + (10466) ≤ 12023 + d * 80; omega)⟩, hts _ wm532, trivial⟩ (pre_w hK hP hD hS hE hFc) rfl rfl hl.1 rfl (lv_room (Nat.le_of_ble_eq_true rfl)) dX10_ofApplication_91 ⟨Nat.le_of_ble_eq_true rfl, Nat.le_of_ble_eq_true rfl⟩) hS (fun q _ h => hFc q h) hFc (fun r u t H locs ht hvm hw hB hz1 hk1 hS => ?_)
      rw [show r = q_15.1 from hw]
      have hP : va_P (DG G) clP3 (wC G a q_15.2 q_9.2.2 q_8.2.2.2 S D R M N P) H := by rw [← ht]; exact hB.1
      have hD : va_D A (wC G a q_15.2 q_9.2.2 q_8.2.2.2 S D R M N P) := hB.2.weaken (fun _ p _ h => hFc p.1 h)
      clear hB hFc hw hk1
      refine W.widen (k := 0) (n := 0) (Nat.le_of_ble_eq_true rfl) (Nat.le_of_ble_eq_true rfl) ?_
      refine lv_goto (tgt := 98) hx hb dX10_ofApplication_94 (by decide) ?_
      simp only [Option.some.injEq, Prod.mk.injEq] at hm
      obtain ⟨rfl, rfl, rfl, rfl⟩ := hm
      refine W.widen (k := 0) (n := 0) (Nat.le_of_ble_eq_true rfl) (Nat.le_of_ble_eq_true rfl) ?_
      exact W.iret (v := q_15.1) hx hb hr (fun t ht hW => ⟨⟨q_15.1, (), rfl, rfl, ⟨by rw [ht]; exact hP, by rw [hAe]; exact hD⟩⟩, by rw [hAe]; exact hS.F ht⟩) (by rw [hAe]; exact hS.2.2) dX10_ofApplication_98 hlocks
  · rw [if_neg c_6] at hm
    refine lv_iconst (v := (-1)) hx hb dX10_ofApplication_39 (by decide) ?_
    simp only [Option.some.injEq, Prod.mk.injEq] at hm
    obtain ⟨rfl, rfl, rfl, rfl⟩ := hm
    refine W.widen (k := 0) (n := 0) (Nat.le_of_ble_eq_true rfl) (Nat.le_of_ble_eq_true rfl) ?_
    exact W.iret (v := (-1)) hx hb hr (fun t ht hW => ⟨⟨(-1), (), rfl, rfl, ⟨by rw [ht]; exact hP, by rw [hAe]; exact hD⟩⟩, by rw [hAe]; exact hS.F ht⟩) (by rw [hAe]; exact hS.2.2) dX10_ofApplication_40 hlocks
def f_X10_find : Nat → TS → FS → US → SS → DS → PS → Int32 → Option (Int32 × TS × FS × US)
  | 0, _, _, _, _, _, _, _ => none
  | d + 1, T, F, U, S, D, P, p1 => (Option.bind (g_X9_firstOf T p1) (fun q_1 => (Option.bind (g_X9_kindOf T p1) (fun q_2 => (if q_2 = 0 then (if 3 ≤ q_1 then some ((-1), T, F, U) else (Option.bind (g_X9_leaf T 0 (q_1 + (1 : Int32))) (fun q_6 => some (q_6.1, q_6.2, F, U)))) else (if q_2 = 1 then (Option.bind (g_X8_typeAt U ((U.1 - (1 : Int32)) - q_1)) (fun q_8 => (Option.bind (g_X6_lift T q_8 (q_1 + (1 : Int32)) 0) (fun q_9 => some (q_9.1, q_9.2, F, U))))) else (if q_2 = 2 then (Option.bind (g_X9_leaf T 0 0) (fun q_11 => some (q_11.1, q_11.2, F, U))) else (if q_2 = 3 then (Option.bind (g_X7_typeOfConstructor S q_1) (fun q_13 => some (q_13, T, F, U))) else (if q_2 = 4 then (Option.bind (f_X0_typeOfFunction D P q_1) (fun q_15 => some (q_15, T, F, U))) else (if q_2 = 5 then (Option.bind (f_X10_ofFunctions (f_X10_find d) T F U S D P p1) (fun q_17 => some (q_17.1, q_17.2.1, q_17.2.2.1, q_17.2.2.2))) else (if q_2 = 6 then (Option.bind (f_X10_ofLambda (f_X10_find d) T F U S D P p1) (fun q_19 => some (q_19.1, q_19.2.1, q_19.2.2.1, q_19.2.2.2))) else (if q_2 = 7 then (Option.bind (f_X10_ofApplication (f_X10_find d) T F U S D P p1) (fun q_21 => some (q_21.1, q_21.2.1, q_21.2.2.1, q_21.2.2.2))) else some ((-1), T, F, U)))))))))))))
set_option maxHeartbeats 2000000 in
set_option maxRecDepth 100000 in
theorem k_X10_find (l : Launch) (hfl : l.stackTraces = false) (G : GC) (a : AS) : ∀ (d : Nat), ∀ (T : TS) (F : FS) (U : US) (S : SS) (D : DS) (R : RS) (M : MS) (N : NS) (P : PS) (_ : lkA a D.1.toNatClampNeg D.2.1.toNatClampNeg) (p1 : Int32) (r9 : Int32) (T9 : TS) (F9 : FS) (U9 : US), f_X10_find d T F U S D P p1 = some (r9, T9, F9, U9) → ∀ (sz : Nat), Met l yX10_find (Cond.code yX10_find cX10_find 4 (some .int) :: W0) ({ frames := 500 + d * 2, cells := 0, slots := 0, locals := 12000 + d * 80 }) (va_Pc [.ref (a.1 24), .int p1] (WD G (wC G a T F U S D R M N P) sz)) (va_Qi (fun (r : Int32) (_ : Unit) => r = r9) (fun _ t => PW G (va_A (wC G a T F U S D R M N P) sz) (wC G a T9 F9 U9 S D R M N P) t) (va_A (wC G a T F U S D R M N P) sz)) 0 0 (va_A (wC G a T F U S D R M N P) sz) := by
  intro d
  induction d with
  | zero =>
    intro T F U S D R M N P hlk p1 r9 T9 F9 U9 hm
    rw [f_X10_find] at hm
    cases hm
  | succ d ihd =>
    intro T F U S D R M N P hlk p1 r9 T9 F9 U9 hm sz
    rw [f_X10_find] at hm
    refine Met.ofW (cc := cX10_find) (maxL := 4) (ret := (some .int)) (by decide) rfl ?_
    intro p e s m args below meth c s₁ B hml hv
    obtain ⟨rfl, hsz, hP, hK, hD0, hE⟩ := hv
    have hx := B.exec
    have hb := B.bytes
    have hr := B.returns
    have hts := w0_tail B.pre
    have hown : s.vm.findClass RX10 = some m.cls := findClass_of_methodNamed B.named
    have hlocks := B.notSynchronized
    have hD := hD0.self (sz := sz)
    obtain ⟨A, hAe⟩ : ∃ A, (va_A (wC G a T F U S D R M N P) sz) = A := ⟨_, rfl⟩
    rw [hAe] at hD hE
    have hA : ∀ q : Nat, s.heap.size ≤ q → A q := fun q h => by rw [← hAe]; exact Or.inr (by rw [← hsz]; exact h)
    have hS : va_S A s.heap s.heap [] := va_S.rf
    obtain ⟨H, hHe⟩ : ∃ H : Heap, H = s.heap := ⟨_, rfl⟩
    have hP : va_P (DG G) clP3 (wC G a T F U S D R M N P) H := by rw [hHe]; exact hP
    have hS : va_S A s.heap H [] := by rw [hHe]; exact hS
    have hl := lv_entry ([.ref (a.1 24), .int p1]) (n := 4) (Nat.le_of_ble_eq_true rfl)
    rw [lg_entry_eq, ← hHe]
    generalize (lg_sl ([.ref (a.1 24), .int p1]) ++ List.replicate (4 - (lg_sl ([.ref (a.1 24), .int p1])).length) Slot.unset).toArray = ls at hl ⊢
    have hl : lv_has ls 4 [(0, .ref (a.1 24)), (1, .int p1)] := hl
    refine lv_aload_n hx hb dX10_find_0 rfl (lv_at hl 0 rfl) ?_
    refine va_get (D := DG G) (ci := 9) (v := .ref (a.1 1)) (C := RX10) (T := TX10) (N := 6) hx hb hts inW_X10 hown hK hP 24 rfl rfl 0 (by decide) (hts _ wm195) (fun _ h9 => h9) rfl dX10_find_1 ?_
    refine lv_astore_n (lv' := [(2, .ref (a.1 1)), (0, .ref (a.1 24)), (1, .int p1)]) hx hb dX10_find_4 rfl hl (by decide) rfl (fun ls hl => ?_)
    refine lv_aload_n hx hb dX10_find_5 rfl (lv_at hl 0 rfl) ?_
    refine lv_iload_n hx hb dX10_find_6 rfl (lv_at hl 2 rfl) ?_
    obtain ⟨q_1, hq_1, hm⟩ := bind_some hm
    have hFc := free_all hD hS hA
    refine va_calli (va_runV (As := [.int p1]) (rest := []) ⟨hx, hb, hml, hown, hts⟩ (K_X9_firstOf l hfl G a T F U S D R M N P p1  q_1 hq_1 H.size) (cwV 1 hts (gV wm430 wm431 wm432 wm2 wm433) rfl rfl rfl (by decide +kernel) ⟨(by show 0 + 1 ≤ 500 + (d + 1) * 2; omega), (by show 8 + (2 + 11) + (0) ≤ 12000 + (d + 1) * 80; omega)⟩) (pre_v (pre_w hK hP hD hS hE hFc) (va_recv hK hP (ci := 8) (q0 := 1) rfl rfl)) rfl rfl hl.1 rfl (lv_room (Nat.le_of_ble_eq_true rfl)) dX10_find_7 ⟨Nat.le_of_ble_eq_true rfl, Nat.le_of_ble_eq_true rfl⟩) hS (fun q _ h => hFc q h) hFc (fun r u t H locs ht hvm hw hB hz1 hk1 hS => ?_)
    rw [show r = q_1 from hw]
    have hP : va_P (DG G) clP3 (wC G a T F U S D R M N P) H := by rw [← ht]; exact hB.1
    have hD : va_D A (wC G a T F U S D R M N P) := hB.2.weaken (fun _ p _ h => hFc p.1 h)
    clear hB hFc hw hk1
    refine W.widen (k := 0) (n := 0) (Nat.le_of_ble_eq_true rfl) (Nat.le_of_ble_eq_true rfl) ?_
    refine lv_istore_n (lv' := [(3, .int q_1), (2, .ref (a.1 1)), (0, .ref (a.1 24)), (1, .int p1)]) hx hb dX10_find_10 rfl hl (by decide) rfl (fun ls hl => ?_)
    refine lv_aload_n hx hb dX10_find_11 rfl (lv_at hl 1 rfl) ?_
    refine lv_iload_n hx hb dX10_find_12 rfl (lv_at hl 3 rfl) ?_
    obtain ⟨q_2, hq_2, hm⟩ := bind_some hm
    have hFc := free_all hD hS hA
    refine va_calli (va_runV (As := [.int p1]) (rest := []) ⟨hx, hb, hml, hown, hts⟩ (K_X9_kindOf l hfl G a T F U S D R M N P p1  q_2 hq_2 H.size) (cwV 1 hts (gV wm434 wm435 wm436 wm2 wm437) rfl rfl rfl (by decide +kernel) ⟨(by show 0 + 1 ≤ 500 + (d + 1) * 2; omega), (by show 8 + (2 + 11) + (0) ≤ 12000 + (d + 1) * 80; omega)⟩) (pre_v (pre_w hK hP hD hS hE hFc) (va_recv hK hP (ci := 8) (q0 := 1) rfl rfl)) rfl rfl hl.1 rfl (lv_room (Nat.le_of_ble_eq_true rfl)) dX10_find_13 ⟨Nat.le_of_ble_eq_true rfl, Nat.le_of_ble_eq_true rfl⟩) hS (fun q _ h => hFc q h) hFc (fun r u t H locs ht hvm hw hB hz1 hk1 hS => ?_)
    rw [show r = q_2 from hw]
    have hP : va_P (DG G) clP3 (wC G a T F U S D R M N P) H := by rw [← ht]; exact hB.1
    have hD : va_D A (wC G a T F U S D R M N P) := hB.2.weaken (fun _ p _ h => hFc p.1 h)
    clear hB hFc hw hk1
    refine W.widen (k := 0) (n := 0) (Nat.le_of_ble_eq_true rfl) (Nat.le_of_ble_eq_true rfl) ?_
    by_cases c_4 : q_2 = 0
    · rw [if_pos c_4] at hm
      rw [c_4]
      refine lv_tableIn (off := 48) (tgt := 64) hx hb dX10_find_16 (by decide) (by decide) (by decide) (by decide) ?_
      refine lv_iload_n hx hb dX10_find_64 rfl (lv_at hl 0 rfl) ?_
      refine lv_iconst (v := 3) hx hb dX10_find_65 (by decide) ?_
      refine lv_icmp_ge (tgt := 80) hx hb dX10_find_66 (by decide) (fun c_5 => ?_) (fun c_5 => ?_)
      · rw [if_pos c_5] at hm
        refine lv_iconst (v := (-1)) hx hb dX10_find_80 (by decide) ?_
        simp only [Option.some.injEq, Prod.mk.injEq] at hm
        obtain ⟨rfl, rfl, rfl, rfl⟩ := hm
        refine W.widen (k := 0) (n := 0) (Nat.le_of_ble_eq_true rfl) (Nat.le_of_ble_eq_true rfl) ?_
        exact W.iret (v := (-1)) hx hb hr (fun t ht hW => ⟨⟨(-1), (), rfl, rfl, ⟨by rw [ht]; exact hP, by rw [hAe]; exact hD⟩⟩, by rw [hAe]; exact hS.F ht⟩) (by rw [hAe]; exact hS.2.2) dX10_find_81 hlocks
      · rw [if_neg c_5] at hm
        refine lv_aload_n hx hb dX10_find_69 rfl (lv_at hl 1 rfl) ?_
        refine lv_iconst (v := 0) hx hb dX10_find_70 (by decide) ?_
        refine lv_iload_n hx hb dX10_find_71 rfl (lv_at hl 0 rfl) ?_
        refine lv_iconst (v := 1) hx hb dX10_find_72 (by decide) ?_
        refine lv_iadd hx hb dX10_find_73 ?_
        obtain ⟨q_6, hq_6, hm⟩ := bind_some hm
        have hFc := free_all hD hS hA
        refine va_calli (va_runV (As := [.int 0, .int (q_1 + (1 : Int32))]) (rest := []) ⟨hx, hb, hml, hown, hts⟩ (K_X9_leaf l hfl G a T F U S D R M N P 0 (q_1 + (1 : Int32))  q_6.1 q_6.2 hq_6 H.size) (cwV 2 hts (gV wm438 wm439 wm440 wm2 wm441) rfl rfl rfl (by decide +kernel) ⟨(by show 0 + 1 ≤ 500 + (d + 1) * 2; omega), (by show 8 + (4 + 11) + (0) ≤ 12000 + (d + 1) * 80; omega)⟩) (pre_v (pre_w hK hP hD hS hE hFc) (va_recv hK hP (ci := 8) (q0 := 1) rfl rfl)) rfl rfl hl.1 rfl (lv_room (Nat.le_of_ble_eq_true rfl)) dX10_find_74 ⟨Nat.le_of_ble_eq_true rfl, Nat.le_of_ble_eq_true rfl⟩) hS (fun q _ h => hFc q h) hFc (fun r u t H locs ht hvm hw hB hz1 hk1 hS => ?_)
        rw [show r = q_6.1 from hw]
        have hP : va_P (DG G) clP3 (wC G a q_6.2 F U S D R M N P) H := by rw [← ht]; exact hB.1
        have hD : va_D A (wC G a q_6.2 F U S D R M N P) := hB.2.weaken (fun _ p _ h => hFc p.1 h)
        clear hB hFc hw hk1
        refine W.widen (k := 0) (n := 0) (Nat.le_of_ble_eq_true rfl) (Nat.le_of_ble_eq_true rfl) ?_
        refine lv_goto (tgt := 81) hx hb dX10_find_77 (by decide) ?_
        simp only [Option.some.injEq, Prod.mk.injEq] at hm
        obtain ⟨rfl, rfl, rfl, rfl⟩ := hm
        refine W.widen (k := 0) (n := 0) (Nat.le_of_ble_eq_true rfl) (Nat.le_of_ble_eq_true rfl) ?_
        exact W.iret (v := q_6.1) hx hb hr (fun t ht hW => ⟨⟨q_6.1, (), rfl, rfl, ⟨by rw [ht]; exact hP, by rw [hAe]; exact hD⟩⟩, by rw [hAe]; exact hS.F ht⟩) (by rw [hAe]; exact hS.2.2) dX10_find_81 hlocks
    · rw [if_neg c_4] at hm
      by_cases c_7 : q_2 = 1
      · rw [if_pos c_7] at hm
        rw [c_7]
        refine lv_tableIn (off := 66) (tgt := 82) hx hb dX10_find_16 (by decide) (by decide) (by decide) (by decide) ?_
        refine lv_aload_n hx hb dX10_find_82 rfl (lv_at hl 1 rfl) ?_
        refine lv_aload_n hx hb dX10_find_83 rfl (lv_at hl 2 rfl) ?_
        refine va_get (D := DG G) (ci := 9) (v := .ref (a.1 27)) (C := RX10) (T := TX10) (N := 6) hx hb hts inW_X10 hown hK hP 24 rfl rfl 5 (by decide) (hts _ wm200) (fun _ h9 => h9) rfl dX10_find_84 ?_
        refine lv_aload_n hx hb dX10_find_87 rfl (lv_at hl 2 rfl) ?_
        refine va_get (D := DG G) (ci := 9) (v := .ref (a.1 27)) (C := RX10) (T := TX10) (N := 6) hx hb hts inW_X10 hown hK hP 24 rfl rfl 5 (by decide) (hts _ wm200) (fun _ h9 => h9) rfl dX10_find_88 ?_
        refine va_getN (D := DG G) (ci := 7) (v := .int U.1) (C := RX8) (T := TX8) (N := 2) hx hb hts inW_X8 hown hK hP 27 rfl rfl 1 (by decide) (va_Nw.use rfl (hE.1 _ nw186)) (fun _ h9 => h9) rfl dX10_find_91 ?_
        refine lv_iconst (v := 1) hx hb dX10_find_94 (by decide) ?_
        refine lv_isub hx hb dX10_find_95 ?_
        refine lv_iload_n hx hb dX10_find_96 rfl (lv_at hl 0 rfl) ?_
        refine lv_isub hx hb dX10_find_97 ?_
        obtain ⟨q_8, hq_8, hm⟩ := bind_some hm
        have hFc := free_all hD hS hA
        refine va_calli (va_runV (As := [.int ((U.1 - (1 : Int32)) - q_1)]) (rest := [.ref (a.1 1)]) ⟨hx, hb, hml, hown, hts⟩ (K_X8_typeAt l hfl G a T F U S D R M N P ((U.1 - (1 : Int32)) - q_1)  q_8 hq_8 H.size) (cwV 1 hts (gV wm444 wm445 wm446 wm7 wm447) rfl rfl rfl (by decide +kernel) ⟨(by show 0 + 1 ≤ 500 + (d + 1) * 2; omega), (by show 8 + (2 + 11) + (0) ≤ 12000 + (d + 1) * 80; omega)⟩) (pre_v (pre_w hK hP hD hS hE hFc) (va_recv hK hP (ci := 7) (q0 := 27) rfl rfl)) rfl rfl hl.1 rfl (lv_room (Nat.le_of_ble_eq_true rfl)) dX10_find_98 ⟨Nat.le_of_ble_eq_true rfl, Nat.le_of_ble_eq_true rfl⟩) hS (fun q _ h => hFc q h) hFc (fun r u t H locs ht hvm hw hB hz1 hk1 hS => ?_)
        rw [show r = q_8 from hw]
        have hP : va_P (DG G) clP3 (wC G a T F U S D R M N P) H := by rw [← ht]; exact hB.1
        have hD : va_D A (wC G a T F U S D R M N P) := hB.2.weaken (fun _ p _ h => hFc p.1 h)
        clear hB hFc hw hk1
        refine W.widen (k := 0) (n := 0) (Nat.le_of_ble_eq_true rfl) (Nat.le_of_ble_eq_true rfl) ?_
        refine lv_iload_n hx hb dX10_find_101 rfl (lv_at hl 0 rfl) ?_
        refine lv_iconst (v := 1) hx hb dX10_find_102 (by decide) ?_
        refine lv_iadd hx hb dX10_find_103 ?_
        refine lv_iconst (v := 0) hx hb dX10_find_104 (by decide) ?_
        obtain ⟨q_9, hq_9, hm⟩ := bind_some hm
        have hFc := free_all hD hS hA
        refine va_calli (va_runSN (As := [.ref (a.1 1), .int q_8, .int (q_1 + (1 : Int32)), .int 0]) (rest := []) ⟨hx, hb, hml, hown, hts⟩ (K_X6_lift l hfl G a T F U S D R M N P q_8 (q_1 + (1 : Int32)) 0  q_9.1 q_9.2 hq_9 H.size) ⟨va_cnB 4 hts (gC wm450) rfl rfl rfl (hE.1 _ nw448) (hts _ wm20) (by decide +kernel) ⟨(by show 202 + 1 ≤ 500 + (d + 1) * 2; omega), (by show 8 + (7 + 11) + (5240) ≤ 12000 + (d + 1) * 80; omega)⟩, hts _ wm449, trivial⟩ (pre_w hK hP hD hS hE hFc) rfl rfl hl.1 rfl (lv_room (Nat.le_of_ble_eq_true rfl)) dX10_find_105 ⟨Nat.le_of_ble_eq_true rfl, Nat.le_of_ble_eq_true rfl⟩) hS (fun q _ h => hFc q h) hFc (fun r u t H locs ht hvm hw hB hz1 hk1 hS => ?_)
        rw [show r = q_9.1 from hw]
        have hP : va_P (DG G) clP3 (wC G a q_9.2 F U S D R M N P) H := by rw [← ht]; exact hB.1
        have hD : va_D A (wC G a q_9.2 F U S D R M N P) := hB.2.weaken (fun _ p _ h => hFc p.1 h)
        clear hB hFc hw hk1
        refine W.widen (k := 0) (n := 0) (Nat.le_of_ble_eq_true rfl) (Nat.le_of_ble_eq_true rfl) ?_
        simp only [Option.some.injEq, Prod.mk.injEq] at hm
        obtain ⟨rfl, rfl, rfl, rfl⟩ := hm
        refine W.widen (k := 0) (n := 0) (Nat.le_of_ble_eq_true rfl) (Nat.le_of_ble_eq_true rfl) ?_
        exact W.iret (v := q_9.1) hx hb hr (fun t ht hW => ⟨⟨q_9.1, (), rfl, rfl, ⟨by rw [ht]; exact hP, by rw [hAe]; exact hD⟩⟩, by rw [hAe]; exact hS.F ht⟩) (by rw [hAe]; exact hS.2.2) dX10_find_108 hlocks
      · rw [if_neg c_7] at hm
        by_cases c_10 : q_2 = 2
        · rw [if_pos c_10] at hm
          rw [c_10]
          refine lv_tableIn (off := 93) (tgt := 109) hx hb dX10_find_16 (by decide) (by decide) (by decide) (by decide) ?_
          refine lv_aload_n hx hb dX10_find_109 rfl (lv_at hl 1 rfl) ?_
          refine lv_iconst (v := 0) hx hb dX10_find_110 (by decide) ?_
          refine lv_iconst (v := 0) hx hb dX10_find_111 (by decide) ?_
          obtain ⟨q_11, hq_11, hm⟩ := bind_some hm
          have hFc := free_all hD hS hA
          refine va_calli (va_runV (As := [.int 0, .int 0]) (rest := []) ⟨hx, hb, hml, hown, hts⟩ (K_X9_leaf l hfl G a T F U S D R M N P 0 0  q_11.1 q_11.2 hq_11 H.size) (cwV 2 hts (gV wm438 wm439 wm440 wm2 wm441) rfl rfl rfl (by decide +kernel) ⟨(by show 0 + 1 ≤ 500 + (d + 1) * 2; omega), (by show 8 + (4 + 11) + (0) ≤ 12000 + (d + 1) * 80; omega)⟩) (pre_v (pre_w hK hP hD hS hE hFc) (va_recv hK hP (ci := 8) (q0 := 1) rfl rfl)) rfl rfl hl.1 rfl (lv_room (Nat.le_of_ble_eq_true rfl)) dX10_find_112 ⟨Nat.le_of_ble_eq_true rfl, Nat.le_of_ble_eq_true rfl⟩) hS (fun q _ h => hFc q h) hFc (fun r u t H locs ht hvm hw hB hz1 hk1 hS => ?_)
          rw [show r = q_11.1 from hw]
          have hP : va_P (DG G) clP3 (wC G a q_11.2 F U S D R M N P) H := by rw [← ht]; exact hB.1
          have hD : va_D A (wC G a q_11.2 F U S D R M N P) := hB.2.weaken (fun _ p _ h => hFc p.1 h)
          clear hB hFc hw hk1
          refine W.widen (k := 0) (n := 0) (Nat.le_of_ble_eq_true rfl) (Nat.le_of_ble_eq_true rfl) ?_
          simp only [Option.some.injEq, Prod.mk.injEq] at hm
          obtain ⟨rfl, rfl, rfl, rfl⟩ := hm
          refine W.widen (k := 0) (n := 0) (Nat.le_of_ble_eq_true rfl) (Nat.le_of_ble_eq_true rfl) ?_
          exact W.iret (v := q_11.1) hx hb hr (fun t ht hW => ⟨⟨q_11.1, (), rfl, rfl, ⟨by rw [ht]; exact hP, by rw [hAe]; exact hD⟩⟩, by rw [hAe]; exact hS.F ht⟩) (by rw [hAe]; exact hS.2.2) dX10_find_115 hlocks
        · rw [if_neg c_10] at hm
          by_cases c_12 : q_2 = 3
          · rw [if_pos c_12] at hm
            rw [c_12]
            refine lv_tableIn (off := 100) (tgt := 116) hx hb dX10_find_16 (by decide) (by decide) (by decide) (by decide) ?_
            refine lv_aload_n hx hb dX10_find_116 rfl (lv_at hl 2 rfl) ?_
            refine va_get (D := DG G) (ci := 9) (v := .ref (a.1 13)) (C := RX10) (T := TX10) (N := 6) hx hb hts inW_X10 hown hK hP 24 rfl rfl 2 (by decide) (hts _ wm197) (fun _ h9 => h9) rfl dX10_find_117 ?_
            refine lv_iload_n hx hb dX10_find_120 rfl (lv_at hl 0 rfl) ?_
            obtain ⟨q_13, hq_13, hm⟩ := bind_some hm
            have hFc := free_all hD hS hA
            refine va_calli (va_runV (As := [.int q_1]) (rest := []) ⟨hx, hb, hml, hown, hts⟩ (K_X7_typeOfConstructor l hfl G a T F U S D R M N P q_1  q_13 hq_13 H.size) (cwV 1 hts (gV wm475 wm476 wm477 wm4 wm478) rfl rfl rfl (by decide +kernel) ⟨(by show 1 + 1 ≤ 500 + (d + 1) * 2; omega), (by show 8 + (2 + 11) + (21) ≤ 12000 + (d + 1) * 80; omega)⟩) (pre_v (pre_w hK hP hD hS hE hFc) (va_recv hK hP (ci := 6) (q0 := 13) rfl rfl)) rfl rfl hl.1 rfl (lv_room (Nat.le_of_ble_eq_true rfl)) dX10_find_121 ⟨Nat.le_of_ble_eq_true rfl, Nat.le_of_ble_eq_true rfl⟩) hS (fun q _ h => hFc q h) hFc (fun r u t H locs ht hvm hw hB hz1 hk1 hS => ?_)
            rw [show r = q_13 from hw]
            have hP : va_P (DG G) clP3 (wC G a T F U S D R M N P) H := by rw [← ht]; exact hB.1
            have hD : va_D A (wC G a T F U S D R M N P) := hB.2.weaken (fun _ p _ h => hFc p.1 h)
            clear hB hFc hw hk1
            refine W.widen (k := 0) (n := 0) (Nat.le_of_ble_eq_true rfl) (Nat.le_of_ble_eq_true rfl) ?_
            simp only [Option.some.injEq, Prod.mk.injEq] at hm
            obtain ⟨rfl, rfl, rfl, rfl⟩ := hm
            refine W.widen (k := 0) (n := 0) (Nat.le_of_ble_eq_true rfl) (Nat.le_of_ble_eq_true rfl) ?_
            exact W.iret (v := q_13) hx hb hr (fun t ht hW => ⟨⟨q_13, (), rfl, rfl, ⟨by rw [ht]; exact hP, by rw [hAe]; exact hD⟩⟩, by rw [hAe]; exact hS.F ht⟩) (by rw [hAe]; exact hS.2.2) dX10_find_124 hlocks
          · rw [if_neg c_12] at hm
            by_cases c_14 : q_2 = 4
            · rw [if_pos c_14] at hm
              rw [c_14]
              refine lv_tableIn (off := 109) (tgt := 125) hx hb dX10_find_16 (by decide) (by decide) (by decide) (by decide) ?_
              refine lv_aload_n hx hb dX10_find_125 rfl (lv_at hl 2 rfl) ?_
              refine va_get (D := DG G) (ci := 9) (v := .ref (a.1 21)) (C := RX10) (T := TX10) (N := 6) hx hb hts inW_X10 hown hK hP 24 rfl rfl 3 (by decide) (hts _ wm198) (fun _ h9 => h9) rfl dX10_find_126 ?_
              refine lv_iload_n hx hb dX10_find_129 rfl (lv_at hl 0 rfl) ?_
              obtain ⟨q_15, hq_15, hm⟩ := bind_some hm
              have hFc := free_all hD hS hA
              refine va_calli (va_runV (As := [.int q_1]) (rest := []) ⟨hx, hb, hml, hown, hts⟩ (k_X0_typeOfFunction l hfl G a T F U S D R M N P hlk q_1  q_15 hq_15 H.size) (cwV 1 hts (gV wm483 wm484 wm485 wm5 wm486) rfl rfl rfl (by decide +kernel) ⟨(by show 1 + 1 ≤ 500 + (d + 1) * 2; omega), (by show 8 + (3 + 11) + (21) ≤ 12000 + (d + 1) * 80; omega)⟩) (pre_v (pre_w hK hP hD hS hE hFc) (va_recv hK hP (ci := 0) (q0 := 21) rfl rfl)) rfl rfl hl.1 rfl (lv_room (Nat.le_of_ble_eq_true rfl)) dX10_find_130 ⟨Nat.le_of_ble_eq_true rfl, Nat.le_of_ble_eq_true rfl⟩) hS (fun q _ h => hFc q h) hFc (fun r u t H locs ht hvm hw hB hz1 hk1 hS => ?_)
              rw [show r = q_15 from hw]
              have hP : va_P (DG G) clP3 (wC G a T F U S D R M N P) H := by rw [← ht]; exact hB.1
              have hD : va_D A (wC G a T F U S D R M N P) := hB.2.weaken (fun _ p _ h => hFc p.1 h)
              clear hB hFc hw hk1
              refine W.widen (k := 0) (n := 0) (Nat.le_of_ble_eq_true rfl) (Nat.le_of_ble_eq_true rfl) ?_
              simp only [Option.some.injEq, Prod.mk.injEq] at hm
              obtain ⟨rfl, rfl, rfl, rfl⟩ := hm
              refine W.widen (k := 0) (n := 0) (Nat.le_of_ble_eq_true rfl) (Nat.le_of_ble_eq_true rfl) ?_
              exact W.iret (v := q_15) hx hb hr (fun t ht hW => ⟨⟨q_15, (), rfl, rfl, ⟨by rw [ht]; exact hP, by rw [hAe]; exact hD⟩⟩, by rw [hAe]; exact hS.F ht⟩) (by rw [hAe]; exact hS.2.2) dX10_find_133 hlocks
            · rw [if_neg c_14] at hm
              by_cases c_16 : q_2 = 5
              · rw [if_pos c_16] at hm
                rw [c_16]
                refine lv_tableIn (off := 118) (tgt := 134) hx hb dX10_find_16 (by decide) (by decide) (by decide) (by decide) ?_
                refine lv_aload_n hx hb dX10_find_134 rfl (lv_at hl 2 rfl) ?_
                refine lv_iload_n hx hb dX10_find_135 rfl (lv_at hl 3 rfl) ?_
                obtain ⟨q_17, hq_17, hm⟩ := bind_some hm
                have hFc := free_all hD hS hA
                refine va_calli (va_runS (As := [.ref (a.1 24), .int p1]) (rest := []) ⟨hx, hb, hml, hown, hts⟩ (k_X10_ofFunctions l hfl G a d (f_X10_find d) ihd T F U S D R M N P hlk p1  q_17.1 q_17.2.1 q_17.2.2.1 q_17.2.2.2 hq_17 H.size) (cwS 2 hts (gS wm491 wm492 wm6 wm493) rfl rfl rfl (by decide +kernel) ⟨(by show 501 + d * 2 + 1 ≤ 500 + (d + 1) * 2; omega), (by show 8 + (6 + 11) + (12023 + d * 80) ≤ 12000 + (d + 1) * 80; omega)⟩) (pre_w hK hP hD hS hE hFc) rfl rfl hl.1 rfl (lv_room (Nat.le_of_ble_eq_true rfl)) dX10_find_136 ⟨Nat.le_of_ble_eq_true rfl, Nat.le_of_ble_eq_true rfl⟩) hS (fun q _ h => hFc q h) hFc (fun r u t H locs ht hvm hw hB hz1 hk1 hS => ?_)
                rw [show r = q_17.1 from hw]
                have hP : va_P (DG G) clP3 (wC G a q_17.2.1 q_17.2.2.1 q_17.2.2.2 S D R M N P) H := by rw [← ht]; exact hB.1
                have hD : va_D A (wC G a q_17.2.1 q_17.2.2.1 q_17.2.2.2 S D R M N P) := hB.2.weaken (fun _ p _ h => hFc p.1 h)
                clear hB hFc hw hk1
                refine W.widen (k := 0) (n := 0) (Nat.le_of_ble_eq_true rfl) (Nat.le_of_ble_eq_true rfl) ?_
                simp only [Option.some.injEq, Prod.mk.injEq] at hm
                obtain ⟨rfl, rfl, rfl, rfl⟩ := hm
                refine W.widen (k := 0) (n := 0) (Nat.le_of_ble_eq_true rfl) (Nat.le_of_ble_eq_true rfl) ?_
                exact W.iret (v := q_17.1) hx hb hr (fun t ht hW => ⟨⟨q_17.1, (), rfl, rfl, ⟨by rw [ht]; exact hP, by rw [hAe]; exact hD⟩⟩, by rw [hAe]; exact hS.F ht⟩) (by rw [hAe]; exact hS.2.2) dX10_find_139 hlocks
              · rw [if_neg c_16] at hm
                by_cases c_18 : q_2 = 6
                · rw [if_pos c_18] at hm
                  rw [c_18]
                  refine lv_tableIn (off := 124) (tgt := 140) hx hb dX10_find_16 (by decide) (by decide) (by decide) (by decide) ?_
                  refine lv_aload_n hx hb dX10_find_140 rfl (lv_at hl 2 rfl) ?_
                  refine lv_iload_n hx hb dX10_find_141 rfl (lv_at hl 3 rfl) ?_
                  obtain ⟨q_19, hq_19, hm⟩ := bind_some hm
                  have hFc := free_all hD hS hA
                  refine va_calli (va_runS (As := [.ref (a.1 24), .int p1]) (rest := []) ⟨hx, hb, hml, hown, hts⟩ (k_X10_ofLambda l hfl G a d (f_X10_find d) ihd T F U S D R M N P hlk p1  q_19.1 q_19.2.1 q_19.2.2.1 q_19.2.2.2 hq_19 H.size) (cwS 2 hts (gS wm548 wm549 wm6 wm550) rfl rfl rfl (by decide +kernel) ⟨(by show 501 + d * 2 + 1 ≤ 500 + (d + 1) * 2; omega), (by show 8 + (6 + 11) + (12023 + d * 80) ≤ 12000 + (d + 1) * 80; omega)⟩) (pre_w hK hP hD hS hE hFc) rfl rfl hl.1 rfl (lv_room (Nat.le_of_ble_eq_true rfl)) dX10_find_142 ⟨Nat.le_of_ble_eq_true rfl, Nat.le_of_ble_eq_true rfl⟩) hS (fun q _ h => hFc q h) hFc (fun r u t H locs ht hvm hw hB hz1 hk1 hS => ?_)
                  rw [show r = q_19.1 from hw]
                  have hP : va_P (DG G) clP3 (wC G a q_19.2.1 q_19.2.2.1 q_19.2.2.2 S D R M N P) H := by rw [← ht]; exact hB.1
                  have hD : va_D A (wC G a q_19.2.1 q_19.2.2.1 q_19.2.2.2 S D R M N P) := hB.2.weaken (fun _ p _ h => hFc p.1 h)
                  clear hB hFc hw hk1
                  refine W.widen (k := 0) (n := 0) (Nat.le_of_ble_eq_true rfl) (Nat.le_of_ble_eq_true rfl) ?_
                  simp only [Option.some.injEq, Prod.mk.injEq] at hm
                  obtain ⟨rfl, rfl, rfl, rfl⟩ := hm
                  refine W.widen (k := 0) (n := 0) (Nat.le_of_ble_eq_true rfl) (Nat.le_of_ble_eq_true rfl) ?_
                  exact W.iret (v := q_19.1) hx hb hr (fun t ht hW => ⟨⟨q_19.1, (), rfl, rfl, ⟨by rw [ht]; exact hP, by rw [hAe]; exact hD⟩⟩, by rw [hAe]; exact hS.F ht⟩) (by rw [hAe]; exact hS.2.2) dX10_find_145 hlocks
                · rw [if_neg c_18] at hm
                  by_cases c_20 : q_2 = 7
                  · rw [if_pos c_20] at hm
                    rw [c_20]
                    refine lv_tableIn (off := 130) (tgt := 146) hx hb dX10_find_16 (by decide) (by decide) (by decide) (by decide) ?_
                    refine lv_aload_n hx hb dX10_find_146 rfl (lv_at hl 2 rfl) ?_
                    refine lv_iload_n hx hb dX10_find_147 rfl (lv_at hl 3 rfl) ?_
                    obtain ⟨q_21, hq_21, hm⟩ := bind_some hm
                    have hFc := free_all hD hS hA
                    refine va_calli (va_runS (As := [.ref (a.1 24), .int p1]) (rest := []) ⟨hx, hb, hml, hown, hts⟩ (k_X10_ofApplication l hfl G a d (f_X10_find d) ihd T F U S D R M N P hlk p1  q_21.1 q_21.2.1 q_21.2.2.1 q_21.2.2.2 hq_21 H.size) (cwS 2 hts (gS wm552 wm553 wm6 wm554) rfl rfl rfl (by decide +kernel) ⟨(by show 501 + d * 2 + 1 ≤ 500 + (d + 1) * 2; omega), (by show 8 + (7 + 11) + (12023 + d * 80) ≤ 12000 + (d + 1) * 80; omega)⟩) (pre_w hK hP hD hS hE hFc) rfl rfl hl.1 rfl (lv_room (Nat.le_of_ble_eq_true rfl)) dX10_find_148 ⟨Nat.le_of_ble_eq_true rfl, Nat.le_of_ble_eq_true rfl⟩) hS (fun q _ h => hFc q h) hFc (fun r u t H locs ht hvm hw hB hz1 hk1 hS => ?_)
                    rw [show r = q_21.1 from hw]
                    have hP : va_P (DG G) clP3 (wC G a q_21.2.1 q_21.2.2.1 q_21.2.2.2 S D R M N P) H := by rw [← ht]; exact hB.1
                    have hD : va_D A (wC G a q_21.2.1 q_21.2.2.1 q_21.2.2.2 S D R M N P) := hB.2.weaken (fun _ p _ h => hFc p.1 h)
                    clear hB hFc hw hk1
                    refine W.widen (k := 0) (n := 0) (Nat.le_of_ble_eq_true rfl) (Nat.le_of_ble_eq_true rfl) ?_
                    simp only [Option.some.injEq, Prod.mk.injEq] at hm
                    obtain ⟨rfl, rfl, rfl, rfl⟩ := hm
                    refine W.widen (k := 0) (n := 0) (Nat.le_of_ble_eq_true rfl) (Nat.le_of_ble_eq_true rfl) ?_
                    exact W.iret (v := q_21.1) hx hb hr (fun t ht hW => ⟨⟨q_21.1, (), rfl, rfl, ⟨by rw [ht]; exact hP, by rw [hAe]; exact hD⟩⟩, by rw [hAe]; exact hS.F ht⟩) (by rw [hAe]; exact hS.2.2) dX10_find_151 hlocks
                  · rw [if_neg c_20] at hm
                    refine lv_tableOut (tgt := 152) hx hb dX10_find_16 (tsw_out (lo := 0) (hi := 7) (by omega) (fun k h1 h2 => ?_)) (by decide) ?_
                    · have hk : k = 0 ∨ k = 1 ∨ k = 2 ∨ k = 3 ∨ k = 4 ∨ k = 5 ∨ k = 6 ∨ k = 7 := by omega
                      rcases hk with rfl | rfl | rfl | rfl | rfl | rfl | rfl | rfl <;> intro hq
                      all_goals first | exact c_4 (Int32.toInt_inj.mp hq) | exact c_7 (Int32.toInt_inj.mp hq) | exact c_10 (Int32.toInt_inj.mp hq) | exact c_12 (Int32.toInt_inj.mp hq) | exact c_14 (Int32.toInt_inj.mp hq) | exact c_16 (Int32.toInt_inj.mp hq) | exact c_18 (Int32.toInt_inj.mp hq) | exact c_20 (Int32.toInt_inj.mp hq)
                    · refine lv_iconst (v := (-1)) hx hb dX10_find_152 (by decide) ?_
                      simp only [Option.some.injEq, Prod.mk.injEq] at hm
                      obtain ⟨rfl, rfl, rfl, rfl⟩ := hm
                      refine W.widen (k := 0) (n := 0) (Nat.le_of_ble_eq_true rfl) (Nat.le_of_ble_eq_true rfl) ?_
                      exact W.iret (v := (-1)) hx hb hr (fun t ht hW => ⟨⟨(-1), (), rfl, rfl, ⟨by rw [ht]; exact hP, by rw [hAe]; exact hD⟩⟩, by rw [hAe]; exact hS.F ht⟩) (by rw [hAe]; exact hS.2.2) dX10_find_153 hlocks
def f_X10_levelOf (T : TS) (F : FS) (U : US) (S : SS) (D : DS) (P : PS) (p1 : Int32) : Option (Int32 × TS × FS × US) := (Option.bind (g_X9_mark T) (fun q_1 => (Option.bind (g_X8_become_n U) (fun q_2 => (Option.bind (f_X10_find 40 T F q_2 S D P p1) (fun q_3 => (Option.bind (g_X1_formOf q_3.2.1 q_3.2.2.1 q_3.1) (fun q_4 => (Option.bind (g_X9_kindOf q_4.2.1 q_4.1) (fun q_5 => (if q_5 = 0 then (Option.bind (g_X9_firstOf q_4.2.1 q_4.1) (fun q_8 => (Option.bind (g_X9_release q_4.2.1 q_1) (fun q_9 => some (q_8, q_9, q_4.2.2, q_3.2.2.2))))) else (Option.bind (g_X9_release q_4.2.1 q_1) (fun q_7 => some ((-1), q_7, q_4.2.2, q_3.2.2.2))))))))))))))
set_option maxHeartbeats 2000000 in
set_option maxRecDepth 100000 in
theorem k_X10_levelOf (l : Launch) (hfl : l.stackTraces = false) (G : GC) (a : AS) (T : TS) (F : FS) (U : US) (S : SS) (D : DS) (R : RS) (M : MS) (N : NS) (P : PS) (hlk : lkA a D.1.toNatClampNeg D.2.1.toNatClampNeg) (p1 : Int32) (r9 : Int32) (T9 : TS) (F9 : FS) (U9 : US) (hm : f_X10_levelOf T F U S D P p1 = some (r9, T9, F9, U9)) (sz : Nat) : Met l yX10_levelOf (Cond.code yX10_levelOf cX10_levelOf 5 (some .int) :: W0) ({ frames := 581, cells := 0, slots := 0, locals := 15223 }) (va_Pc [.ref (a.1 24), .int p1] (WD G (wC G a T F U S D R M N P) sz)) (va_Qi (fun (r : Int32) (_ : Unit) => r = r9) (fun _ t => PW G (va_A (wC G a T F U S D R M N P) sz) (wC G a T9 F9 U9 S D R M N P) t) (va_A (wC G a T F U S D R M N P) sz)) 0 0 (va_A (wC G a T F U S D R M N P) sz) := by
  rw [f_X10_levelOf] at hm
  refine Met.ofW (cc := cX10_levelOf) (maxL := 5) (ret := (some .int)) (by decide) rfl ?_
  intro p e s m args below meth c s₁ B hml hv
  obtain ⟨rfl, hsz, hP, hK, hD0, hE⟩ := hv
  have hx := B.exec
  have hb := B.bytes
  have hr := B.returns
  have hts := w0_tail B.pre
  have hown : s.vm.findClass RX10 = some m.cls := findClass_of_methodNamed B.named
  have hlocks := B.notSynchronized
  have hD := hD0.self (sz := sz)
  obtain ⟨A, hAe⟩ : ∃ A, (va_A (wC G a T F U S D R M N P) sz) = A := ⟨_, rfl⟩
  rw [hAe] at hD hE
  have hA : ∀ q : Nat, s.heap.size ≤ q → A q := fun q h => by rw [← hAe]; exact Or.inr (by rw [← hsz]; exact h)
  have hS : va_S A s.heap s.heap [] := va_S.rf
  obtain ⟨H, hHe⟩ : ∃ H : Heap, H = s.heap := ⟨_, rfl⟩
  have hP : va_P (DG G) clP3 (wC G a T F U S D R M N P) H := by rw [hHe]; exact hP
  have hS : va_S A s.heap H [] := by rw [hHe]; exact hS
  have hl := lv_entry ([.ref (a.1 24), .int p1]) (n := 5) (Nat.le_of_ble_eq_true rfl)
  rw [lg_entry_eq, ← hHe]
  generalize (lg_sl ([.ref (a.1 24), .int p1]) ++ List.replicate (5 - (lg_sl ([.ref (a.1 24), .int p1])).length) Slot.unset).toArray = ls at hl ⊢
  have hl : lv_has ls 5 [(0, .ref (a.1 24)), (1, .int p1)] := hl
  refine lv_aload_n hx hb dX10_levelOf_0 rfl (lv_at hl 0 rfl) ?_
  refine va_get (D := DG G) (ci := 9) (v := .ref (a.1 1)) (C := RX10) (T := TX10) (N := 6) hx hb hts inW_X10 hown hK hP 24 rfl rfl 0 (by decide) (hts _ wm195) (fun _ h9 => h9) rfl dX10_levelOf_1 ?_
  obtain ⟨q_1, hq_1, hm⟩ := bind_some hm
  have hFc := free_all hD hS hA
  refine va_calli (va_runV (As := []) (rest := []) ⟨hx, hb, hml, hown, hts⟩ (K_X9_mark l hfl G a T F U S D R M N P   q_1 hq_1 H.size) (cwV 0 hts (gV wm418 wm411 wm412 wm2 wm413) rfl rfl rfl (by decide +kernel) ⟨Nat.le_of_ble_eq_true rfl, Nat.le_of_ble_eq_true rfl⟩) (pre_v (pre_w hK hP hD hS hE hFc) (va_recv hK hP (ci := 8) (q0 := 1) rfl rfl)) rfl rfl hl.1 rfl (lv_room (Nat.le_of_ble_eq_true rfl)) dX10_levelOf_4 ⟨Nat.le_of_ble_eq_true rfl, Nat.le_of_ble_eq_true rfl⟩) hS (fun q _ h => hFc q h) hFc (fun r u t H locs ht hvm hw hB hz1 hk1 hS => ?_)
  rw [show r = q_1 from hw]
  have hP : va_P (DG G) clP3 (wC G a T F U S D R M N P) H := by rw [← ht]; exact hB.1
  have hD : va_D A (wC G a T F U S D R M N P) := hB.2.weaken (fun _ p _ h => hFc p.1 h)
  clear hB hFc hw hk1
  refine W.widen (k := 0) (n := 0) (Nat.le_of_ble_eq_true rfl) (Nat.le_of_ble_eq_true rfl) ?_
  refine lv_istore_n (lv' := [(2, .int q_1), (0, .ref (a.1 24)), (1, .int p1)]) hx hb dX10_levelOf_7 rfl hl (by decide) rfl (fun ls hl => ?_)
  refine lv_aload_n hx hb dX10_levelOf_8 rfl (lv_at hl 1 rfl) ?_
  refine va_get (D := DG G) (ci := 9) (v := .ref (a.1 27)) (C := RX10) (T := TX10) (N := 6) hx hb hts inW_X10 hown hK hP 24 rfl rfl 5 (by decide) (hts _ wm200) (fun _ h9 => h9) rfl dX10_levelOf_9 ?_
  refine lv_aload_n hx hb dX10_levelOf_12 rfl (lv_at hl 1 rfl) ?_
  refine va_get (D := DG G) (ci := 9) (v := .ref (a.1 25)) (C := RX10) (T := TX10) (N := 6) hx hb hts inW_X10 hown hK hP 24 rfl rfl 4 (by decide) (hts _ wm199) (fun _ h9 => h9) rfl dX10_levelOf_13 ?_
  obtain ⟨q_2, hq_2, hm⟩ := bind_some hm
  have hFc := free_all hD hS hA
  refine va_callv (va_runV (As := [.ref (a.1 25)]) (rest := []) ⟨hx, hb, hml, hown, hts⟩ (K_X8_become_n l hfl G a T F U S D R M N P   q_2 hq_2 H.size) (cwV 1 hts (gV wm419 wm420 wm421 wm7 wm422) rfl rfl rfl (by decide +kernel) ⟨Nat.le_of_ble_eq_true rfl, Nat.le_of_ble_eq_true rfl⟩) (pre_v (pre_w hK hP hD hS hE hFc) (va_recv hK hP (ci := 7) (q0 := 27) rfl rfl)) rfl rfl hl.1 rfl (lv_room (Nat.le_of_ble_eq_true rfl)) dX10_levelOf_16 ⟨Nat.le_of_ble_eq_true rfl, Nat.le_of_ble_eq_true rfl⟩) hS (fun q _ h => hFc q h) hFc (fun u t H locs ht hvm hw hB hz1 hk1 hS => ?_)
  have hP : va_P (DG G) clP3 (wC G a T F q_2 S D R M N P) H := by rw [← ht]; exact hB.1
  have hD : va_D A (wC G a T F q_2 S D R M N P) := hB.2.weaken (fun _ p _ h => hFc p.1 h)
  clear hB hFc hk1
  refine W.widen (k := 0) (n := 0) (Nat.le_of_ble_eq_true rfl) (Nat.le_of_ble_eq_true rfl) ?_
  refine lv_aload_n hx hb dX10_levelOf_19 rfl (lv_at hl 1 rfl) ?_
  refine va_get (D := DG G) (ci := 9) (v := .ref (a.1 11)) (C := RX10) (T := TX10) (N := 6) hx hb hts inW_X10 hown hK hP 24 rfl rfl 1 (by decide) (hts _ wm196) (fun _ h9 => h9) rfl dX10_levelOf_20 ?_
  refine lv_aload_n hx hb dX10_levelOf_23 rfl (lv_at hl 1 rfl) ?_
  refine lv_iload_n hx hb dX10_levelOf_24 rfl (lv_at hl 2 rfl) ?_
  obtain ⟨q_3, hq_3, hm⟩ := bind_some hm
  have hFc := free_all hD hS hA
  refine va_calli (va_runS (As := [.ref (a.1 24), .int p1]) (rest := [.ref (a.1 11)]) ⟨hx, hb, hml, hown, hts⟩ (k_X10_find l hfl G a 40 T F q_2 S D R M N P hlk p1  q_3.1 q_3.2.1 q_3.2.2.1 q_3.2.2.2 hq_3 H.size) (cwS 2 hts (gS wm427 wm428 wm6 wm429) rfl rfl rfl (by decide +kernel) ⟨Nat.le_of_ble_eq_true rfl, Nat.le_of_ble_eq_true rfl⟩) (pre_w hK hP hD hS hE hFc) rfl rfl hl.1 rfl (lv_room (Nat.le_of_ble_eq_true rfl)) dX10_levelOf_25 ⟨Nat.le_of_ble_eq_true rfl, Nat.le_of_ble_eq_true rfl⟩) hS (fun q _ h => hFc q h) hFc (fun r u t H locs ht hvm hw hB hz1 hk1 hS => ?_)
  rw [show r = q_3.1 from hw]
  have hP : va_P (DG G) clP3 (wC G a q_3.2.1 q_3.2.2.1 q_3.2.2.2 S D R M N P) H := by rw [← ht]; exact hB.1
  have hD : va_D A (wC G a q_3.2.1 q_3.2.2.1 q_3.2.2.2 S D R M N P) := hB.2.weaken (fun _ p _ h => hFc p.1 h)
  clear hB hFc hw hk1
  refine W.widen (k := 0) (n := 0) (Nat.le_of_ble_eq_true rfl) (Nat.le_of_ble_eq_true rfl) ?_
  obtain ⟨q_4, hq_4, hm⟩ := bind_some hm
  have hFc := free_all hD hS hA
  refine va_calli (va_runV (As := [.int q_3.1]) (rest := []) ⟨hx, hb, hml, hown, hts⟩ (K_X1_formOf l hfl G a q_3.2.1 q_3.2.2.1 q_3.2.2.2 S D R M N P q_3.1  q_4.1 q_4.2.1 q_4.2.2 hq_4 H.size) (cwV 1 hts (gV wm494 wm495 wm496 wm3 wm497) rfl rfl rfl (by decide +kernel) ⟨Nat.le_of_ble_eq_true rfl, Nat.le_of_ble_eq_true rfl⟩) (pre_v (pre_w hK hP hD hS hE hFc) (va_recv hK hP (ci := 1) (q0 := 11) rfl rfl)) rfl rfl hl.1 rfl (lv_room (Nat.le_of_ble_eq_true rfl)) dX10_levelOf_28 ⟨Nat.le_of_ble_eq_true rfl, Nat.le_of_ble_eq_true rfl⟩) hS (fun q _ h => hFc q h) hFc (fun r u t H locs ht hvm hw hB hz1 hk1 hS => ?_)
  rw [show r = q_4.1 from hw]
  have hP : va_P (DG G) clP3 (wC G a q_4.2.1 q_4.2.2 q_3.2.2.2 S D R M N P) H := by rw [← ht]; exact hB.1
  have hD : va_D A (wC G a q_4.2.1 q_4.2.2 q_3.2.2.2 S D R M N P) := hB.2.weaken (fun _ p _ h => hFc p.1 h)
  clear hB hFc hw hk1
  refine W.widen (k := 0) (n := 0) (Nat.le_of_ble_eq_true rfl) (Nat.le_of_ble_eq_true rfl) ?_
  refine lv_istore_n (lv' := [(3, .int q_4.1), (2, .int q_1), (0, .ref (a.1 24)), (1, .int p1)]) hx hb dX10_levelOf_31 rfl hl (by decide) rfl (fun ls hl => ?_)
  refine lv_aload_n hx hb dX10_levelOf_32 rfl (lv_at hl 2 rfl) ?_
  refine va_get (D := DG G) (ci := 9) (v := .ref (a.1 1)) (C := RX10) (T := TX10) (N := 6) hx hb hts inW_X10 hown hK hP 24 rfl rfl 0 (by decide) (hts _ wm195) (fun _ h9 => h9) rfl dX10_levelOf_33 ?_
  refine lv_iload_n hx hb dX10_levelOf_36 rfl (lv_at hl 0 rfl) ?_
  obtain ⟨q_5, hq_5, hm⟩ := bind_some hm
  have hFc := free_all hD hS hA
  refine va_calli (va_runV (As := [.int q_4.1]) (rest := []) ⟨hx, hb, hml, hown, hts⟩ (K_X9_kindOf l hfl G a q_4.2.1 q_4.2.2 q_3.2.2.2 S D R M N P q_4.1  q_5 hq_5 H.size) (cwV 1 hts (gV wm434 wm435 wm436 wm2 wm437) rfl rfl rfl (by decide +kernel) ⟨Nat.le_of_ble_eq_true rfl, Nat.le_of_ble_eq_true rfl⟩) (pre_v (pre_w hK hP hD hS hE hFc) (va_recv hK hP (ci := 8) (q0 := 1) rfl rfl)) rfl rfl hl.1 rfl (lv_room (Nat.le_of_ble_eq_true rfl)) dX10_levelOf_37 ⟨Nat.le_of_ble_eq_true rfl, Nat.le_of_ble_eq_true rfl⟩) hS (fun q _ h => hFc q h) hFc (fun r u t H locs ht hvm hw hB hz1 hk1 hS => ?_)
  rw [show r = q_5 from hw]
  have hP : va_P (DG G) clP3 (wC G a q_4.2.1 q_4.2.2 q_3.2.2.2 S D R M N P) H := by rw [← ht]; exact hB.1
  have hD : va_D A (wC G a q_4.2.1 q_4.2.2 q_3.2.2.2 S D R M N P) := hB.2.weaken (fun _ p _ h => hFc p.1 h)
  clear hB hFc hw hk1
  refine W.widen (k := 0) (n := 0) (Nat.le_of_ble_eq_true rfl) (Nat.le_of_ble_eq_true rfl) ?_
  refine lv_if_ne (tgt := 54) hx hb dX10_levelOf_40 (by decide) (fun c_6 => ?_) (fun c_6 => ?_)
  · rw [if_neg c_6] at hm
    refine lv_iconst (v := (-1)) hx hb dX10_levelOf_54 (by decide) ?_
    refine lv_istore (lv' := [(4, .int (-1)), (3, .int q_4.1), (2, .int q_1), (0, .ref (a.1 24)), (1, .int p1)]) hx hb dX10_levelOf_55 hl (by decide) rfl (fun ls hl => ?_)
    refine lv_aload_n hx hb dX10_levelOf_57 rfl (lv_at hl 3 rfl) ?_
    refine va_get (D := DG G) (ci := 9) (v := .ref (a.1 1)) (C := RX10) (T := TX10) (N := 6) hx hb hts inW_X10 hown hK hP 24 rfl rfl 0 (by decide) (hts _ wm195) (fun _ h9 => h9) rfl dX10_levelOf_58 ?_
    refine lv_iload_n hx hb dX10_levelOf_61 rfl (lv_at hl 2 rfl) ?_
    obtain ⟨q_7, hq_7, hm⟩ := bind_some hm
    have hFc := free_all hD hS hA
    refine va_callv (va_runV (As := [.int q_1]) (rest := []) ⟨hx, hb, hml, hown, hts⟩ (K_X9_release l hfl G a q_4.2.1 q_4.2.2 q_3.2.2.2 S D R M N P q_1  q_7 hq_7 H.size) (cwV 1 hts (gV wm561 wm509 wm510 wm2 wm511) rfl rfl rfl (by decide +kernel) ⟨Nat.le_of_ble_eq_true rfl, Nat.le_of_ble_eq_true rfl⟩) (pre_v (pre_w hK hP hD hS hE hFc) (va_recv hK hP (ci := 8) (q0 := 1) rfl rfl)) rfl rfl hl.1 rfl (lv_room (Nat.le_of_ble_eq_true rfl)) dX10_levelOf_62 ⟨Nat.le_of_ble_eq_true rfl, Nat.le_of_ble_eq_true rfl⟩) hS (fun q _ h => hFc q h) hFc (fun u t H locs ht hvm hw hB hz1 hk1 hS => ?_)
    have hP : va_P (DG G) clP3 (wC G a q_7 q_4.2.2 q_3.2.2.2 S D R M N P) H := by rw [← ht]; exact hB.1
    have hD : va_D A (wC G a q_7 q_4.2.2 q_3.2.2.2 S D R M N P) := hB.2.weaken (fun _ p _ h => hFc p.1 h)
    clear hB hFc hk1
    refine W.widen (k := 0) (n := 0) (Nat.le_of_ble_eq_true rfl) (Nat.le_of_ble_eq_true rfl) ?_
    refine lv_iload hx hb dX10_levelOf_65 (lv_at hl 0 rfl) ?_
    simp only [Option.some.injEq, Prod.mk.injEq] at hm
    obtain ⟨rfl, rfl, rfl, rfl⟩ := hm
    refine W.widen (k := 0) (n := 0) (Nat.le_of_ble_eq_true rfl) (Nat.le_of_ble_eq_true rfl) ?_
    exact W.iret (v := (-1)) hx hb hr (fun t ht hW => ⟨⟨(-1), (), rfl, rfl, ⟨by rw [ht]; exact hP, by rw [hAe]; exact hD⟩⟩, by rw [hAe]; exact hS.F ht⟩) (by rw [hAe]; exact hS.2.2) dX10_levelOf_67 hlocks
  · rw [if_pos c_6] at hm
    refine lv_aload_n hx hb dX10_levelOf_43 rfl (lv_at hl 2 rfl) ?_
    refine va_get (D := DG G) (ci := 9) (v := .ref (a.1 1)) (C := RX10) (T := TX10) (N := 6) hx hb hts inW_X10 hown hK hP 24 rfl rfl 0 (by decide) (hts _ wm195) (fun _ h9 => h9) rfl dX10_levelOf_44 ?_
    refine lv_iload_n hx hb dX10_levelOf_47 rfl (lv_at hl 0 rfl) ?_
    obtain ⟨q_8, hq_8, hm⟩ := bind_some hm
    have hFc := free_all hD hS hA
    refine va_calli (va_runV (As := [.int q_4.1]) (rest := []) ⟨hx, hb, hml, hown, hts⟩ (K_X9_firstOf l hfl G a q_4.2.1 q_4.2.2 q_3.2.2.2 S D R M N P q_4.1  q_8 hq_8 H.size) (cwV 1 hts (gV wm430 wm431 wm432 wm2 wm433) rfl rfl rfl (by decide +kernel) ⟨Nat.le_of_ble_eq_true rfl, Nat.le_of_ble_eq_true rfl⟩) (pre_v (pre_w hK hP hD hS hE hFc) (va_recv hK hP (ci := 8) (q0 := 1) rfl rfl)) rfl rfl hl.1 rfl (lv_room (Nat.le_of_ble_eq_true rfl)) dX10_levelOf_48 ⟨Nat.le_of_ble_eq_true rfl, Nat.le_of_ble_eq_true rfl⟩) hS (fun q _ h => hFc q h) hFc (fun r u t H locs ht hvm hw hB hz1 hk1 hS => ?_)
    rw [show r = q_8 from hw]
    have hP : va_P (DG G) clP3 (wC G a q_4.2.1 q_4.2.2 q_3.2.2.2 S D R M N P) H := by rw [← ht]; exact hB.1
    have hD : va_D A (wC G a q_4.2.1 q_4.2.2 q_3.2.2.2 S D R M N P) := hB.2.weaken (fun _ p _ h => hFc p.1 h)
    clear hB hFc hw hk1
    refine W.widen (k := 0) (n := 0) (Nat.le_of_ble_eq_true rfl) (Nat.le_of_ble_eq_true rfl) ?_
    refine lv_goto (tgt := 55) hx hb dX10_levelOf_51 (by decide) ?_
    refine lv_istore (lv' := [(4, .int q_8), (3, .int q_4.1), (2, .int q_1), (0, .ref (a.1 24)), (1, .int p1)]) hx hb dX10_levelOf_55 hl (by decide) rfl (fun ls hl => ?_)
    refine lv_aload_n hx hb dX10_levelOf_57 rfl (lv_at hl 3 rfl) ?_
    refine va_get (D := DG G) (ci := 9) (v := .ref (a.1 1)) (C := RX10) (T := TX10) (N := 6) hx hb hts inW_X10 hown hK hP 24 rfl rfl 0 (by decide) (hts _ wm195) (fun _ h9 => h9) rfl dX10_levelOf_58 ?_
    refine lv_iload_n hx hb dX10_levelOf_61 rfl (lv_at hl 2 rfl) ?_
    obtain ⟨q_9, hq_9, hm⟩ := bind_some hm
    have hFc := free_all hD hS hA
    refine va_callv (va_runV (As := [.int q_1]) (rest := []) ⟨hx, hb, hml, hown, hts⟩ (K_X9_release l hfl G a q_4.2.1 q_4.2.2 q_3.2.2.2 S D R M N P q_1  q_9 hq_9 H.size) (cwV 1 hts (gV wm561 wm509 wm510 wm2 wm511) rfl rfl rfl (by decide +kernel) ⟨Nat.le_of_ble_eq_true rfl, Nat.le_of_ble_eq_true rfl⟩) (pre_v (pre_w hK hP hD hS hE hFc) (va_recv hK hP (ci := 8) (q0 := 1) rfl rfl)) rfl rfl hl.1 rfl (lv_room (Nat.le_of_ble_eq_true rfl)) dX10_levelOf_62 ⟨Nat.le_of_ble_eq_true rfl, Nat.le_of_ble_eq_true rfl⟩) hS (fun q _ h => hFc q h) hFc (fun u t H locs ht hvm hw hB hz1 hk1 hS => ?_)
    have hP : va_P (DG G) clP3 (wC G a q_9 q_4.2.2 q_3.2.2.2 S D R M N P) H := by rw [← ht]; exact hB.1
    have hD : va_D A (wC G a q_9 q_4.2.2 q_3.2.2.2 S D R M N P) := hB.2.weaken (fun _ p _ h => hFc p.1 h)
    clear hB hFc hk1
    refine W.widen (k := 0) (n := 0) (Nat.le_of_ble_eq_true rfl) (Nat.le_of_ble_eq_true rfl) ?_
    refine lv_iload hx hb dX10_levelOf_65 (lv_at hl 0 rfl) ?_
    simp only [Option.some.injEq, Prod.mk.injEq] at hm
    obtain ⟨rfl, rfl, rfl, rfl⟩ := hm
    refine W.widen (k := 0) (n := 0) (Nat.le_of_ble_eq_true rfl) (Nat.le_of_ble_eq_true rfl) ?_
    exact W.iret (v := q_8) hx hb hr (fun t ht hW => ⟨⟨q_8, (), rfl, rfl, ⟨by rw [ht]; exact hP, by rw [hAe]; exact hD⟩⟩, by rw [hAe]; exact hS.F ht⟩) (by rw [hAe]; exact hS.2.2) dX10_levelOf_67 hlocks
def f_X10_isOfData (T : TS) (F : FS) (U : US) (S : SS) (D : DS) (P : PS) (p1 : Int32) : Option (Int32 × TS × FS × US) := (Option.bind (g_X9_mark T) (fun q_1 => (Option.bind (g_X8_become_n U) (fun q_2 => (Option.bind (f_X10_find 40 T F q_2 S D P p1) (fun q_3 => (Option.bind (g_X1_formOf q_3.2.1 q_3.2.2.1 q_3.1) (fun q_4 => (Option.bind (g_X9_kindOf q_4.2.1 q_4.1) (fun q_5 => (Option.bind (g_X9_release q_4.2.1 q_1) (fun q_6 => (if q_5 = 2 then some (1, q_6, q_4.2.2, q_3.2.2.2) else some (0, q_6, q_4.2.2, q_3.2.2.2))))))))))))))
set_option maxHeartbeats 2000000 in
set_option maxRecDepth 100000 in
theorem k_X10_isOfData (l : Launch) (hfl : l.stackTraces = false) (G : GC) (a : AS) (T : TS) (F : FS) (U : US) (S : SS) (D : DS) (R : RS) (M : MS) (N : NS) (P : PS) (hlk : lkA a D.1.toNatClampNeg D.2.1.toNatClampNeg) (p1 : Int32) (r9 : Int32) (T9 : TS) (F9 : FS) (U9 : US) (hm : f_X10_isOfData T F U S D P p1 = some (r9, T9, F9, U9)) (sz : Nat) : Met l yX10_isOfData (Cond.code yX10_isOfData cX10_isOfData 4 (some .boolean) :: W0) ({ frames := 581, cells := 0, slots := 0, locals := 15223 }) (va_Pc [.ref (a.1 24), .int p1] (WD G (wC G a T F U S D R M N P) sz)) (va_Qi (fun (r : Int32) (_ : Unit) => r = r9) (fun _ t => PW G (va_A (wC G a T F U S D R M N P) sz) (wC G a T9 F9 U9 S D R M N P) t) (va_A (wC G a T F U S D R M N P) sz)) 0 0 (va_A (wC G a T F U S D R M N P) sz) := by
  rw [f_X10_isOfData] at hm
  refine Met.ofW (cc := cX10_isOfData) (maxL := 4) (ret := (some .boolean)) (by decide) rfl ?_
  intro p e s m args below meth c s₁ B hml hv
  obtain ⟨rfl, hsz, hP, hK, hD0, hE⟩ := hv
  have hx := B.exec
  have hb := B.bytes
  have hr := B.returns
  have hts := w0_tail B.pre
  have hown : s.vm.findClass RX10 = some m.cls := findClass_of_methodNamed B.named
  have hlocks := B.notSynchronized
  have hD := hD0.self (sz := sz)
  obtain ⟨A, hAe⟩ : ∃ A, (va_A (wC G a T F U S D R M N P) sz) = A := ⟨_, rfl⟩
  rw [hAe] at hD hE
  have hA : ∀ q : Nat, s.heap.size ≤ q → A q := fun q h => by rw [← hAe]; exact Or.inr (by rw [← hsz]; exact h)
  have hS : va_S A s.heap s.heap [] := va_S.rf
  obtain ⟨H, hHe⟩ : ∃ H : Heap, H = s.heap := ⟨_, rfl⟩
  have hP : va_P (DG G) clP3 (wC G a T F U S D R M N P) H := by rw [hHe]; exact hP
  have hS : va_S A s.heap H [] := by rw [hHe]; exact hS
  have hl := lv_entry ([.ref (a.1 24), .int p1]) (n := 4) (Nat.le_of_ble_eq_true rfl)
  rw [lg_entry_eq, ← hHe]
  generalize (lg_sl ([.ref (a.1 24), .int p1]) ++ List.replicate (4 - (lg_sl ([.ref (a.1 24), .int p1])).length) Slot.unset).toArray = ls at hl ⊢
  have hl : lv_has ls 4 [(0, .ref (a.1 24)), (1, .int p1)] := hl
  refine lv_aload_n hx hb dX10_isOfData_0 rfl (lv_at hl 0 rfl) ?_
  refine va_get (D := DG G) (ci := 9) (v := .ref (a.1 1)) (C := RX10) (T := TX10) (N := 6) hx hb hts inW_X10 hown hK hP 24 rfl rfl 0 (by decide) (hts _ wm195) (fun _ h9 => h9) rfl dX10_isOfData_1 ?_
  obtain ⟨q_1, hq_1, hm⟩ := bind_some hm
  have hFc := free_all hD hS hA
  refine va_calli (va_runV (As := []) (rest := []) ⟨hx, hb, hml, hown, hts⟩ (K_X9_mark l hfl G a T F U S D R M N P   q_1 hq_1 H.size) (cwV 0 hts (gV wm418 wm411 wm412 wm2 wm413) rfl rfl rfl (by decide +kernel) ⟨Nat.le_of_ble_eq_true rfl, Nat.le_of_ble_eq_true rfl⟩) (pre_v (pre_w hK hP hD hS hE hFc) (va_recv hK hP (ci := 8) (q0 := 1) rfl rfl)) rfl rfl hl.1 rfl (lv_room (Nat.le_of_ble_eq_true rfl)) dX10_isOfData_4 ⟨Nat.le_of_ble_eq_true rfl, Nat.le_of_ble_eq_true rfl⟩) hS (fun q _ h => hFc q h) hFc (fun r u t H locs ht hvm hw hB hz1 hk1 hS => ?_)
  rw [show r = q_1 from hw]
  have hP : va_P (DG G) clP3 (wC G a T F U S D R M N P) H := by rw [← ht]; exact hB.1
  have hD : va_D A (wC G a T F U S D R M N P) := hB.2.weaken (fun _ p _ h => hFc p.1 h)
  clear hB hFc hw hk1
  refine W.widen (k := 0) (n := 0) (Nat.le_of_ble_eq_true rfl) (Nat.le_of_ble_eq_true rfl) ?_
  refine lv_istore_n (lv' := [(2, .int q_1), (0, .ref (a.1 24)), (1, .int p1)]) hx hb dX10_isOfData_7 rfl hl (by decide) rfl (fun ls hl => ?_)
  refine lv_aload_n hx hb dX10_isOfData_8 rfl (lv_at hl 1 rfl) ?_
  refine va_get (D := DG G) (ci := 9) (v := .ref (a.1 27)) (C := RX10) (T := TX10) (N := 6) hx hb hts inW_X10 hown hK hP 24 rfl rfl 5 (by decide) (hts _ wm200) (fun _ h9 => h9) rfl dX10_isOfData_9 ?_
  refine lv_aload_n hx hb dX10_isOfData_12 rfl (lv_at hl 1 rfl) ?_
  refine va_get (D := DG G) (ci := 9) (v := .ref (a.1 25)) (C := RX10) (T := TX10) (N := 6) hx hb hts inW_X10 hown hK hP 24 rfl rfl 4 (by decide) (hts _ wm199) (fun _ h9 => h9) rfl dX10_isOfData_13 ?_
  obtain ⟨q_2, hq_2, hm⟩ := bind_some hm
  have hFc := free_all hD hS hA
  refine va_callv (va_runV (As := [.ref (a.1 25)]) (rest := []) ⟨hx, hb, hml, hown, hts⟩ (K_X8_become_n l hfl G a T F U S D R M N P   q_2 hq_2 H.size) (cwV 1 hts (gV wm419 wm420 wm421 wm7 wm422) rfl rfl rfl (by decide +kernel) ⟨Nat.le_of_ble_eq_true rfl, Nat.le_of_ble_eq_true rfl⟩) (pre_v (pre_w hK hP hD hS hE hFc) (va_recv hK hP (ci := 7) (q0 := 27) rfl rfl)) rfl rfl hl.1 rfl (lv_room (Nat.le_of_ble_eq_true rfl)) dX10_isOfData_16 ⟨Nat.le_of_ble_eq_true rfl, Nat.le_of_ble_eq_true rfl⟩) hS (fun q _ h => hFc q h) hFc (fun u t H locs ht hvm hw hB hz1 hk1 hS => ?_)
  have hP : va_P (DG G) clP3 (wC G a T F q_2 S D R M N P) H := by rw [← ht]; exact hB.1
  have hD : va_D A (wC G a T F q_2 S D R M N P) := hB.2.weaken (fun _ p _ h => hFc p.1 h)
  clear hB hFc hk1
  refine W.widen (k := 0) (n := 0) (Nat.le_of_ble_eq_true rfl) (Nat.le_of_ble_eq_true rfl) ?_
  refine lv_aload_n hx hb dX10_isOfData_19 rfl (lv_at hl 1 rfl) ?_
  refine va_get (D := DG G) (ci := 9) (v := .ref (a.1 1)) (C := RX10) (T := TX10) (N := 6) hx hb hts inW_X10 hown hK hP 24 rfl rfl 0 (by decide) (hts _ wm195) (fun _ h9 => h9) rfl dX10_isOfData_20 ?_
  refine lv_aload_n hx hb dX10_isOfData_23 rfl (lv_at hl 1 rfl) ?_
  refine va_get (D := DG G) (ci := 9) (v := .ref (a.1 11)) (C := RX10) (T := TX10) (N := 6) hx hb hts inW_X10 hown hK hP 24 rfl rfl 1 (by decide) (hts _ wm196) (fun _ h9 => h9) rfl dX10_isOfData_24 ?_
  refine lv_aload_n hx hb dX10_isOfData_27 rfl (lv_at hl 1 rfl) ?_
  refine lv_iload_n hx hb dX10_isOfData_28 rfl (lv_at hl 2 rfl) ?_
  obtain ⟨q_3, hq_3, hm⟩ := bind_some hm
  have hFc := free_all hD hS hA
  refine va_calli (va_runS (As := [.ref (a.1 24), .int p1]) (rest := [.ref (a.1 11), .ref (a.1 1)]) ⟨hx, hb, hml, hown, hts⟩ (k_X10_find l hfl G a 40 T F q_2 S D R M N P hlk p1  q_3.1 q_3.2.1 q_3.2.2.1 q_3.2.2.2 hq_3 H.size) (cwS 2 hts (gS wm427 wm428 wm6 wm429) rfl rfl rfl (by decide +kernel) ⟨Nat.le_of_ble_eq_true rfl, Nat.le_of_ble_eq_true rfl⟩) (pre_w hK hP hD hS hE hFc) rfl rfl hl.1 rfl (lv_room (Nat.le_of_ble_eq_true rfl)) dX10_isOfData_29 ⟨Nat.le_of_ble_eq_true rfl, Nat.le_of_ble_eq_true rfl⟩) hS (fun q _ h => hFc q h) hFc (fun r u t H locs ht hvm hw hB hz1 hk1 hS => ?_)
  rw [show r = q_3.1 from hw]
  have hP : va_P (DG G) clP3 (wC G a q_3.2.1 q_3.2.2.1 q_3.2.2.2 S D R M N P) H := by rw [← ht]; exact hB.1
  have hD : va_D A (wC G a q_3.2.1 q_3.2.2.1 q_3.2.2.2 S D R M N P) := hB.2.weaken (fun _ p _ h => hFc p.1 h)
  clear hB hFc hw hk1
  refine W.widen (k := 0) (n := 0) (Nat.le_of_ble_eq_true rfl) (Nat.le_of_ble_eq_true rfl) ?_
  obtain ⟨q_4, hq_4, hm⟩ := bind_some hm
  have hFc := free_all hD hS hA
  refine va_calli (va_runV (As := [.int q_3.1]) (rest := [.ref (a.1 1)]) ⟨hx, hb, hml, hown, hts⟩ (K_X1_formOf l hfl G a q_3.2.1 q_3.2.2.1 q_3.2.2.2 S D R M N P q_3.1  q_4.1 q_4.2.1 q_4.2.2 hq_4 H.size) (cwV 1 hts (gV wm494 wm495 wm496 wm3 wm497) rfl rfl rfl (by decide +kernel) ⟨Nat.le_of_ble_eq_true rfl, Nat.le_of_ble_eq_true rfl⟩) (pre_v (pre_w hK hP hD hS hE hFc) (va_recv hK hP (ci := 1) (q0 := 11) rfl rfl)) rfl rfl hl.1 rfl (lv_room (Nat.le_of_ble_eq_true rfl)) dX10_isOfData_32 ⟨Nat.le_of_ble_eq_true rfl, Nat.le_of_ble_eq_true rfl⟩) hS (fun q _ h => hFc q h) hFc (fun r u t H locs ht hvm hw hB hz1 hk1 hS => ?_)
  rw [show r = q_4.1 from hw]
  have hP : va_P (DG G) clP3 (wC G a q_4.2.1 q_4.2.2 q_3.2.2.2 S D R M N P) H := by rw [← ht]; exact hB.1
  have hD : va_D A (wC G a q_4.2.1 q_4.2.2 q_3.2.2.2 S D R M N P) := hB.2.weaken (fun _ p _ h => hFc p.1 h)
  clear hB hFc hw hk1
  refine W.widen (k := 0) (n := 0) (Nat.le_of_ble_eq_true rfl) (Nat.le_of_ble_eq_true rfl) ?_
  obtain ⟨q_5, hq_5, hm⟩ := bind_some hm
  have hFc := free_all hD hS hA
  refine va_calli (va_runV (As := [.int q_4.1]) (rest := []) ⟨hx, hb, hml, hown, hts⟩ (K_X9_kindOf l hfl G a q_4.2.1 q_4.2.2 q_3.2.2.2 S D R M N P q_4.1  q_5 hq_5 H.size) (cwV 1 hts (gV wm434 wm435 wm436 wm2 wm437) rfl rfl rfl (by decide +kernel) ⟨Nat.le_of_ble_eq_true rfl, Nat.le_of_ble_eq_true rfl⟩) (pre_v (pre_w hK hP hD hS hE hFc) (va_recv hK hP (ci := 8) (q0 := 1) rfl rfl)) rfl rfl hl.1 rfl (lv_room (Nat.le_of_ble_eq_true rfl)) dX10_isOfData_35 ⟨Nat.le_of_ble_eq_true rfl, Nat.le_of_ble_eq_true rfl⟩) hS (fun q _ h => hFc q h) hFc (fun r u t H locs ht hvm hw hB hz1 hk1 hS => ?_)
  rw [show r = q_5 from hw]
  have hP : va_P (DG G) clP3 (wC G a q_4.2.1 q_4.2.2 q_3.2.2.2 S D R M N P) H := by rw [← ht]; exact hB.1
  have hD : va_D A (wC G a q_4.2.1 q_4.2.2 q_3.2.2.2 S D R M N P) := hB.2.weaken (fun _ p _ h => hFc p.1 h)
  clear hB hFc hw hk1
  refine W.widen (k := 0) (n := 0) (Nat.le_of_ble_eq_true rfl) (Nat.le_of_ble_eq_true rfl) ?_
  refine lv_istore_n (lv' := [(3, .int q_5), (2, .int q_1), (0, .ref (a.1 24)), (1, .int p1)]) hx hb dX10_isOfData_38 rfl hl (by decide) rfl (fun ls hl => ?_)
  refine lv_aload_n hx hb dX10_isOfData_39 rfl (lv_at hl 2 rfl) ?_
  refine va_get (D := DG G) (ci := 9) (v := .ref (a.1 1)) (C := RX10) (T := TX10) (N := 6) hx hb hts inW_X10 hown hK hP 24 rfl rfl 0 (by decide) (hts _ wm195) (fun _ h9 => h9) rfl dX10_isOfData_40 ?_
  refine lv_iload_n hx hb dX10_isOfData_43 rfl (lv_at hl 1 rfl) ?_
  obtain ⟨q_6, hq_6, hm⟩ := bind_some hm
  have hFc := free_all hD hS hA
  refine va_callv (va_runV (As := [.int q_1]) (rest := []) ⟨hx, hb, hml, hown, hts⟩ (K_X9_release l hfl G a q_4.2.1 q_4.2.2 q_3.2.2.2 S D R M N P q_1  q_6 hq_6 H.size) (cwV 1 hts (gV wm561 wm509 wm510 wm2 wm511) rfl rfl rfl (by decide +kernel) ⟨Nat.le_of_ble_eq_true rfl, Nat.le_of_ble_eq_true rfl⟩) (pre_v (pre_w hK hP hD hS hE hFc) (va_recv hK hP (ci := 8) (q0 := 1) rfl rfl)) rfl rfl hl.1 rfl (lv_room (Nat.le_of_ble_eq_true rfl)) dX10_isOfData_44 ⟨Nat.le_of_ble_eq_true rfl, Nat.le_of_ble_eq_true rfl⟩) hS (fun q _ h => hFc q h) hFc (fun u t H locs ht hvm hw hB hz1 hk1 hS => ?_)
  have hP : va_P (DG G) clP3 (wC G a q_6 q_4.2.2 q_3.2.2.2 S D R M N P) H := by rw [← ht]; exact hB.1
  have hD : va_D A (wC G a q_6 q_4.2.2 q_3.2.2.2 S D R M N P) := hB.2.weaken (fun _ p _ h => hFc p.1 h)
  clear hB hFc hk1
  refine W.widen (k := 0) (n := 0) (Nat.le_of_ble_eq_true rfl) (Nat.le_of_ble_eq_true rfl) ?_
  refine lv_iload_n hx hb dX10_isOfData_47 rfl (lv_at hl 0 rfl) ?_
  refine lv_iconst (v := 2) hx hb dX10_isOfData_48 (by decide) ?_
  refine lv_icmp_ne (tgt := 56) hx hb dX10_isOfData_49 (by decide) (fun c_7 => ?_) (fun c_7 => ?_)
  · rw [if_neg c_7] at hm
    refine lv_iconst (v := 0) hx hb dX10_isOfData_56 (by decide) ?_
    simp only [Option.some.injEq, Prod.mk.injEq] at hm
    obtain ⟨rfl, rfl, rfl, rfl⟩ := hm
    refine W.widen (k := 0) (n := 0) (Nat.le_of_ble_eq_true rfl) (Nat.le_of_ble_eq_true rfl) ?_
    exact W.zret (v := 0) (ty := .boolean) hx hb hr (by decide) (fun t ht hW => ⟨⟨0, (), rfl, rfl, ⟨by rw [ht]; exact hP, by rw [hAe]; exact hD⟩⟩, by rw [hAe]; exact hS.F ht⟩) (by rw [hAe]; exact hS.2.2) dX10_isOfData_57 hlocks
  · rw [if_pos c_7] at hm
    refine lv_iconst (v := 1) hx hb dX10_isOfData_52 (by decide) ?_
    refine lv_goto (tgt := 57) hx hb dX10_isOfData_53 (by decide) ?_
    simp only [Option.some.injEq, Prod.mk.injEq] at hm
    obtain ⟨rfl, rfl, rfl, rfl⟩ := hm
    refine W.widen (k := 0) (n := 0) (Nat.le_of_ble_eq_true rfl) (Nat.le_of_ble_eq_true rfl) ?_
    exact W.zret (v := 1) (ty := .boolean) hx hb hr (by decide) (fun t ht hW => ⟨⟨1, (), rfl, rfl, ⟨by rw [ht]; exact hP, by rw [hAe]; exact hD⟩⟩, by rw [hAe]; exact hS.F ht⟩) (by rw [hAe]; exact hS.2.2) dX10_isOfData_57 hlocks
def f_X10_fits (T : TS) (F : FS) (U : US) (S : SS) (D : DS) (P : PS) (p1 : Int32) (p2 : Int32) (p3 : Int32) : Option (Int32 × TS × FS × US) := (Option.bind (g_X9_mark T) (fun q_1 => (Option.bind (g_X8_become_g U P p1) (fun q_2 => (Option.bind (f_X10_find 40 T F q_2 S D P p2) (fun q_3 => (Option.bind (g_X1_formOf q_3.2.1 q_3.2.2.1 q_3.1) (fun q_4 => (Option.bind (g_X6_same q_4.2.1 q_4.1 p3) (fun q_5 => (Option.bind (g_X9_release q_4.2.1 q_1) (fun q_6 => (if inb q_5 2 = true then some (q_5, q_6, q_4.2.2, q_3.2.2.2) else none)))))))))))))
set_option maxHeartbeats 2000000 in
set_option maxRecDepth 100000 in
theorem k_X10_fits (l : Launch) (hfl : l.stackTraces = false) (G : GC) (a : AS) (T : TS) (F : FS) (U : US) (S : SS) (D : DS) (R : RS) (M : MS) (N : NS) (P : PS) (hlk : lkA a D.1.toNatClampNeg D.2.1.toNatClampNeg) (p1 : Int32) (p2 : Int32) (p3 : Int32) (hg_p1 : gix D p1 = true) (r9 : Int32) (T9 : TS) (F9 : FS) (U9 : US) (hm : f_X10_fits T F U S D P p1 p2 p3 = some (r9, T9, F9, U9)) (sz : Nat) : Met l yX10_fits (Cond.code yX10_fits cX10_fits 6 (some .boolean) :: W0) ({ frames := 581, cells := 0, slots := 0, locals := 15223 }) (va_Pc [.ref (a.1 24), .ref (a.2.2.1 (Int32.toNatClampNeg p1) 1), .int p2, .int p3] (WD G (wC G a T F U S D R M N P) sz)) (va_Qi (fun (r : Int32) (_ : Unit) => r = r9) (fun _ t => PW G (va_A (wC G a T F U S D R M N P) sz) (wC G a T9 F9 U9 S D R M N P) t) (va_A (wC G a T F U S D R M N P) sz)) 0 0 (va_A (wC G a T F U S D R M N P) sz) := by
  rw [f_X10_fits] at hm
  refine Met.ofW (cc := cX10_fits) (maxL := 6) (ret := (some .boolean)) (by decide) rfl ?_
  intro p e s m args below meth c s₁ B hml hv
  obtain ⟨rfl, hsz, hP, hK, hD0, hE⟩ := hv
  have hx := B.exec
  have hb := B.bytes
  have hr := B.returns
  have hts := w0_tail B.pre
  have hown : s.vm.findClass RX10 = some m.cls := findClass_of_methodNamed B.named
  have hlocks := B.notSynchronized
  have hD := hD0.self (sz := sz)
  obtain ⟨A, hAe⟩ : ∃ A, (va_A (wC G a T F U S D R M N P) sz) = A := ⟨_, rfl⟩
  rw [hAe] at hD hE
  have hA : ∀ q : Nat, s.heap.size ≤ q → A q := fun q h => by rw [← hAe]; exact Or.inr (by rw [← hsz]; exact h)
  have hS : va_S A s.heap s.heap [] := va_S.rf
  obtain ⟨H, hHe⟩ : ∃ H : Heap, H = s.heap := ⟨_, rfl⟩
  have hP : va_P (DG G) clP3 (wC G a T F U S D R M N P) H := by rw [hHe]; exact hP
  have hS : va_S A s.heap H [] := by rw [hHe]; exact hS
  have hl := lv_entry ([.ref (a.1 24), .ref (a.2.2.1 (Int32.toNatClampNeg p1) 1), .int p2, .int p3]) (n := 6) (Nat.le_of_ble_eq_true rfl)
  rw [lg_entry_eq, ← hHe]
  generalize (lg_sl ([.ref (a.1 24), .ref (a.2.2.1 (Int32.toNatClampNeg p1) 1), .int p2, .int p3]) ++ List.replicate (6 - (lg_sl ([.ref (a.1 24), .ref (a.2.2.1 (Int32.toNatClampNeg p1) 1), .int p2, .int p3])).length) Slot.unset).toArray = ls at hl ⊢
  have hl : lv_has ls 6 [(0, .ref (a.1 24)), (1, .ref (a.2.2.1 (Int32.toNatClampNeg p1) 1)), (2, .int p2), (3, .int p3)] := hl
  refine lv_aload_n hx hb dX10_fits_0 rfl (lv_at hl 0 rfl) ?_
  refine va_get (D := DG G) (ci := 9) (v := .ref (a.1 1)) (C := RX10) (T := TX10) (N := 6) hx hb hts inW_X10 hown hK hP 24 rfl rfl 0 (by decide) (hts _ wm195) (fun _ h9 => h9) rfl dX10_fits_1 ?_
  obtain ⟨q_1, hq_1, hm⟩ := bind_some hm
  have hFc := free_all hD hS hA
  refine va_calli (va_runV (As := []) (rest := []) ⟨hx, hb, hml, hown, hts⟩ (K_X9_mark l hfl G a T F U S D R M N P   q_1 hq_1 H.size) (cwV 0 hts (gV wm418 wm411 wm412 wm2 wm413) rfl rfl rfl (by decide +kernel) ⟨Nat.le_of_ble_eq_true rfl, Nat.le_of_ble_eq_true rfl⟩) (pre_v (pre_w hK hP hD hS hE hFc) (va_recv hK hP (ci := 8) (q0 := 1) rfl rfl)) rfl rfl hl.1 rfl (lv_room (Nat.le_of_ble_eq_true rfl)) dX10_fits_4 ⟨Nat.le_of_ble_eq_true rfl, Nat.le_of_ble_eq_true rfl⟩) hS (fun q _ h => hFc q h) hFc (fun r u t H locs ht hvm hw hB hz1 hk1 hS => ?_)
  rw [show r = q_1 from hw]
  have hP : va_P (DG G) clP3 (wC G a T F U S D R M N P) H := by rw [← ht]; exact hB.1
  have hD : va_D A (wC G a T F U S D R M N P) := hB.2.weaken (fun _ p _ h => hFc p.1 h)
  clear hB hFc hw hk1
  refine W.widen (k := 0) (n := 0) (Nat.le_of_ble_eq_true rfl) (Nat.le_of_ble_eq_true rfl) ?_
  refine lv_istore (lv' := [(4, .int q_1), (0, .ref (a.1 24)), (1, .ref (a.2.2.1 (Int32.toNatClampNeg p1) 1)), (2, .int p2), (3, .int p3)]) hx hb dX10_fits_7 hl (by decide) rfl (fun ls hl => ?_)
  refine lv_aload_n hx hb dX10_fits_9 rfl (lv_at hl 1 rfl) ?_
  refine va_get (D := DG G) (ci := 9) (v := .ref (a.1 27)) (C := RX10) (T := TX10) (N := 6) hx hb hts inW_X10 hown hK hP 24 rfl rfl 5 (by decide) (hts _ wm200) (fun _ h9 => h9) rfl dX10_fits_10 ?_
  refine lv_aload_n hx hb dX10_fits_13 rfl (lv_at hl 2 rfl) ?_
  obtain ⟨q_2, hq_2, hm⟩ := bind_some hm
  have hFc := free_all hD hS hA
  refine va_callv (va_runV (As := [.ref (a.2.2.1 (Int32.toNatClampNeg p1) 1)]) (rest := []) ⟨hx, hb, hml, hown, hts⟩ (K_X8_become_g l hfl G a T F U S D R M N P p1 hg_p1 q_2 hq_2 H.size) (cwV 1 hts (gV wm419 wm420 wm421 wm7 wm422) rfl rfl rfl (by decide +kernel) ⟨Nat.le_of_ble_eq_true rfl, Nat.le_of_ble_eq_true rfl⟩) (pre_v (pre_w hK hP hD hS hE hFc) (va_recv hK hP (ci := 7) (q0 := 27) rfl rfl)) rfl rfl hl.1 rfl (lv_room (Nat.le_of_ble_eq_true rfl)) dX10_fits_14 ⟨Nat.le_of_ble_eq_true rfl, Nat.le_of_ble_eq_true rfl⟩) hS (fun q _ h => hFc q h) hFc (fun u t H locs ht hvm hw hB hz1 hk1 hS => ?_)
  have hP : va_P (DG G) clP3 (wC G a T F q_2 S D R M N P) H := by rw [← ht]; exact hB.1
  have hD : va_D A (wC G a T F q_2 S D R M N P) := hB.2.weaken (fun _ p _ h => hFc p.1 h)
  clear hB hFc hk1
  refine W.widen (k := 0) (n := 0) (Nat.le_of_ble_eq_true rfl) (Nat.le_of_ble_eq_true rfl) ?_
  refine lv_aload_n hx hb dX10_fits_17 rfl (lv_at hl 1 rfl) ?_
  refine va_get (D := DG G) (ci := 9) (v := .ref (a.1 1)) (C := RX10) (T := TX10) (N := 6) hx hb hts inW_X10 hown hK hP 24 rfl rfl 0 (by decide) (hts _ wm195) (fun _ h9 => h9) rfl dX10_fits_18 ?_
  refine lv_aload_n hx hb dX10_fits_21 rfl (lv_at hl 1 rfl) ?_
  refine va_get (D := DG G) (ci := 9) (v := .ref (a.1 11)) (C := RX10) (T := TX10) (N := 6) hx hb hts inW_X10 hown hK hP 24 rfl rfl 1 (by decide) (hts _ wm196) (fun _ h9 => h9) rfl dX10_fits_22 ?_
  refine lv_aload_n hx hb dX10_fits_25 rfl (lv_at hl 1 rfl) ?_
  refine lv_iload_n hx hb dX10_fits_26 rfl (lv_at hl 3 rfl) ?_
  obtain ⟨q_3, hq_3, hm⟩ := bind_some hm
  have hFc := free_all hD hS hA
  refine va_calli (va_runS (As := [.ref (a.1 24), .int p2]) (rest := [.ref (a.1 11), .ref (a.1 1)]) ⟨hx, hb, hml, hown, hts⟩ (k_X10_find l hfl G a 40 T F q_2 S D R M N P hlk p2  q_3.1 q_3.2.1 q_3.2.2.1 q_3.2.2.2 hq_3 H.size) (cwS 2 hts (gS wm427 wm428 wm6 wm429) rfl rfl rfl (by decide +kernel) ⟨Nat.le_of_ble_eq_true rfl, Nat.le_of_ble_eq_true rfl⟩) (pre_w hK hP hD hS hE hFc) rfl rfl hl.1 rfl (lv_room (Nat.le_of_ble_eq_true rfl)) dX10_fits_27 ⟨Nat.le_of_ble_eq_true rfl, Nat.le_of_ble_eq_true rfl⟩) hS (fun q _ h => hFc q h) hFc (fun r u t H locs ht hvm hw hB hz1 hk1 hS => ?_)
  rw [show r = q_3.1 from hw]
  have hP : va_P (DG G) clP3 (wC G a q_3.2.1 q_3.2.2.1 q_3.2.2.2 S D R M N P) H := by rw [← ht]; exact hB.1
  have hD : va_D A (wC G a q_3.2.1 q_3.2.2.1 q_3.2.2.2 S D R M N P) := hB.2.weaken (fun _ p _ h => hFc p.1 h)
  clear hB hFc hw hk1
  refine W.widen (k := 0) (n := 0) (Nat.le_of_ble_eq_true rfl) (Nat.le_of_ble_eq_true rfl) ?_
  obtain ⟨q_4, hq_4, hm⟩ := bind_some hm
  have hFc := free_all hD hS hA
  refine va_calli (va_runV (As := [.int q_3.1]) (rest := [.ref (a.1 1)]) ⟨hx, hb, hml, hown, hts⟩ (K_X1_formOf l hfl G a q_3.2.1 q_3.2.2.1 q_3.2.2.2 S D R M N P q_3.1  q_4.1 q_4.2.1 q_4.2.2 hq_4 H.size) (cwV 1 hts (gV wm494 wm495 wm496 wm3 wm497) rfl rfl rfl (by decide +kernel) ⟨Nat.le_of_ble_eq_true rfl, Nat.le_of_ble_eq_true rfl⟩) (pre_v (pre_w hK hP hD hS hE hFc) (va_recv hK hP (ci := 1) (q0 := 11) rfl rfl)) rfl rfl hl.1 rfl (lv_room (Nat.le_of_ble_eq_true rfl)) dX10_fits_30 ⟨Nat.le_of_ble_eq_true rfl, Nat.le_of_ble_eq_true rfl⟩) hS (fun q _ h => hFc q h) hFc (fun r u t H locs ht hvm hw hB hz1 hk1 hS => ?_)
  rw [show r = q_4.1 from hw]
  have hP : va_P (DG G) clP3 (wC G a q_4.2.1 q_4.2.2 q_3.2.2.2 S D R M N P) H := by rw [← ht]; exact hB.1
  have hD : va_D A (wC G a q_4.2.1 q_4.2.2 q_3.2.2.2 S D R M N P) := hB.2.weaken (fun _ p _ h => hFc p.1 h)
  clear hB hFc hw hk1
  refine W.widen (k := 0) (n := 0) (Nat.le_of_ble_eq_true rfl) (Nat.le_of_ble_eq_true rfl) ?_
  refine lv_iload_n hx hb dX10_fits_33 rfl (lv_at hl 4 rfl) ?_
  obtain ⟨q_5, hq_5, hm⟩ := bind_some hm
  have hFc := free_all hD hS hA
  refine va_calli (va_runSN (As := [.ref (a.1 1), .int q_4.1, .int p3]) (rest := []) ⟨hx, hb, hml, hown, hts⟩ (K_X6_same l hfl G a q_4.2.1 q_4.2.2 q_3.2.2.2 S D R M N P q_4.1 p3  q_5 hq_5 H.size) ⟨va_cnB 3 hts (gC wm557) rfl rfl rfl (hE.1 _ nw555) (hts _ wm20) (by decide +kernel) ⟨Nat.le_of_ble_eq_true rfl, Nat.le_of_ble_eq_true rfl⟩, hts _ wm556, trivial⟩ (pre_w hK hP hD hS hE hFc) rfl rfl hl.1 rfl (lv_room (Nat.le_of_ble_eq_true rfl)) dX10_fits_34 ⟨Nat.le_of_ble_eq_true rfl, Nat.le_of_ble_eq_true rfl⟩) hS (fun q _ h => hFc q h) hFc (fun r u t H locs ht hvm hw hB hz1 hk1 hS => ?_)
  rw [show r = q_5 from hw]
  have hP : va_P (DG G) clP3 (wC G a q_4.2.1 q_4.2.2 q_3.2.2.2 S D R M N P) H := by rw [← ht]; exact hB.1
  have hD : va_D A (wC G a q_4.2.1 q_4.2.2 q_3.2.2.2 S D R M N P) := hB.2.weaken (fun _ p _ h => hFc p.1 h)
  clear hB hFc hw hk1
  refine W.widen (k := 0) (n := 0) (Nat.le_of_ble_eq_true rfl) (Nat.le_of_ble_eq_true rfl) ?_
  refine lv_istore (lv' := [(5, .int q_5), (4, .int q_1), (0, .ref (a.1 24)), (1, .ref (a.2.2.1 (Int32.toNatClampNeg p1) 1)), (2, .int p2), (3, .int p3)]) hx hb dX10_fits_37 hl (by decide) rfl (fun ls hl => ?_)
  refine lv_aload_n hx hb dX10_fits_39 rfl (lv_at hl 2 rfl) ?_
  refine va_get (D := DG G) (ci := 9) (v := .ref (a.1 1)) (C := RX10) (T := TX10) (N := 6) hx hb hts inW_X10 hown hK hP 24 rfl rfl 0 (by decide) (hts _ wm195) (fun _ h9 => h9) rfl dX10_fits_40 ?_
  refine lv_iload hx hb dX10_fits_43 (lv_at hl 1 rfl) ?_
  obtain ⟨q_6, hq_6, hm⟩ := bind_some hm
  have hFc := free_all hD hS hA
  refine va_callv (va_runV (As := [.int q_1]) (rest := []) ⟨hx, hb, hml, hown, hts⟩ (K_X9_release l hfl G a q_4.2.1 q_4.2.2 q_3.2.2.2 S D R M N P q_1  q_6 hq_6 H.size) (cwV 1 hts (gV wm561 wm509 wm510 wm2 wm511) rfl rfl rfl (by decide +kernel) ⟨Nat.le_of_ble_eq_true rfl, Nat.le_of_ble_eq_true rfl⟩) (pre_v (pre_w hK hP hD hS hE hFc) (va_recv hK hP (ci := 8) (q0 := 1) rfl rfl)) rfl rfl hl.1 rfl (lv_room (Nat.le_of_ble_eq_true rfl)) dX10_fits_45 ⟨Nat.le_of_ble_eq_true rfl, Nat.le_of_ble_eq_true rfl⟩) hS (fun q _ h => hFc q h) hFc (fun u t H locs ht hvm hw hB hz1 hk1 hS => ?_)
  have hP : va_P (DG G) clP3 (wC G a q_6 q_4.2.2 q_3.2.2.2 S D R M N P) H := by rw [← ht]; exact hB.1
  have hD : va_D A (wC G a q_6 q_4.2.2 q_3.2.2.2 S D R M N P) := hB.2.weaken (fun _ p _ h => hFc p.1 h)
  clear hB hFc hk1
  refine W.widen (k := 0) (n := 0) (Nat.le_of_ble_eq_true rfl) (Nat.le_of_ble_eq_true rfl) ?_
  refine lv_iload hx hb dX10_fits_48 (lv_at hl 0 rfl) ?_
  obtain ⟨n_7, hm⟩ := ite_some hm
  simp only [Option.some.injEq, Prod.mk.injEq] at hm
  obtain ⟨rfl, rfl, rfl, rfl⟩ := hm
  refine W.widen (k := 0) (n := 0) (Nat.le_of_ble_eq_true rfl) (Nat.le_of_ble_eq_true rfl) ?_
  exact W.zret (v := q_5) (ty := .boolean) hx hb hr (nar_bool n_7) (fun t ht hW => ⟨⟨q_5, (), rfl, rfl, ⟨by rw [ht]; exact hP, by rw [hAe]; exact hD⟩⟩, by rw [hAe]; exact hS.F ht⟩) (by rw [hAe]; exact hS.2.2) dX10_fits_50 hlocks
def f_X10_formOf (T : TS) (F : FS) (U : US) (S : SS) (D : DS) (P : PS) (p1 : Int32) : Option (Int32 × TS × FS × US) := (Option.bind (g_X9_mark T) (fun q_1 => (Option.bind (g_X8_become_n U) (fun q_2 => (Option.bind (f_X10_find 40 T F q_2 S D P p1) (fun q_3 => (Option.bind (g_X1_formOf q_3.2.1 q_3.2.2.1 q_3.1) (fun q_4 => (Option.bind (g_X9_keep q_4.2.1 q_4.2.2 q_1 q_4.1) (fun q_5 => some (q_5.1, q_5.2.1, q_5.2.2, q_3.2.2.2)))))))))))
set_option maxHeartbeats 2000000 in
set_option maxRecDepth 100000 in
theorem k_X10_formOf (l : Launch) (hfl : l.stackTraces = false) (G : GC) (a : AS) (T : TS) (F : FS) (U : US) (S : SS) (D : DS) (R : RS) (M : MS) (N : NS) (P : PS) (hlk : lkA a D.1.toNatClampNeg D.2.1.toNatClampNeg) (p1 : Int32) (r9 : Int32) (T9 : TS) (F9 : FS) (U9 : US) (hm : f_X10_formOf T F U S D P p1 = some (r9, T9, F9, U9)) (sz : Nat) : Met l yX10_formOf (Cond.code yX10_formOf cX10_formOf 3 (some .int) :: W0) ({ frames := 581, cells := 0, slots := 0, locals := 15223 }) (va_Pc [.ref (a.1 24), .int p1] (WD G (wC G a T F U S D R M N P) sz)) (va_Qi (fun (r : Int32) (_ : Unit) => r = r9) (fun _ t => PW G (va_A (wC G a T F U S D R M N P) sz) (wC G a T9 F9 U9 S D R M N P) t) (va_A (wC G a T F U S D R M N P) sz)) 0 0 (va_A (wC G a T F U S D R M N P) sz) := by
  rw [f_X10_formOf] at hm
  refine Met.ofW (cc := cX10_formOf) (maxL := 3) (ret := (some .int)) (by decide) rfl ?_
  intro p e s m args below meth c s₁ B hml hv
  obtain ⟨rfl, hsz, hP, hK, hD0, hE⟩ := hv
  have hx := B.exec
  have hb := B.bytes
  have hr := B.returns
  have hts := w0_tail B.pre
  have hown : s.vm.findClass RX10 = some m.cls := findClass_of_methodNamed B.named
  have hlocks := B.notSynchronized
  have hD := hD0.self (sz := sz)
  obtain ⟨A, hAe⟩ : ∃ A, (va_A (wC G a T F U S D R M N P) sz) = A := ⟨_, rfl⟩
  rw [hAe] at hD hE
  have hA : ∀ q : Nat, s.heap.size ≤ q → A q := fun q h => by rw [← hAe]; exact Or.inr (by rw [← hsz]; exact h)
  have hS : va_S A s.heap s.heap [] := va_S.rf
  obtain ⟨H, hHe⟩ : ∃ H : Heap, H = s.heap := ⟨_, rfl⟩
  have hP : va_P (DG G) clP3 (wC G a T F U S D R M N P) H := by rw [hHe]; exact hP
  have hS : va_S A s.heap H [] := by rw [hHe]; exact hS
  have hl := lv_entry ([.ref (a.1 24), .int p1]) (n := 3) (Nat.le_of_ble_eq_true rfl)
  rw [lg_entry_eq, ← hHe]
  generalize (lg_sl ([.ref (a.1 24), .int p1]) ++ List.replicate (3 - (lg_sl ([.ref (a.1 24), .int p1])).length) Slot.unset).toArray = ls at hl ⊢
  have hl : lv_has ls 3 [(0, .ref (a.1 24)), (1, .int p1)] := hl
  refine lv_aload_n hx hb dX10_formOf_0 rfl (lv_at hl 0 rfl) ?_
  refine va_get (D := DG G) (ci := 9) (v := .ref (a.1 1)) (C := RX10) (T := TX10) (N := 6) hx hb hts inW_X10 hown hK hP 24 rfl rfl 0 (by decide) (hts _ wm195) (fun _ h9 => h9) rfl dX10_formOf_1 ?_
  obtain ⟨q_1, hq_1, hm⟩ := bind_some hm
  have hFc := free_all hD hS hA
  refine va_calli (va_runV (As := []) (rest := []) ⟨hx, hb, hml, hown, hts⟩ (K_X9_mark l hfl G a T F U S D R M N P   q_1 hq_1 H.size) (cwV 0 hts (gV wm418 wm411 wm412 wm2 wm413) rfl rfl rfl (by decide +kernel) ⟨Nat.le_of_ble_eq_true rfl, Nat.le_of_ble_eq_true rfl⟩) (pre_v (pre_w hK hP hD hS hE hFc) (va_recv hK hP (ci := 8) (q0 := 1) rfl rfl)) rfl rfl hl.1 rfl (lv_room (Nat.le_of_ble_eq_true rfl)) dX10_formOf_4 ⟨Nat.le_of_ble_eq_true rfl, Nat.le_of_ble_eq_true rfl⟩) hS (fun q _ h => hFc q h) hFc (fun r u t H locs ht hvm hw hB hz1 hk1 hS => ?_)
  rw [show r = q_1 from hw]
  have hP : va_P (DG G) clP3 (wC G a T F U S D R M N P) H := by rw [← ht]; exact hB.1
  have hD : va_D A (wC G a T F U S D R M N P) := hB.2.weaken (fun _ p _ h => hFc p.1 h)
  clear hB hFc hw hk1
  refine W.widen (k := 0) (n := 0) (Nat.le_of_ble_eq_true rfl) (Nat.le_of_ble_eq_true rfl) ?_
  refine lv_istore_n (lv' := [(2, .int q_1), (0, .ref (a.1 24)), (1, .int p1)]) hx hb dX10_formOf_7 rfl hl (by decide) rfl (fun ls hl => ?_)
  refine lv_aload_n hx hb dX10_formOf_8 rfl (lv_at hl 1 rfl) ?_
  refine va_get (D := DG G) (ci := 9) (v := .ref (a.1 27)) (C := RX10) (T := TX10) (N := 6) hx hb hts inW_X10 hown hK hP 24 rfl rfl 5 (by decide) (hts _ wm200) (fun _ h9 => h9) rfl dX10_formOf_9 ?_
  refine lv_aload_n hx hb dX10_formOf_12 rfl (lv_at hl 1 rfl) ?_
  refine va_get (D := DG G) (ci := 9) (v := .ref (a.1 25)) (C := RX10) (T := TX10) (N := 6) hx hb hts inW_X10 hown hK hP 24 rfl rfl 4 (by decide) (hts _ wm199) (fun _ h9 => h9) rfl dX10_formOf_13 ?_
  obtain ⟨q_2, hq_2, hm⟩ := bind_some hm
  have hFc := free_all hD hS hA
  refine va_callv (va_runV (As := [.ref (a.1 25)]) (rest := []) ⟨hx, hb, hml, hown, hts⟩ (K_X8_become_n l hfl G a T F U S D R M N P   q_2 hq_2 H.size) (cwV 1 hts (gV wm419 wm420 wm421 wm7 wm422) rfl rfl rfl (by decide +kernel) ⟨Nat.le_of_ble_eq_true rfl, Nat.le_of_ble_eq_true rfl⟩) (pre_v (pre_w hK hP hD hS hE hFc) (va_recv hK hP (ci := 7) (q0 := 27) rfl rfl)) rfl rfl hl.1 rfl (lv_room (Nat.le_of_ble_eq_true rfl)) dX10_formOf_16 ⟨Nat.le_of_ble_eq_true rfl, Nat.le_of_ble_eq_true rfl⟩) hS (fun q _ h => hFc q h) hFc (fun u t H locs ht hvm hw hB hz1 hk1 hS => ?_)
  have hP : va_P (DG G) clP3 (wC G a T F q_2 S D R M N P) H := by rw [← ht]; exact hB.1
  have hD : va_D A (wC G a T F q_2 S D R M N P) := hB.2.weaken (fun _ p _ h => hFc p.1 h)
  clear hB hFc hk1
  refine W.widen (k := 0) (n := 0) (Nat.le_of_ble_eq_true rfl) (Nat.le_of_ble_eq_true rfl) ?_
  refine lv_aload_n hx hb dX10_formOf_19 rfl (lv_at hl 1 rfl) ?_
  refine va_get (D := DG G) (ci := 9) (v := .ref (a.1 1)) (C := RX10) (T := TX10) (N := 6) hx hb hts inW_X10 hown hK hP 24 rfl rfl 0 (by decide) (hts _ wm195) (fun _ h9 => h9) rfl dX10_formOf_20 ?_
  refine lv_iload_n hx hb dX10_formOf_23 rfl (lv_at hl 0 rfl) ?_
  refine lv_aload_n hx hb dX10_formOf_24 rfl (lv_at hl 1 rfl) ?_
  refine va_get (D := DG G) (ci := 9) (v := .ref (a.1 11)) (C := RX10) (T := TX10) (N := 6) hx hb hts inW_X10 hown hK hP 24 rfl rfl 1 (by decide) (hts _ wm196) (fun _ h9 => h9) rfl dX10_formOf_25 ?_
  refine lv_aload_n hx hb dX10_formOf_28 rfl (lv_at hl 1 rfl) ?_
  refine lv_iload_n hx hb dX10_formOf_29 rfl (lv_at hl 2 rfl) ?_
  obtain ⟨q_3, hq_3, hm⟩ := bind_some hm
  have hFc := free_all hD hS hA
  refine va_calli (va_runS (As := [.ref (a.1 24), .int p1]) (rest := [.ref (a.1 11), .int q_1, .ref (a.1 1)]) ⟨hx, hb, hml, hown, hts⟩ (k_X10_find l hfl G a 40 T F q_2 S D R M N P hlk p1  q_3.1 q_3.2.1 q_3.2.2.1 q_3.2.2.2 hq_3 H.size) (cwS 2 hts (gS wm427 wm428 wm6 wm429) rfl rfl rfl (by decide +kernel) ⟨Nat.le_of_ble_eq_true rfl, Nat.le_of_ble_eq_true rfl⟩) (pre_w hK hP hD hS hE hFc) rfl rfl hl.1 rfl (lv_room (Nat.le_of_ble_eq_true rfl)) dX10_formOf_30 ⟨Nat.le_of_ble_eq_true rfl, Nat.le_of_ble_eq_true rfl⟩) hS (fun q _ h => hFc q h) hFc (fun r u t H locs ht hvm hw hB hz1 hk1 hS => ?_)
  rw [show r = q_3.1 from hw]
  have hP : va_P (DG G) clP3 (wC G a q_3.2.1 q_3.2.2.1 q_3.2.2.2 S D R M N P) H := by rw [← ht]; exact hB.1
  have hD : va_D A (wC G a q_3.2.1 q_3.2.2.1 q_3.2.2.2 S D R M N P) := hB.2.weaken (fun _ p _ h => hFc p.1 h)
  clear hB hFc hw hk1
  refine W.widen (k := 0) (n := 0) (Nat.le_of_ble_eq_true rfl) (Nat.le_of_ble_eq_true rfl) ?_
  obtain ⟨q_4, hq_4, hm⟩ := bind_some hm
  have hFc := free_all hD hS hA
  refine va_calli (va_runV (As := [.int q_3.1]) (rest := [.int q_1, .ref (a.1 1)]) ⟨hx, hb, hml, hown, hts⟩ (K_X1_formOf l hfl G a q_3.2.1 q_3.2.2.1 q_3.2.2.2 S D R M N P q_3.1  q_4.1 q_4.2.1 q_4.2.2 hq_4 H.size) (cwV 1 hts (gV wm494 wm495 wm496 wm3 wm497) rfl rfl rfl (by decide +kernel) ⟨Nat.le_of_ble_eq_true rfl, Nat.le_of_ble_eq_true rfl⟩) (pre_v (pre_w hK hP hD hS hE hFc) (va_recv hK hP (ci := 1) (q0 := 11) rfl rfl)) rfl rfl hl.1 rfl (lv_room (Nat.le_of_ble_eq_true rfl)) dX10_formOf_33 ⟨Nat.le_of_ble_eq_true rfl, Nat.le_of_ble_eq_true rfl⟩) hS (fun q _ h => hFc q h) hFc (fun r u t H locs ht hvm hw hB hz1 hk1 hS => ?_)
  rw [show r = q_4.1 from hw]
  have hP : va_P (DG G) clP3 (wC G a q_4.2.1 q_4.2.2 q_3.2.2.2 S D R M N P) H := by rw [← ht]; exact hB.1
  have hD : va_D A (wC G a q_4.2.1 q_4.2.2 q_3.2.2.2 S D R M N P) := hB.2.weaken (fun _ p _ h => hFc p.1 h)
  clear hB hFc hw hk1
  refine W.widen (k := 0) (n := 0) (Nat.le_of_ble_eq_true rfl) (Nat.le_of_ble_eq_true rfl) ?_
  obtain ⟨q_5, hq_5, hm⟩ := bind_some hm
  have hFc := free_all hD hS hA
  refine va_calli (va_runV (As := [.int q_1, .int q_4.1]) (rest := []) ⟨hx, hb, hml, hown, hts⟩ (K_X9_keep l hfl G a q_4.2.1 q_4.2.2 q_3.2.2.2 S D R M N P q_1 q_4.1  q_5.1 q_5.2.1 q_5.2.2 hq_5 H.size) (cwV 2 hts (gV wm563 wm505 wm506 wm2 wm507) rfl rfl rfl (by decide +kernel) ⟨Nat.le_of_ble_eq_true rfl, Nat.le_of_ble_eq_true rfl⟩) (pre_v (pre_w hK hP hD hS hE hFc) (va_recv hK hP (ci := 8) (q0 := 1) rfl rfl)) rfl rfl hl.1 rfl (lv_room (Nat.le_of_ble_eq_true rfl)) dX10_formOf_36 ⟨Nat.le_of_ble_eq_true rfl, Nat.le_of_ble_eq_true rfl⟩) hS (fun q _ h => hFc q h) hFc (fun r u t H locs ht hvm hw hB hz1 hk1 hS => ?_)
  rw [show r = q_5.1 from hw]
  have hP : va_P (DG G) clP3 (wC G a q_5.2.1 q_5.2.2 q_3.2.2.2 S D R M N P) H := by rw [← ht]; exact hB.1
  have hD : va_D A (wC G a q_5.2.1 q_5.2.2 q_3.2.2.2 S D R M N P) := hB.2.weaken (fun _ p _ h => hFc p.1 h)
  clear hB hFc hw hk1
  refine W.widen (k := 0) (n := 0) (Nat.le_of_ble_eq_true rfl) (Nat.le_of_ble_eq_true rfl) ?_
  simp only [Option.some.injEq, Prod.mk.injEq] at hm
  obtain ⟨rfl, rfl, rfl, rfl⟩ := hm
  refine W.widen (k := 0) (n := 0) (Nat.le_of_ble_eq_true rfl) (Nat.le_of_ble_eq_true rfl) ?_
  exact W.iret (v := q_5.1) hx hb hr (fun t ht hW => ⟨⟨q_5.1, (), rfl, rfl, ⟨by rw [ht]; exact hP, by rw [hAe]; exact hD⟩⟩, by rw [hAe]; exact hS.F ht⟩) (by rw [hAe]; exact hS.2.2) dX10_formOf_39 hlocks
