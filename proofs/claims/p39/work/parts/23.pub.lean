def f_X11_termAt (N : NS) (p1 : Int32) : Option (Int32 × Int32) := (if p1 < 0 then some (3, 0) else (if p1 < N.2.1 then (if inb p1 250 = true then some (0, (N.1 (Int32.toNatClampNeg p1))) else none) else some (3, 0)))
set_option maxHeartbeats 2000000 in
set_option maxRecDepth 100000 in
theorem k_X11_termAt (l : Launch) (hfl : l.stackTraces = false) (G : GC) (a : AS) (T : TS) (F : FS) (U : US) (S : SS) (D : DS) (R : RS) (M : MS) (N : NS) (P : PS) (hlk : lkA a D.1.toNatClampNeg D.2.1.toNatClampNeg) (p1 : Int32) (k9 : Int32) (r9 : Int32) (hm : f_X11_termAt N p1 = some (k9, r9)) (sz : Nat) : vx_Met l yX11_termAt (Cond.code yX11_termAt cX11_termAt 2 (some .int) :: W0) ({ frames := 6, cells := 1, slots := 6, locals := 82 }) (va_Pc [.ref (a.1 0), .int p1] (WD G (wC G a T F U S D R M N P) sz)) (va_Qi (S := Unit) (fun r _ => k9 = 0 ∧ r = r9) (fun _ t => PW G (va_A (wC G a T F U S D R M N P) sz) (wC G a T F U S D R M N P) t) (va_A (wC G a T F U S D R M N P) sz)) (vx_X (fun _ : Unit => True) (fun (E : String) (_ : Unit) (t : State) => xnm k9 = some E ∧ PW G (va_A (wC G a T F U S D R M N P) sz) (wC G a T F U S D R M N P) t) (va_A (wC G a T F U S D R M N P) sz)) 1 6 (va_A (wC G a T F U S D R M N P) sz) := by
  rw [f_X11_termAt] at hm
  refine vx_ofW (cc := cX11_termAt) (maxL := 2) (ret := (some .int)) (by decide) rfl ?_
  intro p e s m args below meth c s₁ B hml hout0 hv
  obtain ⟨rfl, hsz, hP, hK, hD0, hE⟩ := hv
  have hx := B.exec
  have hb := B.bytes
  have hr := B.returns
  have hts := w0_tail B.pre
  have hown : s.vm.findClass RX11 = some m.cls := findClass_of_methodNamed B.named
  have hlocks := B.notSynchronized
  have hD := hD0.self (sz := sz)
  obtain ⟨A, hAe⟩ : ∃ A, (va_A (wC G a T F U S D R M N P) sz) = A := ⟨_, rfl⟩
  rw [hAe] at hD hE
  have hA : ∀ q : Nat, s.heap.size ≤ q → A q := fun q h => by rw [← hAe]; exact Or.inr (by rw [← hsz]; exact h)
  have hS : va_S A s.heap s.heap [] := va_S.rf
  obtain ⟨H, hHe⟩ : ∃ H : Heap, H = s.heap := ⟨_, rfl⟩
  have hP : va_P (DG G) clP3 (wC G a T F U S D R M N P) H := by rw [hHe]; exact hP
  have hS : va_S A s.heap H [] := by rw [hHe]; exact hS
  have hl := lv_entry ([.ref (a.1 0), .int p1]) (n := 2) (Nat.le_of_ble_eq_true rfl)
  rw [lg_entry_eq, ← hHe]
  generalize (lg_sl ([.ref (a.1 0), .int p1]) ++ List.replicate (2 - (lg_sl ([.ref (a.1 0), .int p1])).length) Slot.unset).toArray = ls at hl ⊢
  have hl : lv_has ls 2 [(0, .ref (a.1 0)), (1, .int p1)] := hl
  refine lv_iload_n hx hb dX11_termAt_0 rfl (lv_at hl 1 rfl) ?_
  refine lv_if_lt (tgt := 12) hx hb dX11_termAt_1 (by decide) (fun c_1 => ?_) (fun c_1 => ?_)
  · rw [if_pos c_1] at hm
    simp only [Option.some.injEq, Prod.mk.injEq] at hm
    obtain ⟨rfl, rfl⟩ := hm
    subst hAe
    obtain ⟨sa, hsa⟩ := hE.2.1 _ stm0
    exact vx_throwSW (names := ["java/lang/RuntimeException", "java/lang/Exception"]) (A := _) (free := _) hx hb hfl hown (by decide +kernel) (by decide +kernel) (hts _ wm323) (hts _ wm17) hsa (xX11_344_hat hts hE) xX11_344_good (EV.un hE) (EV.su hE) hS (hl.1.trans hml.symm) dX11_termAt_12 dX11_termAt_15 dX11_termAt_16 dX11_termAt_19 dX11_termAt_22 (fun x hx => (hout0 x hx).elim) (Nat.le_of_ble_eq_true rfl) (Nat.le_of_ble_eq_true rfl) (Nat.le_of_ble_eq_true rfl) (Nat.le_of_ble_eq_true rfl) hlocks (fun t ha hz hk => ⟨(), trivial, ⟨rfl, va_Pgrow hP hk, hD⟩, xF hS hz hk⟩) hS.2.2 (Nat.le_of_ble_eq_true rfl) (Nat.le_of_ble_eq_true rfl)
  · rw [if_neg c_1] at hm
    refine lv_iload_n hx hb dX11_termAt_4 rfl (lv_at hl 1 rfl) ?_
    refine lv_aload_n hx hb dX11_termAt_5 rfl (lv_at hl 0 rfl) ?_
    refine va_get (D := DG G) (ci := 10) (v := .int N.2.1) (C := RX11) (T := TX11) (N := 10) hx hb hts inW_X11 hown hK hP 0 rfl rfl 8 (by decide) (hts _ wm292) (fun _ h9 => h9) rfl dX11_termAt_6 ?_
    refine lv_icmp_lt (tgt := 23) hx hb dX11_termAt_9 (by decide) (fun c_2 => ?_) (fun c_2 => ?_)
    · rw [if_pos c_2] at hm
      refine lv_aload_n hx hb dX11_termAt_23 rfl (lv_at hl 0 rfl) ?_
      refine va_get (D := DG G) (ci := 10) (v := .ref (a.1 36)) (C := RX11) (T := TX11) (N := 10) hx hb hts inW_X11 hown hK hP 0 rfl rfl 7 (by decide) (hts _ wm291) (fun _ h9 => h9) rfl dX11_termAt_24 ?_
      refine lv_iload_n hx hb dX11_termAt_27 rfl (lv_at hl 1 rfl) ?_
      obtain ⟨b_3, hm⟩ := ite_some hm
      refine va_iald hx hb hK hP 36 0 rfl rfl (inb_vp b_3) dX11_termAt_28 ?_
      simp only [Option.some.injEq, Prod.mk.injEq] at hm
      obtain ⟨rfl, rfl⟩ := hm
      subst hAe
      refine W.widen (k := 1) (n := 6) (Nat.le_of_ble_eq_true rfl) (Nat.le_of_ble_eq_true rfl) ?_
      exact vx_ret (W.iret (v := (N.1 (Int32.toNatClampNeg p1))) hx hb hr (fun t ht hW => ⟨⟨(N.1 (Int32.toNatClampNeg p1)), (), rfl, ⟨rfl, rfl⟩, ⟨by rw [ht]; exact hP, hD⟩⟩, hS.F ht⟩) hS.2.2 dX11_termAt_29 hlocks)
    · rw [if_neg c_2] at hm
      simp only [Option.some.injEq, Prod.mk.injEq] at hm
      obtain ⟨rfl, rfl⟩ := hm
      subst hAe
      obtain ⟨sa, hsa⟩ := hE.2.1 _ stm0
      exact vx_throwSW (names := ["java/lang/RuntimeException", "java/lang/Exception"]) (A := _) (free := _) hx hb hfl hown (by decide +kernel) (by decide +kernel) (hts _ wm323) (hts _ wm17) hsa (xX11_344_hat hts hE) xX11_344_good (EV.un hE) (EV.su hE) hS (hl.1.trans hml.symm) dX11_termAt_12 dX11_termAt_15 dX11_termAt_16 dX11_termAt_19 dX11_termAt_22 (fun x hx => (hout0 x hx).elim) (Nat.le_of_ble_eq_true rfl) (Nat.le_of_ble_eq_true rfl) (Nat.le_of_ble_eq_true rfl) (Nat.le_of_ble_eq_true rfl) hlocks (fun t ha hz hk => ⟨(), trivial, ⟨rfl, va_Pgrow hP hk, hD⟩, xF hS hz hk⟩) hS.2.2 (Nat.le_of_ble_eq_true rfl) (Nat.le_of_ble_eq_true rfl)
def f_X11_functionAt (D : DS) (p1 : Int32) : Option (Int32 × Int32) := (Option.bind (f_X0_function D p1) (fun q_1 => (if q_1 < 0 then some (4, 0) else (if fix D q_1 = true then some (0, q_1) else none))))
set_option maxHeartbeats 2000000 in
set_option maxRecDepth 100000 in
theorem k_X11_functionAt (l : Launch) (hfl : l.stackTraces = false) (G : GC) (a : AS) (T : TS) (F : FS) (U : US) (S : SS) (D : DS) (R : RS) (M : MS) (N : NS) (P : PS) (hlk : lkA a D.1.toNatClampNeg D.2.1.toNatClampNeg) (p1 : Int32) (k9 : Int32) (r9 : Int32) (hm : f_X11_functionAt D p1 = some (k9, r9)) (sz : Nat) : vx_Met l yX11_functionAt (Cond.code yX11_functionAt cX11_functionAt 3 (some (.object "TelescopeCourt$Function")) :: W0) ({ frames := 6, cells := 1, slots := 6, locals := 82 }) (va_Pc [.ref (a.1 0), .int p1] (WD G (wC G a T F U S D R M N P) sz)) (va_Qq (S := Unit) (fun r _ => k9 = 0 ∧ r = rfF a r9) (fun _ t => PW G (va_A (wC G a T F U S D R M N P) sz) (wC G a T F U S D R M N P) t) (va_A (wC G a T F U S D R M N P) sz)) (vx_X (fun _ : Unit => True) (fun (E : String) (_ : Unit) (t : State) => xnm k9 = some E ∧ PW G (va_A (wC G a T F U S D R M N P) sz) (wC G a T F U S D R M N P) t) (va_A (wC G a T F U S D R M N P) sz)) 1 6 (va_A (wC G a T F U S D R M N P) sz) := by
  rw [f_X11_functionAt] at hm
  refine vx_ofW (cc := cX11_functionAt) (maxL := 3) (ret := (some (.object "TelescopeCourt$Function"))) (by decide) rfl ?_
  intro p e s m args below meth c s₁ B hml hout0 hv
  obtain ⟨rfl, hsz, hP, hK, hD0, hE⟩ := hv
  have hx := B.exec
  have hb := B.bytes
  have hr := B.returns
  have hts := w0_tail B.pre
  have hown : s.vm.findClass RX11 = some m.cls := findClass_of_methodNamed B.named
  have hlocks := B.notSynchronized
  have hD := hD0.self (sz := sz)
  obtain ⟨A, hAe⟩ : ∃ A, (va_A (wC G a T F U S D R M N P) sz) = A := ⟨_, rfl⟩
  rw [hAe] at hD hE
  have hA : ∀ q : Nat, s.heap.size ≤ q → A q := fun q h => by rw [← hAe]; exact Or.inr (by rw [← hsz]; exact h)
  have hS : va_S A s.heap s.heap [] := va_S.rf
  obtain ⟨H, hHe⟩ : ∃ H : Heap, H = s.heap := ⟨_, rfl⟩
  have hP : va_P (DG G) clP3 (wC G a T F U S D R M N P) H := by rw [hHe]; exact hP
  have hS : va_S A s.heap H [] := by rw [hHe]; exact hS
  have hl := lv_entry ([.ref (a.1 0), .int p1]) (n := 3) (Nat.le_of_ble_eq_true rfl)
  rw [lg_entry_eq, ← hHe]
  generalize (lg_sl ([.ref (a.1 0), .int p1]) ++ List.replicate (3 - (lg_sl ([.ref (a.1 0), .int p1])).length) Slot.unset).toArray = ls at hl ⊢
  have hl : lv_has ls 3 [(0, .ref (a.1 0)), (1, .int p1)] := hl
  refine lv_aload_n hx hb dX11_functionAt_0 rfl (lv_at hl 0 rfl) ?_
  refine va_get (D := DG G) (ci := 10) (v := .ref (a.1 21)) (C := RX11) (T := TX11) (N := 10) hx hb hts inW_X11 hown hK hP 0 rfl rfl 3 (by decide) (hts _ wm287) (fun _ h9 => h9) rfl dX11_functionAt_1 ?_
  refine lv_iload_n hx hb dX11_functionAt_4 rfl (lv_at hl 1 rfl) ?_
  obtain ⟨q_1, hq_1, hm⟩ := bind_some hm
  have hFc := free_all hD hS hA
  refine va_callq (va_runV (As := [.int p1]) (rest := []) ⟨hx, hb, hml, hown, hts⟩ (k_X0_function l hfl G a T F U S D R M N P hlk p1  q_1 hq_1 H.size) (cwV 1 hts (gV wm575 wm488 wm489 wm5 wm490) rfl rfl rfl (by decide +kernel) ⟨Nat.le_of_ble_eq_true rfl, Nat.le_of_ble_eq_true rfl⟩) (pre_v (pre_w hK hP hD hS hE hFc) (va_recv hK hP (ci := 0) (q0 := 21) rfl rfl)) rfl rfl hl.1 rfl (lv_room (Nat.le_of_ble_eq_true rfl)) dX11_functionAt_5 ⟨Nat.le_of_ble_eq_true rfl, Nat.le_of_ble_eq_true rfl⟩) hS (fun q _ h => hFc q h) hFc (fun r u t H locs ht hvm hw hB hz1 hk1 hS => ?_)
  rw [show r = rfF a q_1 from hw]
  have hP : va_P (DG G) clP3 (wC G a T F U S D R M N P) H := by rw [← ht]; exact hB.1
  have hD : va_D A (wC G a T F U S D R M N P) := hB.2.weaken (fun _ p _ h => hFc p.1 h)
  clear hB hFc hw hk1
  refine W.widen (k := 0) (n := 0) (Nat.le_of_ble_eq_true rfl) (Nat.le_of_ble_eq_true rfl) ?_
  by_cases c_2 : q_1 < 0
  · rw [if_pos c_2] at hm
    rw [show rfF a q_1 = none from if_pos c_2]
    refine W.eq (g2 := F0 m 8 ls [.null]) rfl ?_
    refine lv_astore_nN (lv' := [(2, .null), (0, .ref (a.1 0)), (1, .int p1)]) hx hb dX11_functionAt_8 rfl hl (by decide) rfl (fun ls hl => ?_)
    refine lv_aload_nN hx hb dX11_functionAt_9 rfl (lv_at hl 0 rfl) ?_
    refine lv_ifnonnullN hx hb dX11_functionAt_10 ?_
    simp only [Option.some.injEq, Prod.mk.injEq] at hm
    obtain ⟨rfl, rfl⟩ := hm
    subst hAe
    obtain ⟨sa, hsa⟩ := hE.2.1 _ stm1
    exact tx_throwSW (Y1 := "java/lang/RuntimeException") (r := ["java/lang/Exception"]) (ix := 13) (rx := prog_32_method_4_code) (A := _) (free := _) hx hb hfl (by decide +kernel) (by decide +kernel) (by decide +kernel) (by decide +kernel) hown (by decide +kernel) (by decide +kernel) (by decide +kernel) (hts _ wm576) (hts _ wm16) hsa (xX11_95_hat hts hE) xX11_95_good (EV.un hE) (EV.su hE) hS (hl.1.trans hml.symm) dX11_functionAt_13 dX11_functionAt_16 dX11_functionAt_17 (Or.inr ⟨rfl, rfl⟩) dX11_functionAt_20 dX11_functionAt_23 (fun x hx => (hout0 x hx).elim) (Nat.le_of_ble_eq_true rfl) (Nat.le_of_ble_eq_true rfl) (Nat.le_of_ble_eq_true rfl) (Nat.le_of_ble_eq_true rfl) hlocks (fun t ha hz hk => ⟨(), trivial, ⟨rfl, va_Pgrow hP hk, hD⟩, xF hS hz hk⟩) hS.2.2 (Nat.le_of_ble_eq_true rfl) (Nat.le_of_ble_eq_true rfl)
  · rw [if_neg c_2] at hm
    obtain ⟨g_3, hm⟩ := ite_some hm
    rw [show rfF a q_1 = some _ from if_neg c_2]
    refine W.eq (g2 := F0 m 8 ls [.ref (a.2.1 (Int32.toNatClampNeg q_1))]) rfl ?_
    refine lv_astore_n (lv' := [(2, .ref (a.2.1 (Int32.toNatClampNeg q_1))), (0, .ref (a.1 0)), (1, .int p1)]) hx hb dX11_functionAt_8 rfl hl (by decide) rfl (fun ls hl => ?_)
    refine lv_aload_n hx hb dX11_functionAt_9 rfl (lv_at hl 0 rfl) ?_
    refine lv_ifnonnull (tgt := 24) hx hb dX11_functionAt_10 (by decide) ?_
    refine lv_aload_n hx hb dX11_functionAt_24 rfl (lv_at hl 0 rfl) ?_
    simp only [Option.some.injEq, Prod.mk.injEq] at hm
    obtain ⟨rfl, rfl⟩ := hm
    subst hAe
    refine W.widen (k := 1) (n := 6) (Nat.le_of_ble_eq_true rfl) (Nat.le_of_ble_eq_true rfl) ?_
    exact vx_ret (W.aret (v := .ref (a.2.1 (Int32.toNatClampNeg q_1))) hx hb hr (Or.inl ⟨_, rfl⟩) (Or.inr ⟨_, rfl⟩) (fun t ht hW => ⟨⟨(some (a.2.1 (Int32.toNatClampNeg q_1))), (), rfl, ⟨rfl, (rfF_pos g_3).symm⟩, ⟨by rw [ht]; exact hP, hD⟩⟩, hS.F ht⟩) hS.2.2 dX11_functionAt_25 hlocks)
def f_X11_goalAt (D : DS) (p1 : Int32) : Option (Int32 × Int32) := (Option.bind (f_X0_goal D p1) (fun q_1 => (if q_1 < 0 then some (4, 0) else (if gix D q_1 = true then some (0, q_1) else none))))
set_option maxHeartbeats 2000000 in
set_option maxRecDepth 100000 in
theorem k_X11_goalAt (l : Launch) (hfl : l.stackTraces = false) (G : GC) (a : AS) (T : TS) (F : FS) (U : US) (S : SS) (D : DS) (R : RS) (M : MS) (N : NS) (P : PS) (hlk : lkA a D.1.toNatClampNeg D.2.1.toNatClampNeg) (p1 : Int32) (k9 : Int32) (r9 : Int32) (hm : f_X11_goalAt D p1 = some (k9, r9)) (sz : Nat) : vx_Met l yX11_goalAt (Cond.code yX11_goalAt cX11_goalAt 3 (some (.object "TelescopeCourt$Goal")) :: W0) ({ frames := 6, cells := 1, slots := 6, locals := 82 }) (va_Pc [.ref (a.1 0), .int p1] (WD G (wC G a T F U S D R M N P) sz)) (va_Qq (S := Unit) (fun r _ => k9 = 0 ∧ r = rfG a r9) (fun _ t => PW G (va_A (wC G a T F U S D R M N P) sz) (wC G a T F U S D R M N P) t) (va_A (wC G a T F U S D R M N P) sz)) (vx_X (fun _ : Unit => True) (fun (E : String) (_ : Unit) (t : State) => xnm k9 = some E ∧ PW G (va_A (wC G a T F U S D R M N P) sz) (wC G a T F U S D R M N P) t) (va_A (wC G a T F U S D R M N P) sz)) 1 6 (va_A (wC G a T F U S D R M N P) sz) := by
  rw [f_X11_goalAt] at hm
  refine vx_ofW (cc := cX11_goalAt) (maxL := 3) (ret := (some (.object "TelescopeCourt$Goal"))) (by decide) rfl ?_
  intro p e s m args below meth c s₁ B hml hout0 hv
  obtain ⟨rfl, hsz, hP, hK, hD0, hE⟩ := hv
  have hx := B.exec
  have hb := B.bytes
  have hr := B.returns
  have hts := w0_tail B.pre
  have hown : s.vm.findClass RX11 = some m.cls := findClass_of_methodNamed B.named
  have hlocks := B.notSynchronized
  have hD := hD0.self (sz := sz)
  obtain ⟨A, hAe⟩ : ∃ A, (va_A (wC G a T F U S D R M N P) sz) = A := ⟨_, rfl⟩
  rw [hAe] at hD hE
  have hA : ∀ q : Nat, s.heap.size ≤ q → A q := fun q h => by rw [← hAe]; exact Or.inr (by rw [← hsz]; exact h)
  have hS : va_S A s.heap s.heap [] := va_S.rf
  obtain ⟨H, hHe⟩ : ∃ H : Heap, H = s.heap := ⟨_, rfl⟩
  have hP : va_P (DG G) clP3 (wC G a T F U S D R M N P) H := by rw [hHe]; exact hP
  have hS : va_S A s.heap H [] := by rw [hHe]; exact hS
  have hl := lv_entry ([.ref (a.1 0), .int p1]) (n := 3) (Nat.le_of_ble_eq_true rfl)
  rw [lg_entry_eq, ← hHe]
  generalize (lg_sl ([.ref (a.1 0), .int p1]) ++ List.replicate (3 - (lg_sl ([.ref (a.1 0), .int p1])).length) Slot.unset).toArray = ls at hl ⊢
  have hl : lv_has ls 3 [(0, .ref (a.1 0)), (1, .int p1)] := hl
  refine lv_aload_n hx hb dX11_goalAt_0 rfl (lv_at hl 0 rfl) ?_
  refine va_get (D := DG G) (ci := 10) (v := .ref (a.1 21)) (C := RX11) (T := TX11) (N := 10) hx hb hts inW_X11 hown hK hP 0 rfl rfl 3 (by decide) (hts _ wm287) (fun _ h9 => h9) rfl dX11_goalAt_1 ?_
  refine lv_iload_n hx hb dX11_goalAt_4 rfl (lv_at hl 1 rfl) ?_
  obtain ⟨q_1, hq_1, hm⟩ := bind_some hm
  have hFc := free_all hD hS hA
  refine va_callq (va_runV (As := [.int p1]) (rest := []) ⟨hx, hb, hml, hown, hts⟩ (k_X0_goal l hfl G a T F U S D R M N P hlk p1  q_1 hq_1 H.size) (cwV 1 hts (gV wm604 wm605 wm606 wm5 wm607) rfl rfl rfl (by decide +kernel) ⟨Nat.le_of_ble_eq_true rfl, Nat.le_of_ble_eq_true rfl⟩) (pre_v (pre_w hK hP hD hS hE hFc) (va_recv hK hP (ci := 0) (q0 := 21) rfl rfl)) rfl rfl hl.1 rfl (lv_room (Nat.le_of_ble_eq_true rfl)) dX11_goalAt_5 ⟨Nat.le_of_ble_eq_true rfl, Nat.le_of_ble_eq_true rfl⟩) hS (fun q _ h => hFc q h) hFc (fun r u t H locs ht hvm hw hB hz1 hk1 hS => ?_)
  rw [show r = rfG a q_1 from hw]
  have hP : va_P (DG G) clP3 (wC G a T F U S D R M N P) H := by rw [← ht]; exact hB.1
  have hD : va_D A (wC G a T F U S D R M N P) := hB.2.weaken (fun _ p _ h => hFc p.1 h)
  clear hB hFc hw hk1
  refine W.widen (k := 0) (n := 0) (Nat.le_of_ble_eq_true rfl) (Nat.le_of_ble_eq_true rfl) ?_
  by_cases c_2 : q_1 < 0
  · rw [if_pos c_2] at hm
    rw [show rfG a q_1 = none from if_pos c_2]
    refine W.eq (g2 := F0 m 8 ls [.null]) rfl ?_
    refine lv_astore_nN (lv' := [(2, .null), (0, .ref (a.1 0)), (1, .int p1)]) hx hb dX11_goalAt_8 rfl hl (by decide) rfl (fun ls hl => ?_)
    refine lv_aload_nN hx hb dX11_goalAt_9 rfl (lv_at hl 0 rfl) ?_
    refine lv_ifnonnullN hx hb dX11_goalAt_10 ?_
    simp only [Option.some.injEq, Prod.mk.injEq] at hm
    obtain ⟨rfl, rfl⟩ := hm
    subst hAe
    obtain ⟨sa, hsa⟩ := hE.2.1 _ stm2
    exact tx_throwSW (Y1 := "java/lang/RuntimeException") (r := ["java/lang/Exception"]) (ix := 13) (rx := prog_32_method_4_code) (A := _) (free := _) hx hb hfl (by decide +kernel) (by decide +kernel) (by decide +kernel) (by decide +kernel) hown (by decide +kernel) (by decide +kernel) (by decide +kernel) (hts _ wm576) (hts _ wm16) hsa (xX11_95_hat hts hE) xX11_95_good (EV.un hE) (EV.su hE) hS (hl.1.trans hml.symm) dX11_goalAt_13 dX11_goalAt_16 dX11_goalAt_17 (Or.inr ⟨rfl, rfl⟩) dX11_goalAt_20 dX11_goalAt_23 (fun x hx => (hout0 x hx).elim) (Nat.le_of_ble_eq_true rfl) (Nat.le_of_ble_eq_true rfl) (Nat.le_of_ble_eq_true rfl) (Nat.le_of_ble_eq_true rfl) hlocks (fun t ha hz hk => ⟨(), trivial, ⟨rfl, va_Pgrow hP hk, hD⟩, xF hS hz hk⟩) hS.2.2 (Nat.le_of_ble_eq_true rfl) (Nat.le_of_ble_eq_true rfl)
  · rw [if_neg c_2] at hm
    obtain ⟨g_3, hm⟩ := ite_some hm
    rw [show rfG a q_1 = some _ from if_neg c_2]
    refine W.eq (g2 := F0 m 8 ls [.ref (a.2.2.1 (Int32.toNatClampNeg q_1) 0)]) rfl ?_
    refine lv_astore_n (lv' := [(2, .ref (a.2.2.1 (Int32.toNatClampNeg q_1) 0)), (0, .ref (a.1 0)), (1, .int p1)]) hx hb dX11_goalAt_8 rfl hl (by decide) rfl (fun ls hl => ?_)
    refine lv_aload_n hx hb dX11_goalAt_9 rfl (lv_at hl 0 rfl) ?_
    refine lv_ifnonnull (tgt := 24) hx hb dX11_goalAt_10 (by decide) ?_
    refine lv_aload_n hx hb dX11_goalAt_24 rfl (lv_at hl 0 rfl) ?_
    simp only [Option.some.injEq, Prod.mk.injEq] at hm
    obtain ⟨rfl, rfl⟩ := hm
    subst hAe
    refine W.widen (k := 1) (n := 6) (Nat.le_of_ble_eq_true rfl) (Nat.le_of_ble_eq_true rfl) ?_
    exact vx_ret (W.aret (v := .ref (a.2.2.1 (Int32.toNatClampNeg q_1) 0)) hx hb hr (Or.inl ⟨_, rfl⟩) (Or.inr ⟨_, rfl⟩) (fun t ht hW => ⟨⟨(some (a.2.2.1 (Int32.toNatClampNeg q_1) 0)), (), rfl, ⟨rfl, (rfG_pos g_3).symm⟩, ⟨by rw [ht]; exact hP, hD⟩⟩, hS.F ht⟩) hS.2.2 dX11_goalAt_25 hlocks)
def f_X11_needPlace (D : DS) (P : PS) (p1 : Int32) (p2 : Int32) : Option (Int32) := (if p2 < 0 then some (3) else (if p2 < (P.2.2.2.2.2.2.2.2.2.2.1 (Int32.toNatClampNeg p1)) then some (0) else some (3)))
set_option maxHeartbeats 2000000 in
set_option maxRecDepth 100000 in
theorem k_X11_needPlace (l : Launch) (hfl : l.stackTraces = false) (G : GC) (a : AS) (T : TS) (F : FS) (U : US) (S : SS) (D : DS) (R : RS) (M : MS) (N : NS) (P : PS) (hlk : lkA a D.1.toNatClampNeg D.2.1.toNatClampNeg) (p1 : Int32) (p2 : Int32) (hg_p1 : gix D p1 = true) (k9 : Int32) (hm : f_X11_needPlace D P p1 p2 = some k9) (sz : Nat) : vx_Met l yX11_needPlace (Cond.code yX11_needPlace cX11_needPlace 2 none :: W0) ({ frames := 6, cells := 1, slots := 6, locals := 82 }) (va_Pc [.ref (a.2.2.1 (Int32.toNatClampNeg p1) 0), .int p2] (WD G (wC G a T F U S D R M N P) sz)) (va_Qv (S := Unit) (fun _ => k9 = 0) (fun _ t => PW G (va_A (wC G a T F U S D R M N P) sz) (wC G a T F U S D R M N P) t) (va_A (wC G a T F U S D R M N P) sz)) (vx_X (fun _ : Unit => True) (fun (E : String) (_ : Unit) (t : State) => xnm k9 = some E ∧ PW G (va_A (wC G a T F U S D R M N P) sz) (wC G a T F U S D R M N P) t) (va_A (wC G a T F U S D R M N P) sz)) 1 6 (va_A (wC G a T F U S D R M N P) sz) := by
  rw [f_X11_needPlace] at hm
  refine vx_ofW (cc := cX11_needPlace) (maxL := 2) (ret := none) (by decide) rfl ?_
  intro p e s m args below meth c s₁ B hml hout0 hv
  obtain ⟨rfl, hsz, hP, hK, hD0, hE⟩ := hv
  have hx := B.exec
  have hb := B.bytes
  have hr := B.returns
  have hts := w0_tail B.pre
  have hown : s.vm.findClass RX11 = some m.cls := findClass_of_methodNamed B.named
  have hlocks := B.notSynchronized
  have hD := hD0.self (sz := sz)
  obtain ⟨A, hAe⟩ : ∃ A, (va_A (wC G a T F U S D R M N P) sz) = A := ⟨_, rfl⟩
  rw [hAe] at hD hE
  have hA : ∀ q : Nat, s.heap.size ≤ q → A q := fun q h => by rw [← hAe]; exact Or.inr (by rw [← hsz]; exact h)
  have hS : va_S A s.heap s.heap [] := va_S.rf
  obtain ⟨H, hHe⟩ : ∃ H : Heap, H = s.heap := ⟨_, rfl⟩
  have hP : va_P (DG G) clP3 (wC G a T F U S D R M N P) H := by rw [hHe]; exact hP
  have hS : va_S A s.heap H [] := by rw [hHe]; exact hS
  have hl := lv_entry ([.ref (a.2.2.1 (Int32.toNatClampNeg p1) 0), .int p2]) (n := 2) (Nat.le_of_ble_eq_true rfl)
  rw [lg_entry_eq, ← hHe]
  generalize (lg_sl ([.ref (a.2.2.1 (Int32.toNatClampNeg p1) 0), .int p2]) ++ List.replicate (2 - (lg_sl ([.ref (a.2.2.1 (Int32.toNatClampNeg p1) 0), .int p2])).length) Slot.unset).toArray = ls at hl ⊢
  have hl : lv_has ls 2 [(0, .ref (a.2.2.1 (Int32.toNatClampNeg p1) 0)), (1, .int p2)] := hl
  refine lv_iload_n hx hb dX11_needPlace_0 rfl (lv_at hl 1 rfl) ?_
  refine lv_if_lt (tgt := 15) hx hb dX11_needPlace_1 (by decide) (fun c_1 => ?_) (fun c_1 => ?_)
  · rw [if_pos c_1] at hm
    obtain rfl := Option.some.inj hm
    subst hAe
    obtain ⟨sa, hsa⟩ := hE.2.1 _ stm3
    exact vx_throwSW (names := ["java/lang/RuntimeException", "java/lang/Exception"]) (A := _) (free := _) hx hb hfl hown (by decide +kernel) (by decide +kernel) (hts _ wm323) (hts _ wm17) hsa (xX11_344_hat hts hE) xX11_344_good (EV.un hE) (EV.su hE) hS (hl.1.trans hml.symm) dX11_needPlace_15 dX11_needPlace_18 dX11_needPlace_19 dX11_needPlace_22 dX11_needPlace_25 (fun x hx => (hout0 x hx).elim) (Nat.le_of_ble_eq_true rfl) (Nat.le_of_ble_eq_true rfl) (Nat.le_of_ble_eq_true rfl) (Nat.le_of_ble_eq_true rfl) hlocks (fun t ha hz hk => ⟨(), trivial, ⟨rfl, va_Pgrow hP hk, hD⟩, xF hS hz hk⟩) hS.2.2 (Nat.le_of_ble_eq_true rfl) (Nat.le_of_ble_eq_true rfl)
  · rw [if_neg c_1] at hm
    refine lv_iload_n hx hb dX11_needPlace_4 rfl (lv_at hl 1 rfl) ?_
    refine lv_aload_n hx hb dX11_needPlace_5 rfl (lv_at hl 0 rfl) ?_
    refine va_getN (D := DG G) (ci := 3) (v := .ref (a.2.2.1 (Int32.toNatClampNeg p1) 1)) (C := RX3) (T := TX3) (N := 8) hx hb hts inW_X3 hown hK hP _ ((at_goalC (c := 0) (gix_lt hg_p1) (by decide)).trans rfl) rfl 1 (by decide) (va_Nw.use rfl (hE.1 _ nw911)) (fun _ h9 => h9) rfl dX11_needPlace_6 ?_
    refine va_getN (D := DG G) (ci := 7) (v := .int (P.2.2.2.2.2.2.2.2.2.2.1 (Int32.toNatClampNeg p1))) (C := RX8) (T := TX8) (N := 2) hx hb hts inW_X8 hown hK hP _ ((at_goalC (c := 1) (gix_lt hg_p1) (by decide)).trans rfl) rfl 1 (by decide) (va_Nw.use rfl (hE.1 _ nw189)) (fun _ h9 => h9) rfl dX11_needPlace_9 ?_
    refine lv_icmp_lt (tgt := 26) hx hb dX11_needPlace_12 (by decide) (fun c_2 => ?_) (fun c_2 => ?_)
    · rw [if_pos c_2] at hm
      obtain rfl := Option.some.inj hm
      subst hAe
      refine W.widen (k := 1) (n := 6) (Nat.le_of_ble_eq_true rfl) (Nat.le_of_ble_eq_true rfl) ?_
      exact vx_ret (W.vret hx hb hr (fun t ht hW => ⟨⟨(), rfl, rfl, ⟨by rw [ht]; exact hP, hD⟩⟩, hS.F ht⟩) hS.2.2 dX11_needPlace_26 hlocks)
    · rw [if_neg c_2] at hm
      obtain rfl := Option.some.inj hm
      subst hAe
      obtain ⟨sa, hsa⟩ := hE.2.1 _ stm3
      exact vx_throwSW (names := ["java/lang/RuntimeException", "java/lang/Exception"]) (A := _) (free := _) hx hb hfl hown (by decide +kernel) (by decide +kernel) (hts _ wm323) (hts _ wm17) hsa (xX11_344_hat hts hE) xX11_344_good (EV.un hE) (EV.su hE) hS (hl.1.trans hml.symm) dX11_needPlace_15 dX11_needPlace_18 dX11_needPlace_19 dX11_needPlace_22 dX11_needPlace_25 (fun x hx => (hout0 x hx).elim) (Nat.le_of_ble_eq_true rfl) (Nat.le_of_ble_eq_true rfl) (Nat.le_of_ble_eq_true rfl) (Nat.le_of_ble_eq_true rfl) hlocks (fun t ha hz hk => ⟨(), trivial, ⟨rfl, va_Pgrow hP hk, hD⟩, xF hS hz hk⟩) hS.2.2 (Nat.le_of_ble_eq_true rfl) (Nat.le_of_ble_eq_true rfl)
def f_X11_needOpen (D : DS) (P : PS) (p1 : Int32) : Option (Int32) := (if (P.2.2.2.2.2.1 (Int32.toNatClampNeg p1)) = 111 then some (0) else some (2))
set_option maxHeartbeats 2000000 in
set_option maxRecDepth 100000 in
theorem k_X11_needOpen (l : Launch) (hfl : l.stackTraces = false) (G : GC) (a : AS) (T : TS) (F : FS) (U : US) (S : SS) (D : DS) (R : RS) (M : MS) (N : NS) (P : PS) (hlk : lkA a D.1.toNatClampNeg D.2.1.toNatClampNeg) (p1 : Int32) (hg_p1 : gix D p1 = true) (k9 : Int32) (hm : f_X11_needOpen D P p1 = some k9) (sz : Nat) : vx_Met l yX11_needOpen (Cond.code yX11_needOpen cX11_needOpen 1 none :: W0) ({ frames := 6, cells := 1, slots := 6, locals := 82 }) (va_Pc [.ref (a.2.2.1 (Int32.toNatClampNeg p1) 0)] (WD G (wC G a T F U S D R M N P) sz)) (va_Qv (S := Unit) (fun _ => k9 = 0) (fun _ t => PW G (va_A (wC G a T F U S D R M N P) sz) (wC G a T F U S D R M N P) t) (va_A (wC G a T F U S D R M N P) sz)) (vx_X (fun _ : Unit => True) (fun (E : String) (_ : Unit) (t : State) => xnm k9 = some E ∧ PW G (va_A (wC G a T F U S D R M N P) sz) (wC G a T F U S D R M N P) t) (va_A (wC G a T F U S D R M N P) sz)) 1 6 (va_A (wC G a T F U S D R M N P) sz) := by
  rw [f_X11_needOpen] at hm
  refine vx_ofW (cc := cX11_needOpen) (maxL := 1) (ret := none) (by decide) rfl ?_
  intro p e s m args below meth c s₁ B hml hout0 hv
  obtain ⟨rfl, hsz, hP, hK, hD0, hE⟩ := hv
  have hx := B.exec
  have hb := B.bytes
  have hr := B.returns
  have hts := w0_tail B.pre
  have hown : s.vm.findClass RX11 = some m.cls := findClass_of_methodNamed B.named
  have hlocks := B.notSynchronized
  have hD := hD0.self (sz := sz)
  obtain ⟨A, hAe⟩ : ∃ A, (va_A (wC G a T F U S D R M N P) sz) = A := ⟨_, rfl⟩
  rw [hAe] at hD hE
  have hA : ∀ q : Nat, s.heap.size ≤ q → A q := fun q h => by rw [← hAe]; exact Or.inr (by rw [← hsz]; exact h)
  have hS : va_S A s.heap s.heap [] := va_S.rf
  obtain ⟨H, hHe⟩ : ∃ H : Heap, H = s.heap := ⟨_, rfl⟩
  have hP : va_P (DG G) clP3 (wC G a T F U S D R M N P) H := by rw [hHe]; exact hP
  have hS : va_S A s.heap H [] := by rw [hHe]; exact hS
  have hl := lv_entry ([.ref (a.2.2.1 (Int32.toNatClampNeg p1) 0)]) (n := 1) (Nat.le_of_ble_eq_true rfl)
  rw [lg_entry_eq, ← hHe]
  generalize (lg_sl ([.ref (a.2.2.1 (Int32.toNatClampNeg p1) 0)]) ++ List.replicate (1 - (lg_sl ([.ref (a.2.2.1 (Int32.toNatClampNeg p1) 0)])).length) Slot.unset).toArray = ls at hl ⊢
  have hl : lv_has ls 1 [(0, .ref (a.2.2.1 (Int32.toNatClampNeg p1) 0))] := hl
  refine lv_aload_n hx hb dX11_needOpen_0 rfl (lv_at hl 0 rfl) ?_
  refine va_getN (D := DG G) (ci := 3) (v := .int (P.2.2.2.2.2.1 (Int32.toNatClampNeg p1))) (C := RX3) (T := TX3) (N := 8) hx hb hts inW_X3 hown hK hP _ ((at_goalC (c := 0) (gix_lt hg_p1) (by decide)).trans rfl) rfl 4 (by decide) (va_Nw.use rfl (hE.1 _ nw923)) (fun _ h9 => h9) rfl dX11_needOpen_1 ?_
  refine lv_bipush (v := 111) hx hb dX11_needOpen_4 (by decide) ?_
  refine lv_icmp_eq (tgt := 20) hx hb dX11_needOpen_6 (by decide) (fun c_1 => ?_) (fun c_1 => ?_)
  · rw [if_pos c_1] at hm
    obtain rfl := Option.some.inj hm
    subst hAe
    refine W.widen (k := 1) (n := 6) (Nat.le_of_ble_eq_true rfl) (Nat.le_of_ble_eq_true rfl) ?_
    exact vx_ret (W.vret hx hb hr (fun t ht hW => ⟨⟨(), rfl, rfl, ⟨by rw [ht]; exact hP, hD⟩⟩, hS.F ht⟩) hS.2.2 dX11_needOpen_20 hlocks)
  · rw [if_neg c_1] at hm
    obtain rfl := Option.some.inj hm
    subst hAe
    obtain ⟨sa, hsa⟩ := hE.2.1 _ stm4
    exact vx_throwSW (names := ["java/lang/RuntimeException", "java/lang/Exception"]) (A := _) (free := _) hx hb hfl hown (by decide +kernel) (by decide +kernel) (hts _ wm669) (hts _ wm14) hsa (xX11_113_hat hts hE) xX11_113_good (EV.un hE) (EV.su hE) hS (hl.1.trans hml.symm) dX11_needOpen_9 dX11_needOpen_12 dX11_needOpen_13 dX11_needOpen_16 dX11_needOpen_19 (fun x hx => (hout0 x hx).elim) (Nat.le_of_ble_eq_true rfl) (Nat.le_of_ble_eq_true rfl) (Nat.le_of_ble_eq_true rfl) (Nat.le_of_ble_eq_true rfl) hlocks (fun t ha hz hk => ⟨(), trivial, ⟨rfl, va_Pgrow hP hk, hD⟩, xF hS hz hk⟩) hS.2.2 (Nat.le_of_ble_eq_true rfl) (Nat.le_of_ble_eq_true rfl)
def f_X11_numberOfScratch (T : TS) (p1 : Int32) (p2 : Int32) : Option (Int32 × Int32 × TS) := (Option.bind (g_X9_numberOf T p2) (fun q_1 => (Option.bind (g_X9_release T p1) (fun q_2 => (if p2 = (-1) then some (5, 0, q_2) else some (0, q_1, q_2))))))
set_option maxHeartbeats 2000000 in
set_option maxRecDepth 100000 in
theorem k_X11_numberOfScratch (l : Launch) (hfl : l.stackTraces = false) (G : GC) (a : AS) (T : TS) (F : FS) (U : US) (S : SS) (D : DS) (R : RS) (M : MS) (N : NS) (P : PS) (hlk : lkA a D.1.toNatClampNeg D.2.1.toNatClampNeg) (p1 : Int32) (p2 : Int32) (k9 : Int32) (r9 : Int32) (T9 : TS) (hm : f_X11_numberOfScratch T p1 p2 = some (k9, r9, T9)) (sz : Nat) : vx_Met l yX11_numberOfScratch (Cond.code yX11_numberOfScratch cX11_numberOfScratch 4 (some .int) :: W0) ({ frames := 6, cells := 1, slots := 6, locals := 82 }) (va_Pc [.ref (a.1 0), .int p1, .int p2] (WD G (wC G a T F U S D R M N P) sz)) (va_Qi (S := Unit) (fun r _ => k9 = 0 ∧ r = r9) (fun _ t => PW G (va_A (wC G a T F U S D R M N P) sz) (wC G a T9 F U S D R M N P) t) (va_A (wC G a T F U S D R M N P) sz)) (vx_X (fun _ : Unit => True) (fun (E : String) (_ : Unit) (t : State) => xnm k9 = some E ∧ PW G (va_A (wC G a T F U S D R M N P) sz) (wC G a T9 F U S D R M N P) t) (va_A (wC G a T F U S D R M N P) sz)) 1 6 (va_A (wC G a T F U S D R M N P) sz) := by
  rw [f_X11_numberOfScratch] at hm
  refine vx_ofW (cc := cX11_numberOfScratch) (maxL := 4) (ret := (some .int)) (by decide) rfl ?_
  intro p e s m args below meth c s₁ B hml hout0 hv
  obtain ⟨rfl, hsz, hP, hK, hD0, hE⟩ := hv
  have hx := B.exec
  have hb := B.bytes
  have hr := B.returns
  have hts := w0_tail B.pre
  have hown : s.vm.findClass RX11 = some m.cls := findClass_of_methodNamed B.named
  have hlocks := B.notSynchronized
  have hD := hD0.self (sz := sz)
  obtain ⟨A, hAe⟩ : ∃ A, (va_A (wC G a T F U S D R M N P) sz) = A := ⟨_, rfl⟩
  rw [hAe] at hD hE
  have hA : ∀ q : Nat, s.heap.size ≤ q → A q := fun q h => by rw [← hAe]; exact Or.inr (by rw [← hsz]; exact h)
  have hS : va_S A s.heap s.heap [] := va_S.rf
  obtain ⟨H, hHe⟩ : ∃ H : Heap, H = s.heap := ⟨_, rfl⟩
  have hP : va_P (DG G) clP3 (wC G a T F U S D R M N P) H := by rw [hHe]; exact hP
  have hS : va_S A s.heap H [] := by rw [hHe]; exact hS
  have hl := lv_entry ([.ref (a.1 0), .int p1, .int p2]) (n := 4) (Nat.le_of_ble_eq_true rfl)
  rw [lg_entry_eq, ← hHe]
  generalize (lg_sl ([.ref (a.1 0), .int p1, .int p2]) ++ List.replicate (4 - (lg_sl ([.ref (a.1 0), .int p1, .int p2])).length) Slot.unset).toArray = ls at hl ⊢
  have hl : lv_has ls 4 [(0, .ref (a.1 0)), (1, .int p1), (2, .int p2)] := hl
  refine lv_aload_n hx hb dX11_numberOfScratch_0 rfl (lv_at hl 0 rfl) ?_
  refine va_get (D := DG G) (ci := 10) (v := .ref (a.1 1)) (C := RX11) (T := TX11) (N := 10) hx hb hts inW_X11 hown hK hP 0 rfl rfl 0 (by decide) (hts _ wm284) (fun _ h9 => h9) rfl dX11_numberOfScratch_1 ?_
  refine lv_iload_n hx hb dX11_numberOfScratch_4 rfl (lv_at hl 2 rfl) ?_
  obtain ⟨q_1, hq_1, hm⟩ := bind_some hm
  have hFc := free_all hD hS hA
  refine va_calli (va_runV (As := [.int p2]) (rest := []) ⟨hx, hb, hml, hown, hts⟩ (K_X9_numberOf l hfl G a T F U S D R M N P p2  q_1 hq_1 H.size) (cwV 1 hts (gV wm402 wm403 wm404 wm2 wm405) rfl rfl rfl (by decide +kernel) ⟨Nat.le_of_ble_eq_true rfl, Nat.le_of_ble_eq_true rfl⟩) (pre_v (pre_w hK hP hD hS hE hFc) (va_recv hK hP (ci := 8) (q0 := 1) rfl rfl)) rfl rfl hl.1 rfl (lv_room (Nat.le_of_ble_eq_true rfl)) dX11_numberOfScratch_5 ⟨Nat.le_of_ble_eq_true rfl, Nat.le_of_ble_eq_true rfl⟩) hS (fun q _ h => hFc q h) hFc (fun r u t H locs ht hvm hw hB hz1 hk1 hS => ?_)
  rw [show r = q_1 from hw]
  have hP : va_P (DG G) clP3 (wC G a T F U S D R M N P) H := by rw [← ht]; exact hB.1
  have hD : va_D A (wC G a T F U S D R M N P) := hB.2.weaken (fun _ p _ h => hFc p.1 h)
  clear hB hFc hw hk1
  refine W.widen (k := 0) (n := 0) (Nat.le_of_ble_eq_true rfl) (Nat.le_of_ble_eq_true rfl) ?_
  refine lv_istore_n (lv' := [(3, .int q_1), (0, .ref (a.1 0)), (1, .int p1), (2, .int p2)]) hx hb dX11_numberOfScratch_8 rfl hl (by decide) rfl (fun ls hl => ?_)
  refine lv_aload_n hx hb dX11_numberOfScratch_9 rfl (lv_at hl 1 rfl) ?_
  refine va_get (D := DG G) (ci := 10) (v := .ref (a.1 1)) (C := RX11) (T := TX11) (N := 10) hx hb hts inW_X11 hown hK hP 0 rfl rfl 0 (by decide) (hts _ wm284) (fun _ h9 => h9) rfl dX11_numberOfScratch_10 ?_
  refine lv_iload_n hx hb dX11_numberOfScratch_13 rfl (lv_at hl 2 rfl) ?_
  obtain ⟨q_2, hq_2, hm⟩ := bind_some hm
  have hFc := free_all hD hS hA
  refine va_callv (va_runV (As := [.int p1]) (rest := []) ⟨hx, hb, hml, hown, hts⟩ (K_X9_release l hfl G a T F U S D R M N P p1  q_2 hq_2 H.size) (cwV 1 hts (gV wm566 wm509 wm510 wm2 wm511) rfl rfl rfl (by decide +kernel) ⟨Nat.le_of_ble_eq_true rfl, Nat.le_of_ble_eq_true rfl⟩) (pre_v (pre_w hK hP hD hS hE hFc) (va_recv hK hP (ci := 8) (q0 := 1) rfl rfl)) rfl rfl hl.1 rfl (lv_room (Nat.le_of_ble_eq_true rfl)) dX11_numberOfScratch_14 ⟨Nat.le_of_ble_eq_true rfl, Nat.le_of_ble_eq_true rfl⟩) hS (fun q _ h => hFc q h) hFc (fun u t H locs ht hvm hw hB hz1 hk1 hS => ?_)
  have hP : va_P (DG G) clP3 (wC G a q_2 F U S D R M N P) H := by rw [← ht]; exact hB.1
  have hD : va_D A (wC G a q_2 F U S D R M N P) := hB.2.weaken (fun _ p _ h => hFc p.1 h)
  clear hB hFc hk1
  refine W.widen (k := 0) (n := 0) (Nat.le_of_ble_eq_true rfl) (Nat.le_of_ble_eq_true rfl) ?_
  refine lv_iload_n hx hb dX11_numberOfScratch_17 rfl (lv_at hl 3 rfl) ?_
  refine lv_iconst (v := (-1)) hx hb dX11_numberOfScratch_18 (by decide) ?_
  refine lv_icmp_ne (tgt := 33) hx hb dX11_numberOfScratch_19 (by decide) (fun c_3 => ?_) (fun c_3 => ?_)
  · rw [if_neg c_3] at hm
    refine lv_iload_n hx hb dX11_numberOfScratch_33 rfl (lv_at hl 0 rfl) ?_
    simp only [Option.some.injEq, Prod.mk.injEq] at hm
    obtain ⟨rfl, rfl, rfl⟩ := hm
    subst hAe
    refine W.widen (k := 1) (n := 6) (Nat.le_of_ble_eq_true rfl) (Nat.le_of_ble_eq_true rfl) ?_
    exact vx_ret (W.iret (v := q_1) hx hb hr (fun t ht hW => ⟨⟨q_1, (), rfl, ⟨rfl, rfl⟩, ⟨by rw [ht]; exact hP, hD⟩⟩, hS.F ht⟩) hS.2.2 dX11_numberOfScratch_34 hlocks)
  · rw [if_pos c_3] at hm
    simp only [Option.some.injEq, Prod.mk.injEq] at hm
    obtain ⟨rfl, rfl, rfl⟩ := hm
    subst hAe
    obtain ⟨sa, hsa⟩ := hE.2.1 _ stm5
    exact vx_throwSW (names := ["java/lang/RuntimeException", "java/lang/Exception"]) (A := _) (free := _) hx hb hfl hown (by decide +kernel) (by decide +kernel) (hts _ wm819) (hts _ wm21) hsa (xX11_162_hat hts hE) xX11_162_good (EV.un hE) (EV.su hE) hS (hl.1.trans hml.symm) dX11_numberOfScratch_22 dX11_numberOfScratch_25 dX11_numberOfScratch_26 dX11_numberOfScratch_29 dX11_numberOfScratch_32 (fun x hx => (hout0 x hx).elim) (Nat.le_of_ble_eq_true rfl) (Nat.le_of_ble_eq_true rfl) (Nat.le_of_ble_eq_true rfl) (Nat.le_of_ble_eq_true rfl) hlocks (fun t ha hz hk => ⟨(), trivial, ⟨rfl, va_Pgrow hP hk, hD⟩, xF hS hz hk⟩) hS.2.2 (Nat.le_of_ble_eq_true rfl) (Nat.le_of_ble_eq_true rfl)
def f_X11_layLeaf (T : TS) (N : NS) (p1 : Int32) (p2 : Int32) : Option (Int32 × Int32 × TS × NS) := (if N.2.1 < 250 then (Option.bind (g_X9_leaf T p1 p2) (fun q_2 => (if inb N.2.1 250 = true then some (0, ((N.2.1 + (1 : Int32)) - (1 : Int32)), q_2.2, ((upd N.1 (Int32.toNatClampNeg N.2.1) q_2.1), (N.2.1 + (1 : Int32)), N.2.2)) else none))) else some (2, 0, T, N))
set_option maxHeartbeats 2000000 in
set_option maxRecDepth 100000 in
theorem k_X11_layLeaf (l : Launch) (hfl : l.stackTraces = false) (G : GC) (a : AS) (T : TS) (F : FS) (U : US) (S : SS) (D : DS) (R : RS) (M : MS) (N : NS) (P : PS) (hlk : lkA a D.1.toNatClampNeg D.2.1.toNatClampNeg) (p1 : Int32) (p2 : Int32) (k9 : Int32) (r9 : Int32) (T9 : TS) (N9 : NS) (hm : f_X11_layLeaf T N p1 p2 = some (k9, r9, T9, N9)) (sz : Nat) : vx_Met l yX11_layLeaf (Cond.code yX11_layLeaf cX11_layLeaf 3 (some .int) :: W0) ({ frames := 6, cells := 1, slots := 6, locals := 82 }) (va_Pc [.ref (a.1 0), .int p1, .int p2] (WD G (wC G a T F U S D R M N P) sz)) (va_Qi (S := Unit) (fun r _ => k9 = 0 ∧ r = r9) (fun _ t => PW G (va_A (wC G a T F U S D R M N P) sz) (wC G a T9 F U S D R M N9 P) t) (va_A (wC G a T F U S D R M N P) sz)) (vx_X (fun _ : Unit => True) (fun (E : String) (_ : Unit) (t : State) => xnm k9 = some E ∧ PW G (va_A (wC G a T F U S D R M N P) sz) (wC G a T9 F U S D R M N9 P) t) (va_A (wC G a T F U S D R M N P) sz)) 1 6 (va_A (wC G a T F U S D R M N P) sz) := by
  rw [f_X11_layLeaf] at hm
  refine vx_ofW (cc := cX11_layLeaf) (maxL := 3) (ret := (some .int)) (by decide) rfl ?_
  intro p e s m args below meth c s₁ B hml hout0 hv
  obtain ⟨rfl, hsz, hP, hK, hD0, hE⟩ := hv
  have hx := B.exec
  have hb := B.bytes
  have hr := B.returns
  have hts := w0_tail B.pre
  have hown : s.vm.findClass RX11 = some m.cls := findClass_of_methodNamed B.named
  have hlocks := B.notSynchronized
  have hD := hD0.self (sz := sz)
  obtain ⟨A, hAe⟩ : ∃ A, (va_A (wC G a T F U S D R M N P) sz) = A := ⟨_, rfl⟩
  rw [hAe] at hD hE
  have hA : ∀ q : Nat, s.heap.size ≤ q → A q := fun q h => by rw [← hAe]; exact Or.inr (by rw [← hsz]; exact h)
  have hS : va_S A s.heap s.heap [] := va_S.rf
  obtain ⟨H, hHe⟩ : ∃ H : Heap, H = s.heap := ⟨_, rfl⟩
  have hP : va_P (DG G) clP3 (wC G a T F U S D R M N P) H := by rw [hHe]; exact hP
  have hS : va_S A s.heap H [] := by rw [hHe]; exact hS
  have hl := lv_entry ([.ref (a.1 0), .int p1, .int p2]) (n := 3) (Nat.le_of_ble_eq_true rfl)
  rw [lg_entry_eq, ← hHe]
  generalize (lg_sl ([.ref (a.1 0), .int p1, .int p2]) ++ List.replicate (3 - (lg_sl ([.ref (a.1 0), .int p1, .int p2])).length) Slot.unset).toArray = ls at hl ⊢
  have hl : lv_has ls 3 [(0, .ref (a.1 0)), (1, .int p1), (2, .int p2)] := hl
  refine lv_aload_n hx hb dX11_layLeaf_0 rfl (lv_at hl 0 rfl) ?_
  refine va_get (D := DG G) (ci := 10) (v := .int N.2.1) (C := RX11) (T := TX11) (N := 10) hx hb hts inW_X11 hown hK hP 0 rfl rfl 8 (by decide) (hts _ wm292) (fun _ h9 => h9) rfl dX11_layLeaf_1 ?_
  refine lv_aload_n hx hb dX11_layLeaf_4 rfl (lv_at hl 0 rfl) ?_
  refine va_get (D := DG G) (ci := 10) (v := .ref (a.1 36)) (C := RX11) (T := TX11) (N := 10) hx hb hts inW_X11 hown hK hP 0 rfl rfl 7 (by decide) (hts _ wm291) (fun _ h9 => h9) rfl dX11_layLeaf_5 ?_
  refine va_alen (v := 250) hx hb hK hP 36 0 rfl rfl (show Int32.ofNat 250 = 250 from by decide) dX11_layLeaf_8 ?_
  refine lv_icmp_lt (tgt := 23) hx hb dX11_layLeaf_9 (by decide) (fun c_1 => ?_) (fun c_1 => ?_)
  · rw [if_pos c_1] at hm
    refine lv_aload_n hx hb dX11_layLeaf_23 rfl (lv_at hl 0 rfl) ?_
    refine va_get (D := DG G) (ci := 10) (v := .ref (a.1 36)) (C := RX11) (T := TX11) (N := 10) hx hb hts inW_X11 hown hK hP 0 rfl rfl 7 (by decide) (hts _ wm291) (fun _ h9 => h9) rfl dX11_layLeaf_24 ?_
    refine lv_aload_n hx hb dX11_layLeaf_27 rfl (lv_at hl 0 rfl) ?_
    refine va_get (D := DG G) (ci := 10) (v := .int N.2.1) (C := RX11) (T := TX11) (N := 10) hx hb hts inW_X11 hown hK hP 0 rfl rfl 8 (by decide) (hts _ wm292) (fun _ h9 => h9) rfl dX11_layLeaf_28 ?_
    refine lv_aload_n hx hb dX11_layLeaf_31 rfl (lv_at hl 0 rfl) ?_
    refine va_get (D := DG G) (ci := 10) (v := .ref (a.1 1)) (C := RX11) (T := TX11) (N := 10) hx hb hts inW_X11 hown hK hP 0 rfl rfl 0 (by decide) (hts _ wm284) (fun _ h9 => h9) rfl dX11_layLeaf_32 ?_
    refine lv_iload_n hx hb dX11_layLeaf_35 rfl (lv_at hl 1 rfl) ?_
    refine lv_iload_n hx hb dX11_layLeaf_36 rfl (lv_at hl 2 rfl) ?_
    obtain ⟨q_2, hq_2, hm⟩ := bind_some hm
    have hFc := free_all hD hS hA
    refine va_calli (va_runV (As := [.int p1, .int p2]) (rest := [.int N.2.1, .ref (a.1 36)]) ⟨hx, hb, hml, hown, hts⟩ (K_X9_leaf l hfl G a T F U S D R M N P p1 p2  q_2.1 q_2.2 hq_2 H.size) (cwV 2 hts (gV wm685 wm439 wm440 wm2 wm441) rfl rfl rfl (by decide +kernel) ⟨Nat.le_of_ble_eq_true rfl, Nat.le_of_ble_eq_true rfl⟩) (pre_v (pre_w hK hP hD hS hE hFc) (va_recv hK hP (ci := 8) (q0 := 1) rfl rfl)) rfl rfl hl.1 rfl (lv_room (Nat.le_of_ble_eq_true rfl)) dX11_layLeaf_37 ⟨Nat.le_of_ble_eq_true rfl, Nat.le_of_ble_eq_true rfl⟩) hS (fun q _ h => hFc q h) hFc (fun r u t H locs ht hvm hw hB hz1 hk1 hS => ?_)
    rw [show r = q_2.1 from hw]
    have hP : va_P (DG G) clP3 (wC G a q_2.2 F U S D R M N P) H := by rw [← ht]; exact hB.1
    have hD : va_D A (wC G a q_2.2 F U S D R M N P) := hB.2.weaken (fun _ p _ h => hFc p.1 h)
    clear hB hFc hw hk1
    refine W.widen (k := 0) (n := 0) (Nat.le_of_ble_eq_true rfl) (Nat.le_of_ble_eq_true rfl) ?_
    obtain ⟨b_3, hm⟩ := ite_some hm
    refine va_iast hx hb hK hP hD hS 36 0 rfl rfl (inb_vp b_3) dX11_layLeaf_40 (fun H locs hP hD hS => ?_)
    have hP : va_P (DG G) clP3 (wC G a q_2.2 F U S D R M ((upd N.1 (Int32.toNatClampNeg N.2.1) q_2.1), N.2.1, N.2.2) P) H := hP
    have hD : va_D A (wC G a q_2.2 F U S D R M ((upd N.1 (Int32.toNatClampNeg N.2.1) q_2.1), N.2.1, N.2.2) P) := hD
    refine lv_aload_n hx hb dX11_layLeaf_41 rfl (lv_at hl 0 rfl) ?_
    refine lv_dup hx hb dX11_layLeaf_42 rfl ?_
    refine va_get (D := DG G) (ci := 10) (v := .int N.2.1) (C := RX11) (T := TX11) (N := 10) hx hb hts inW_X11 hown hK hP 0 rfl rfl 8 (by decide) (hts _ wm292) (fun _ h9 => h9) rfl dX11_layLeaf_43 ?_
    refine lv_iconst (v := 1) hx hb dX11_layLeaf_46 (by decide) ?_
    refine lv_iadd hx hb dX11_layLeaf_47 ?_
    refine va_put (D := DG G) (ci := 10) (v := .int (N.2.1 + (1 : Int32))) (ty := tyX11 8) (C := RX11) (T := TX11) (N := 10) hx hb hts inW_X11 tyX11 tyX11_ok nmX11 hown hK hP hD hS 0 rfl rfl 8 (by decide) (hts _ wm292) (fun _ h9 => h9) rfl (by decide +kernel) rfl rfl (Nat.le_of_ble_eq_true rfl) dX11_layLeaf_48 (fun H locs hP hD hS => ?_)
    have hP : va_P (DG G) clP3 (wC G a q_2.2 F U S D R M ((upd N.1 (Int32.toNatClampNeg N.2.1) q_2.1), (N.2.1 + (1 : Int32)), N.2.2) P) H := hP
    have hD : va_D A (wC G a q_2.2 F U S D R M ((upd N.1 (Int32.toNatClampNeg N.2.1) q_2.1), (N.2.1 + (1 : Int32)), N.2.2) P) := hD
    refine lv_aload_n hx hb dX11_layLeaf_51 rfl (lv_at hl 0 rfl) ?_
    refine va_get (D := DG G) (ci := 10) (v := .int (N.2.1 + (1 : Int32))) (C := RX11) (T := TX11) (N := 10) hx hb hts inW_X11 hown hK hP 0 rfl rfl 8 (by decide) (hts _ wm292) (fun _ h9 => h9) rfl dX11_layLeaf_52 ?_
    refine lv_iconst (v := 1) hx hb dX11_layLeaf_55 (by decide) ?_
    refine lv_isub hx hb dX11_layLeaf_56 ?_
    simp only [Option.some.injEq, Prod.mk.injEq] at hm
    obtain ⟨rfl, rfl, rfl, rfl⟩ := hm
    subst hAe
    refine W.widen (k := 1) (n := 6) (Nat.le_of_ble_eq_true rfl) (Nat.le_of_ble_eq_true rfl) ?_
    exact vx_ret (W.iret (v := ((N.2.1 + (1 : Int32)) - (1 : Int32))) hx hb hr (fun t ht hW => ⟨⟨((N.2.1 + (1 : Int32)) - (1 : Int32)), (), rfl, ⟨rfl, rfl⟩, ⟨by rw [ht]; exact hP, hD⟩⟩, hS.F ht⟩) hS.2.2 dX11_layLeaf_57 hlocks)
  · rw [if_neg c_1] at hm
    simp only [Option.some.injEq, Prod.mk.injEq] at hm
    obtain ⟨rfl, rfl, rfl, rfl⟩ := hm
    subst hAe
    obtain ⟨sa, hsa⟩ := hE.2.1 _ stm6
    exact vx_throwSW (names := ["java/lang/RuntimeException", "java/lang/Exception"]) (A := _) (free := _) hx hb hfl hown (by decide +kernel) (by decide +kernel) (hts _ wm669) (hts _ wm14) hsa (xX11_113_hat hts hE) xX11_113_good (EV.un hE) (EV.su hE) hS (hl.1.trans hml.symm) dX11_layLeaf_12 dX11_layLeaf_15 dX11_layLeaf_16 dX11_layLeaf_19 dX11_layLeaf_22 (fun x hx => (hout0 x hx).elim) (Nat.le_of_ble_eq_true rfl) (Nat.le_of_ble_eq_true rfl) (Nat.le_of_ble_eq_true rfl) (Nat.le_of_ble_eq_true rfl) hlocks (fun t ha hz hk => ⟨(), trivial, ⟨rfl, va_Pgrow hP hk, hD⟩, xF hS hz hk⟩) hS.2.2 (Nat.le_of_ble_eq_true rfl) (Nat.le_of_ble_eq_true rfl)
def f_X11_layPair (T : TS) (N : NS) (p1 : Int32) (p2 : Int32) (p3 : Int32) : Option (Int32 × Int32 × TS × NS) := (Option.bind (f_X11_termAt N p2) (fun q_1 => (if q_1.1 = 0 then (Option.bind (f_X11_termAt N p3) (fun q_3 => (if q_3.1 = 0 then (if 250 ≤ N.2.1 then some (2, 0, T, N) else (Option.bind (g_X9_sizeOf T q_1.2) (fun q_6 => (Option.bind (g_X9_sizeOf T q_3.2) (fun q_7 => (if (((1 : Int32) + q_6) + q_7) ≤ 30 then (Option.bind (g_X9_pair T p1 q_1.2 q_3.2) (fun q_9 => (if inb N.2.1 250 = true then some (0, ((N.2.1 + (1 : Int32)) - (1 : Int32)), q_9.2, ((upd N.1 (Int32.toNatClampNeg N.2.1) q_9.1), (N.2.1 + (1 : Int32)), N.2.2)) else none))) else some (2, 0, T, N))))))) else some (q_3.1, 0, T, N)))) else some (q_1.1, 0, T, N))))
set_option maxHeartbeats 2000000 in
set_option maxRecDepth 100000 in
theorem k_X11_layPair (l : Launch) (hfl : l.stackTraces = false) (G : GC) (a : AS) (T : TS) (F : FS) (U : US) (S : SS) (D : DS) (R : RS) (M : MS) (N : NS) (P : PS) (hlk : lkA a D.1.toNatClampNeg D.2.1.toNatClampNeg) (p1 : Int32) (p2 : Int32) (p3 : Int32) (k9 : Int32) (r9 : Int32) (T9 : TS) (N9 : NS) (hm : f_X11_layPair T N p1 p2 p3 = some (k9, r9, T9, N9)) (sz : Nat) : vx_Met l yX11_layPair (Cond.code yX11_layPair cX11_layPair 6 (some .int) :: W0) ({ frames := 7, cells := 3, slots := 18, locals := 103 }) (va_Pc [.ref (a.1 0), .int p1, .int p2, .int p3] (WD G (wC G a T F U S D R M N P) sz)) (va_Qi (S := Unit) (fun r _ => k9 = 0 ∧ r = r9) (fun _ t => PW G (va_A (wC G a T F U S D R M N P) sz) (wC G a T9 F U S D R M N9 P) t) (va_A (wC G a T F U S D R M N P) sz)) (vx_X (fun _ : Unit => True) (fun (E : String) (_ : Unit) (t : State) => xnm k9 = some E ∧ PW G (va_A (wC G a T F U S D R M N P) sz) (wC G a T9 F U S D R M N9 P) t) (va_A (wC G a T F U S D R M N P) sz)) 3 18 (va_A (wC G a T F U S D R M N P) sz) := by
  rw [f_X11_layPair] at hm
  refine vx_ofW (cc := cX11_layPair) (maxL := 6) (ret := (some .int)) (by decide) rfl ?_
  intro p e s m args below meth c s₁ B hml hout0 hv
  obtain ⟨rfl, hsz, hP, hK, hD0, hE⟩ := hv
  have hx := B.exec
  have hb := B.bytes
  have hr := B.returns
  have hts := w0_tail B.pre
  have hown : s.vm.findClass RX11 = some m.cls := findClass_of_methodNamed B.named
  have hlocks := B.notSynchronized
  have hD := hD0.self (sz := sz)
  obtain ⟨A, hAe⟩ : ∃ A, (va_A (wC G a T F U S D R M N P) sz) = A := ⟨_, rfl⟩
  rw [hAe] at hD hE
  have hA : ∀ q : Nat, s.heap.size ≤ q → A q := fun q h => by rw [← hAe]; exact Or.inr (by rw [← hsz]; exact h)
  have hS : va_S A s.heap s.heap [] := va_S.rf
  obtain ⟨H, hHe⟩ : ∃ H : Heap, H = s.heap := ⟨_, rfl⟩
  have hP : va_P (DG G) clP3 (wC G a T F U S D R M N P) H := by rw [hHe]; exact hP
  have hS : va_S A s.heap H [] := by rw [hHe]; exact hS
  have hl := lv_entry ([.ref (a.1 0), .int p1, .int p2, .int p3]) (n := 6) (Nat.le_of_ble_eq_true rfl)
  rw [lg_entry_eq, ← hHe]
  generalize (lg_sl ([.ref (a.1 0), .int p1, .int p2, .int p3]) ++ List.replicate (6 - (lg_sl ([.ref (a.1 0), .int p1, .int p2, .int p3])).length) Slot.unset).toArray = ls at hl ⊢
  have hl : lv_has ls 6 [(0, .ref (a.1 0)), (1, .int p1), (2, .int p2), (3, .int p3)] := hl
  refine lv_aload_n hx hb dX11_layPair_0 rfl (lv_at hl 0 rfl) ?_
  refine lv_iload_n hx hb dX11_layPair_1 rfl (lv_at hl 2 rfl) ?_
  obtain ⟨q_1, hq_1, hm⟩ := bind_some hm
  have hFc := free_all hD hS hA
  refine vx_calli (vx_runV (As := [.int p2]) (rest := []) ⟨hx, hb, hml, hown, hts⟩ (k_X11_termAt l hfl G a T F U S D R M N P hlk p2  q_1.1 q_1.2 hq_1 H.size) (cwV 1 hts (gV wm319 wm321 ws_p0 wm1 wm322) rfl rfl rfl (by decide +kernel) ⟨Nat.le_of_ble_eq_true rfl, Nat.le_of_ble_eq_true rfl⟩) (pre_v (pre_w hK hP hD hS hE hFc) (va_recv hK hP (ci := 10) (q0 := 0) rfl rfl)) rfl rfl hl.1 rfl (lv_room (Nat.le_of_ble_eq_true rfl)) dX11_layPair_2 ⟨Nat.le_of_ble_eq_true rfl, Nat.le_of_ble_eq_true rfl⟩) hS (fun q _ h => hFc q h) hFc (fun q _ h => hFc q h) (fun E ce q9 u_2 t H locs ht hvm hpx hBX hz1 hk1 hS hce hv9 hcl => ?_) (fun r u_2 t H locs ht hvm hw hB hz1 hk1 hS => ?_)
  · have hne : ¬ q_1.1 = 0 := xnm_ne hBX.1
    rw [if_neg hne] at hm
    have hX9 := hBX.1
    have hB := hBX.2
    have hP : va_P (DG G) clP3 (wC G a T F U S D R M N P) H := by rw [← ht]; exact hB.1
    have hD : va_D A (wC G a T F U S D R M N P) := hB.2.weaken (fun _ p _ h => hFc p.1 h)
    simp only [Option.some.injEq, Prod.mk.injEq] at hm
    obtain ⟨rfl, rfl, rfl, rfl⟩ := hm
    subst hAe
    exact vx_out (fun x hx => (hout0 x hx).elim) hlocks hce hv9 hcl (fun t2 ht2 _ => ⟨(), trivial, ⟨hX9, by rw [ht2]; exact hP, hD⟩, hS.F ht2⟩) hS.2.2 (Nat.le_of_ble_eq_true rfl) (Nat.le_of_ble_eq_true rfl)
  · rw [if_pos hw.1] at hm
    rw [show r = q_1.2 from hw.2]
    have hP : va_P (DG G) clP3 (wC G a T F U S D R M N P) H := by rw [← ht]; exact hB.1
    have hD : va_D A (wC G a T F U S D R M N P) := hB.2.weaken (fun _ p _ h => hFc p.1 h)
    refine W.widen (k := 1) (n := 6) (Nat.le_of_ble_eq_true rfl) (Nat.le_of_ble_eq_true rfl) ?_
    refine lv_istore (lv' := [(4, .int q_1.2), (0, .ref (a.1 0)), (1, .int p1), (2, .int p2), (3, .int p3)]) hx hb dX11_layPair_5 hl (by decide) rfl (fun ls hl => ?_)
    refine lv_aload_n hx hb dX11_layPair_7 rfl (lv_at hl 1 rfl) ?_
    refine lv_iload_n hx hb dX11_layPair_8 rfl (lv_at hl 4 rfl) ?_
    obtain ⟨q_3, hq_3, hm⟩ := bind_some hm
    have hFc := free_all hD hS hA
    refine vx_calli (vx_runV (As := [.int p3]) (rest := []) ⟨hx, hb, hml, hown, hts⟩ (k_X11_termAt l hfl G a T F U S D R M N P hlk p3  q_3.1 q_3.2 hq_3 H.size) (cwV 1 hts (gV wm319 wm321 ws_p0 wm1 wm322) rfl rfl rfl (by decide +kernel) ⟨Nat.le_of_ble_eq_true rfl, Nat.le_of_ble_eq_true rfl⟩) (pre_v (pre_w hK hP hD hS hE hFc) (va_recv hK hP (ci := 10) (q0 := 0) rfl rfl)) rfl rfl hl.1 rfl (lv_room (Nat.le_of_ble_eq_true rfl)) dX11_layPair_9 ⟨Nat.le_of_ble_eq_true rfl, Nat.le_of_ble_eq_true rfl⟩) hS (fun q _ h => hFc q h) hFc (fun q _ h => hFc q h) (fun E ce q9 u_4 t H locs ht hvm hpx hBX hz1 hk1 hS hce hv9 hcl => ?_) (fun r u_4 t H locs ht hvm hw hB hz1 hk1 hS => ?_)
    · have hne : ¬ q_3.1 = 0 := xnm_ne hBX.1
      rw [if_neg hne] at hm
      have hX9 := hBX.1
      have hB := hBX.2
      have hP : va_P (DG G) clP3 (wC G a T F U S D R M N P) H := by rw [← ht]; exact hB.1
      have hD : va_D A (wC G a T F U S D R M N P) := hB.2.weaken (fun _ p _ h => hFc p.1 h)
      simp only [Option.some.injEq, Prod.mk.injEq] at hm
      obtain ⟨rfl, rfl, rfl, rfl⟩ := hm
      subst hAe
      exact vx_out (fun x hx => (hout0 x hx).elim) hlocks hce hv9 hcl (fun t2 ht2 _ => ⟨(), trivial, ⟨hX9, by rw [ht2]; exact hP, hD⟩, hS.F ht2⟩) hS.2.2 (Nat.le_of_ble_eq_true rfl) (Nat.le_of_ble_eq_true rfl)
    · rw [if_pos hw.1] at hm
      rw [show r = q_3.2 from hw.2]
      have hP : va_P (DG G) clP3 (wC G a T F U S D R M N P) H := by rw [← ht]; exact hB.1
      have hD : va_D A (wC G a T F U S D R M N P) := hB.2.weaken (fun _ p _ h => hFc p.1 h)
      refine W.widen (k := 2) (n := 12) (Nat.le_of_ble_eq_true rfl) (Nat.le_of_ble_eq_true rfl) ?_
      refine lv_istore (lv' := [(5, .int q_3.2), (4, .int q_1.2), (0, .ref (a.1 0)), (1, .int p1), (2, .int p2), (3, .int p3)]) hx hb dX11_layPair_12 hl (by decide) rfl (fun ls hl => ?_)
      refine lv_aload_n hx hb dX11_layPair_14 rfl (lv_at hl 2 rfl) ?_
      refine va_get (D := DG G) (ci := 10) (v := .int N.2.1) (C := RX11) (T := TX11) (N := 10) hx hb hts inW_X11 hown hK hP 0 rfl rfl 8 (by decide) (hts _ wm292) (fun _ h9 => h9) rfl dX11_layPair_15 ?_
      refine lv_aload_n hx hb dX11_layPair_18 rfl (lv_at hl 2 rfl) ?_
      refine va_get (D := DG G) (ci := 10) (v := .ref (a.1 36)) (C := RX11) (T := TX11) (N := 10) hx hb hts inW_X11 hown hK hP 0 rfl rfl 7 (by decide) (hts _ wm291) (fun _ h9 => h9) rfl dX11_layPair_19 ?_
      refine va_alen (v := 250) hx hb hK hP 36 0 rfl rfl (show Int32.ofNat 250 = 250 from by decide) dX11_layPair_22 ?_
      refine lv_icmp_ge (tgt := 52) hx hb dX11_layPair_23 (by decide) (fun c_5 => ?_) (fun c_5 => ?_)
      · rw [if_pos c_5] at hm
        simp only [Option.some.injEq, Prod.mk.injEq] at hm
        obtain ⟨rfl, rfl, rfl, rfl⟩ := hm
        subst hAe
        obtain ⟨sa, hsa⟩ := hE.2.1 _ stm7
        exact vx_throwSW (names := ["java/lang/RuntimeException", "java/lang/Exception"]) (A := _) (free := _) hx hb hfl hown (by decide +kernel) (by decide +kernel) (hts _ wm669) (hts _ wm14) hsa (xX11_113_hat hts hE) xX11_113_good (EV.un hE) (EV.su hE) hS (hl.1.trans hml.symm) dX11_layPair_52 dX11_layPair_55 dX11_layPair_56 dX11_layPair_59 dX11_layPair_62 (fun x hx => (hout0 x hx).elim) (Nat.le_of_ble_eq_true rfl) (Nat.le_of_ble_eq_true rfl) (Nat.le_of_ble_eq_true rfl) (Nat.le_of_ble_eq_true rfl) hlocks (fun t ha hz hk => ⟨(), trivial, ⟨rfl, va_Pgrow hP hk, hD⟩, xF hS hz hk⟩) hS.2.2 (Nat.le_of_ble_eq_true rfl) (Nat.le_of_ble_eq_true rfl)
      · rw [if_neg c_5] at hm
        refine lv_iconst (v := 1) hx hb dX11_layPair_26 (by decide) ?_
        refine lv_aload_n hx hb dX11_layPair_27 rfl (lv_at hl 2 rfl) ?_
        refine va_get (D := DG G) (ci := 10) (v := .ref (a.1 1)) (C := RX11) (T := TX11) (N := 10) hx hb hts inW_X11 hown hK hP 0 rfl rfl 0 (by decide) (hts _ wm284) (fun _ h9 => h9) rfl dX11_layPair_28 ?_
        refine lv_iload hx hb dX11_layPair_31 (lv_at hl 1 rfl) ?_
        obtain ⟨q_6, hq_6, hm⟩ := bind_some hm
        have hFc := free_all hD hS hA
        refine va_calli (va_runV (As := [.int q_1.2]) (rest := [.int 1]) ⟨hx, hb, hml, hown, hts⟩ (K_X9_sizeOf l hfl G a T F U S D R M N P q_1.2  q_6 hq_6 H.size) (cwV 1 hts (gV wm394 wm395 wm396 wm2 wm397) rfl rfl rfl (by decide +kernel) ⟨Nat.le_of_ble_eq_true rfl, Nat.le_of_ble_eq_true rfl⟩) (pre_v (pre_w hK hP hD hS hE hFc) (va_recv hK hP (ci := 8) (q0 := 1) rfl rfl)) rfl rfl hl.1 rfl (lv_room (Nat.le_of_ble_eq_true rfl)) dX11_layPair_33 ⟨Nat.le_of_ble_eq_true rfl, Nat.le_of_ble_eq_true rfl⟩) hS (fun q _ h => hFc q h) hFc (fun r u t H locs ht hvm hw hB hz1 hk1 hS => ?_)
        rw [show r = q_6 from hw]
        have hP : va_P (DG G) clP3 (wC G a T F U S D R M N P) H := by rw [← ht]; exact hB.1
        have hD : va_D A (wC G a T F U S D R M N P) := hB.2.weaken (fun _ p _ h => hFc p.1 h)
        clear hB hFc hw hk1
        refine W.widen (k := 2) (n := 12) (Nat.le_of_ble_eq_true rfl) (Nat.le_of_ble_eq_true rfl) ?_
        refine lv_iadd hx hb dX11_layPair_36 ?_
        refine lv_aload_n hx hb dX11_layPair_37 rfl (lv_at hl 2 rfl) ?_
        refine va_get (D := DG G) (ci := 10) (v := .ref (a.1 1)) (C := RX11) (T := TX11) (N := 10) hx hb hts inW_X11 hown hK hP 0 rfl rfl 0 (by decide) (hts _ wm284) (fun _ h9 => h9) rfl dX11_layPair_38 ?_
        refine lv_iload hx hb dX11_layPair_41 (lv_at hl 0 rfl) ?_
        obtain ⟨q_7, hq_7, hm⟩ := bind_some hm
        have hFc := free_all hD hS hA
        refine va_calli (va_runV (As := [.int q_3.2]) (rest := [.int ((1 : Int32) + q_6)]) ⟨hx, hb, hml, hown, hts⟩ (K_X9_sizeOf l hfl G a T F U S D R M N P q_3.2  q_7 hq_7 H.size) (cwV 1 hts (gV wm394 wm395 wm396 wm2 wm397) rfl rfl rfl (by decide +kernel) ⟨Nat.le_of_ble_eq_true rfl, Nat.le_of_ble_eq_true rfl⟩) (pre_v (pre_w hK hP hD hS hE hFc) (va_recv hK hP (ci := 8) (q0 := 1) rfl rfl)) rfl rfl hl.1 rfl (lv_room (Nat.le_of_ble_eq_true rfl)) dX11_layPair_43 ⟨Nat.le_of_ble_eq_true rfl, Nat.le_of_ble_eq_true rfl⟩) hS (fun q _ h => hFc q h) hFc (fun r u t H locs ht hvm hw hB hz1 hk1 hS => ?_)
        rw [show r = q_7 from hw]
        have hP : va_P (DG G) clP3 (wC G a T F U S D R M N P) H := by rw [← ht]; exact hB.1
        have hD : va_D A (wC G a T F U S D R M N P) := hB.2.weaken (fun _ p _ h => hFc p.1 h)
        clear hB hFc hw hk1
        refine W.widen (k := 2) (n := 12) (Nat.le_of_ble_eq_true rfl) (Nat.le_of_ble_eq_true rfl) ?_
        refine lv_iadd hx hb dX11_layPair_46 ?_
        refine lv_bipush (v := 30) hx hb dX11_layPair_47 (by decide) ?_
        refine lv_icmp_le (tgt := 63) hx hb dX11_layPair_49 (by decide) (fun c_8 => ?_) (fun c_8 => ?_)
        · rw [if_pos c_8] at hm
          refine lv_aload_n hx hb dX11_layPair_63 rfl (lv_at hl 2 rfl) ?_
          refine va_get (D := DG G) (ci := 10) (v := .ref (a.1 36)) (C := RX11) (T := TX11) (N := 10) hx hb hts inW_X11 hown hK hP 0 rfl rfl 7 (by decide) (hts _ wm291) (fun _ h9 => h9) rfl dX11_layPair_64 ?_
          refine lv_aload_n hx hb dX11_layPair_67 rfl (lv_at hl 2 rfl) ?_
          refine va_get (D := DG G) (ci := 10) (v := .int N.2.1) (C := RX11) (T := TX11) (N := 10) hx hb hts inW_X11 hown hK hP 0 rfl rfl 8 (by decide) (hts _ wm292) (fun _ h9 => h9) rfl dX11_layPair_68 ?_
          refine lv_aload_n hx hb dX11_layPair_71 rfl (lv_at hl 2 rfl) ?_
          refine va_get (D := DG G) (ci := 10) (v := .ref (a.1 1)) (C := RX11) (T := TX11) (N := 10) hx hb hts inW_X11 hown hK hP 0 rfl rfl 0 (by decide) (hts _ wm284) (fun _ h9 => h9) rfl dX11_layPair_72 ?_
          refine lv_iload_n hx hb dX11_layPair_75 rfl (lv_at hl 3 rfl) ?_
          refine lv_iload hx hb dX11_layPair_76 (lv_at hl 1 rfl) ?_
          refine lv_iload hx hb dX11_layPair_78 (lv_at hl 0 rfl) ?_
          obtain ⟨q_9, hq_9, hm⟩ := bind_some hm
          have hFc := free_all hD hS hA
          refine va_calli (va_runV (As := [.int p1, .int q_1.2, .int q_3.2]) (rest := [.int N.2.1, .ref (a.1 36)]) ⟨hx, hb, hml, hown, hts⟩ (K_X9_pair l hfl G a T F U S D R M N P p1 q_1.2 q_3.2  q_9.1 q_9.2 hq_9 H.size) (cwV 3 hts (gV wm729 wm464 wm465 wm2 wm466) rfl rfl rfl (by decide +kernel) ⟨Nat.le_of_ble_eq_true rfl, Nat.le_of_ble_eq_true rfl⟩) (pre_v (pre_w hK hP hD hS hE hFc) (va_recv hK hP (ci := 8) (q0 := 1) rfl rfl)) rfl rfl hl.1 rfl (lv_room (Nat.le_of_ble_eq_true rfl)) dX11_layPair_80 ⟨Nat.le_of_ble_eq_true rfl, Nat.le_of_ble_eq_true rfl⟩) hS (fun q _ h => hFc q h) hFc (fun r u t H locs ht hvm hw hB hz1 hk1 hS => ?_)
          rw [show r = q_9.1 from hw]
          have hP : va_P (DG G) clP3 (wC G a q_9.2 F U S D R M N P) H := by rw [← ht]; exact hB.1
          have hD : va_D A (wC G a q_9.2 F U S D R M N P) := hB.2.weaken (fun _ p _ h => hFc p.1 h)
          clear hB hFc hw hk1
          refine W.widen (k := 2) (n := 12) (Nat.le_of_ble_eq_true rfl) (Nat.le_of_ble_eq_true rfl) ?_
          obtain ⟨b_10, hm⟩ := ite_some hm
          refine va_iast hx hb hK hP hD hS 36 0 rfl rfl (inb_vp b_10) dX11_layPair_83 (fun H locs hP hD hS => ?_)
          have hP : va_P (DG G) clP3 (wC G a q_9.2 F U S D R M ((upd N.1 (Int32.toNatClampNeg N.2.1) q_9.1), N.2.1, N.2.2) P) H := hP
          have hD : va_D A (wC G a q_9.2 F U S D R M ((upd N.1 (Int32.toNatClampNeg N.2.1) q_9.1), N.2.1, N.2.2) P) := hD
          refine lv_aload_n hx hb dX11_layPair_84 rfl (lv_at hl 2 rfl) ?_
          refine lv_dup hx hb dX11_layPair_85 rfl ?_
          refine va_get (D := DG G) (ci := 10) (v := .int N.2.1) (C := RX11) (T := TX11) (N := 10) hx hb hts inW_X11 hown hK hP 0 rfl rfl 8 (by decide) (hts _ wm292) (fun _ h9 => h9) rfl dX11_layPair_86 ?_
          refine lv_iconst (v := 1) hx hb dX11_layPair_89 (by decide) ?_
          refine lv_iadd hx hb dX11_layPair_90 ?_
          refine va_put (D := DG G) (ci := 10) (v := .int (N.2.1 + (1 : Int32))) (ty := tyX11 8) (C := RX11) (T := TX11) (N := 10) hx hb hts inW_X11 tyX11 tyX11_ok nmX11 hown hK hP hD hS 0 rfl rfl 8 (by decide) (hts _ wm292) (fun _ h9 => h9) rfl (by decide +kernel) rfl rfl (Nat.le_of_ble_eq_true rfl) dX11_layPair_91 (fun H locs hP hD hS => ?_)
          have hP : va_P (DG G) clP3 (wC G a q_9.2 F U S D R M ((upd N.1 (Int32.toNatClampNeg N.2.1) q_9.1), (N.2.1 + (1 : Int32)), N.2.2) P) H := hP
          have hD : va_D A (wC G a q_9.2 F U S D R M ((upd N.1 (Int32.toNatClampNeg N.2.1) q_9.1), (N.2.1 + (1 : Int32)), N.2.2) P) := hD
          refine lv_aload_n hx hb dX11_layPair_94 rfl (lv_at hl 2 rfl) ?_
          refine va_get (D := DG G) (ci := 10) (v := .int (N.2.1 + (1 : Int32))) (C := RX11) (T := TX11) (N := 10) hx hb hts inW_X11 hown hK hP 0 rfl rfl 8 (by decide) (hts _ wm292) (fun _ h9 => h9) rfl dX11_layPair_95 ?_
          refine lv_iconst (v := 1) hx hb dX11_layPair_98 (by decide) ?_
          refine lv_isub hx hb dX11_layPair_99 ?_
          simp only [Option.some.injEq, Prod.mk.injEq] at hm
          obtain ⟨rfl, rfl, rfl, rfl⟩ := hm
          subst hAe
          refine W.widen (k := 3) (n := 18) (Nat.le_of_ble_eq_true rfl) (Nat.le_of_ble_eq_true rfl) ?_
          exact vx_ret (W.iret (v := ((N.2.1 + (1 : Int32)) - (1 : Int32))) hx hb hr (fun t ht hW => ⟨⟨((N.2.1 + (1 : Int32)) - (1 : Int32)), (), rfl, ⟨rfl, rfl⟩, ⟨by rw [ht]; exact hP, hD⟩⟩, hS.F ht⟩) hS.2.2 dX11_layPair_100 hlocks)
        · rw [if_neg c_8] at hm
          simp only [Option.some.injEq, Prod.mk.injEq] at hm
          obtain ⟨rfl, rfl, rfl, rfl⟩ := hm
          subst hAe
          obtain ⟨sa, hsa⟩ := hE.2.1 _ stm7
          exact vx_throwSW (names := ["java/lang/RuntimeException", "java/lang/Exception"]) (A := _) (free := _) hx hb hfl hown (by decide +kernel) (by decide +kernel) (hts _ wm669) (hts _ wm14) hsa (xX11_113_hat hts hE) xX11_113_good (EV.un hE) (EV.su hE) hS (hl.1.trans hml.symm) dX11_layPair_52 dX11_layPair_55 dX11_layPair_56 dX11_layPair_59 dX11_layPair_62 (fun x hx => (hout0 x hx).elim) (Nat.le_of_ble_eq_true rfl) (Nat.le_of_ble_eq_true rfl) (Nat.le_of_ble_eq_true rfl) (Nat.le_of_ble_eq_true rfl) hlocks (fun t ha hz hk => ⟨(), trivial, ⟨rfl, va_Pgrow hP hk, hD⟩, xF hS hz hk⟩) hS.2.2 (Nat.le_of_ble_eq_true rfl) (Nat.le_of_ble_eq_true rfl)
def f_X11_universe (T : TS) (N : NS) (p1 : Int32) : Option (Int32 × Int32 × TS × NS) := (if p1 < 0 then some (1, 0, T, N) else (if p1 ≤ 3 then (Option.bind (f_X11_layLeaf T N 0 p1) (fun q_3 => (if q_3.1 = 0 then some (0, q_3.2.1, q_3.2.2.1, q_3.2.2.2) else some (q_3.1, 0, q_3.2.2.1, q_3.2.2.2)))) else some (1, 0, T, N)))
set_option maxHeartbeats 2000000 in
set_option maxRecDepth 100000 in
theorem k_X11_universe (l : Launch) (hfl : l.stackTraces = false) (G : GC) (a : AS) (T : TS) (F : FS) (U : US) (S : SS) (D : DS) (R : RS) (M : MS) (N : NS) (P : PS) (hlk : lkA a D.1.toNatClampNeg D.2.1.toNatClampNeg) (p1 : Int32) (k9 : Int32) (r9 : Int32) (T9 : TS) (N9 : NS) (hm : f_X11_universe T N p1 = some (k9, r9, T9, N9)) (sz : Nat) : vx_Met l yX11_universe (Cond.code yX11_universe cX11_universe 2 (some .int) :: W0) ({ frames := 7, cells := 1, slots := 6, locals := 104 }) (va_Pc [.ref (a.1 0), .int p1] (WD G (wC G a T F U S D R M N P) sz)) (va_Qi (S := Unit) (fun r _ => k9 = 0 ∧ r = r9) (fun _ t => PW G (va_A (wC G a T F U S D R M N P) sz) (wC G a T9 F U S D R M N9 P) t) (va_A (wC G a T F U S D R M N P) sz)) (vx_X (fun _ : Unit => True) (fun (E : String) (_ : Unit) (t : State) => xnm k9 = some E ∧ PW G (va_A (wC G a T F U S D R M N P) sz) (wC G a T9 F U S D R M N9 P) t) (va_A (wC G a T F U S D R M N P) sz)) 1 6 (va_A (wC G a T F U S D R M N P) sz) := by
  rw [f_X11_universe] at hm
  refine vx_ofW (cc := cX11_universe) (maxL := 2) (ret := (some .int)) (by decide) rfl ?_
  intro p e s m args below meth c s₁ B hml hout0 hv
  obtain ⟨rfl, hsz, hP, hK, hD0, hE⟩ := hv
  have hx := B.exec
  have hb := B.bytes
  have hr := B.returns
  have hts := w0_tail B.pre
  have hown : s.vm.findClass RX11 = some m.cls := findClass_of_methodNamed B.named
  have hlocks := B.notSynchronized
  have hD := hD0.self (sz := sz)
  obtain ⟨A, hAe⟩ : ∃ A, (va_A (wC G a T F U S D R M N P) sz) = A := ⟨_, rfl⟩
  rw [hAe] at hD hE
  have hA : ∀ q : Nat, s.heap.size ≤ q → A q := fun q h => by rw [← hAe]; exact Or.inr (by rw [← hsz]; exact h)
  have hS : va_S A s.heap s.heap [] := va_S.rf
  obtain ⟨H, hHe⟩ : ∃ H : Heap, H = s.heap := ⟨_, rfl⟩
  have hP : va_P (DG G) clP3 (wC G a T F U S D R M N P) H := by rw [hHe]; exact hP
  have hS : va_S A s.heap H [] := by rw [hHe]; exact hS
  have hl := lv_entry ([.ref (a.1 0), .int p1]) (n := 2) (Nat.le_of_ble_eq_true rfl)
  rw [lg_entry_eq, ← hHe]
  generalize (lg_sl ([.ref (a.1 0), .int p1]) ++ List.replicate (2 - (lg_sl ([.ref (a.1 0), .int p1])).length) Slot.unset).toArray = ls at hl ⊢
  have hl : lv_has ls 2 [(0, .ref (a.1 0)), (1, .int p1)] := hl
  refine lv_iload_n hx hb dX11_universe_0 rfl (lv_at hl 1 rfl) ?_
  refine lv_if_lt (tgt := 9) hx hb dX11_universe_1 (by decide) (fun c_1 => ?_) (fun c_1 => ?_)
  · rw [if_pos c_1] at hm
    simp only [Option.some.injEq, Prod.mk.injEq] at hm
    obtain ⟨rfl, rfl, rfl, rfl⟩ := hm
    subst hAe
    obtain ⟨sa, hsa⟩ := hE.2.1 _ stm8
    exact vx_throwS (names := ["java/lang/RuntimeException", "java/lang/Exception"]) (A := _) (free := _) hx hb hfl hown (by decide +kernel) (by decide +kernel) (hts _ wm649) (hts _ wm15) hsa (xX11_74_hat hts hE) xX11_74_good (EV.un hE) (EV.su hE) hS (hl.1.trans hml.symm) dX11_universe_9 dX11_universe_12 dX11_universe_13 dX11_universe_15 dX11_universe_18 (fun x hx => (hout0 x hx).elim) (Nat.le_of_ble_eq_true rfl) (Nat.le_of_ble_eq_true rfl) (Nat.le_of_ble_eq_true rfl) (Nat.le_of_ble_eq_true rfl) hlocks (fun t ha hz hk => ⟨(), trivial, ⟨rfl, va_Pgrow hP hk, hD⟩, xF hS hz hk⟩) hS.2.2 (Nat.le_of_ble_eq_true rfl) (Nat.le_of_ble_eq_true rfl)
  · rw [if_neg c_1] at hm
    refine lv_iload_n hx hb dX11_universe_4 rfl (lv_at hl 1 rfl) ?_
    refine lv_iconst (v := 3) hx hb dX11_universe_5 (by decide) ?_
    refine lv_icmp_le (tgt := 19) hx hb dX11_universe_6 (by decide) (fun c_2 => ?_) (fun c_2 => ?_)
    · rw [if_pos c_2] at hm
      refine lv_aload_n hx hb dX11_universe_19 rfl (lv_at hl 0 rfl) ?_
      refine lv_iconst (v := 0) hx hb dX11_universe_20 (by decide) ?_
      refine lv_iload_n hx hb dX11_universe_21 rfl (lv_at hl 1 rfl) ?_
      obtain ⟨q_3, hq_3, hm⟩ := bind_some hm
      have hFc := free_all hD hS hA
      refine vx_calli (vx_runV (As := [.int 0, .int p1]) (rest := []) ⟨hx, hb, hml, hown, hts⟩ (k_X11_layLeaf l hfl G a T F U S D R M N P hlk 0 p1  q_3.1 q_3.2.1 q_3.2.2.1 q_3.2.2.2 hq_3 H.size) (cwV 2 hts (gV wm665 wm667 ws_p9 wm1 wm668) rfl rfl rfl (by decide +kernel) ⟨Nat.le_of_ble_eq_true rfl, Nat.le_of_ble_eq_true rfl⟩) (pre_v (pre_w hK hP hD hS hE hFc) (va_recv hK hP (ci := 10) (q0 := 0) rfl rfl)) rfl rfl hl.1 rfl (lv_room (Nat.le_of_ble_eq_true rfl)) dX11_universe_22 ⟨Nat.le_of_ble_eq_true rfl, Nat.le_of_ble_eq_true rfl⟩) hS (fun q _ h => hFc q h) hFc (fun q _ h => hFc q h) (fun E ce q9 u_4 t H locs ht hvm hpx hBX hz1 hk1 hS hce hv9 hcl => ?_) (fun r u_4 t H locs ht hvm hw hB hz1 hk1 hS => ?_)
      · have hne : ¬ q_3.1 = 0 := xnm_ne hBX.1
        rw [if_neg hne] at hm
        have hX9 := hBX.1
        have hB := hBX.2
        have hP : va_P (DG G) clP3 (wC G a q_3.2.2.1 F U S D R M q_3.2.2.2 P) H := by rw [← ht]; exact hB.1
        have hD : va_D A (wC G a q_3.2.2.1 F U S D R M q_3.2.2.2 P) := hB.2.weaken (fun _ p _ h => hFc p.1 h)
        simp only [Option.some.injEq, Prod.mk.injEq] at hm
        obtain ⟨rfl, rfl, rfl, rfl⟩ := hm
        subst hAe
        exact vx_out (fun x hx => (hout0 x hx).elim) hlocks hce hv9 hcl (fun t2 ht2 _ => ⟨(), trivial, ⟨hX9, by rw [ht2]; exact hP, hD⟩, hS.F ht2⟩) hS.2.2 (Nat.le_of_ble_eq_true rfl) (Nat.le_of_ble_eq_true rfl)
      · rw [if_pos hw.1] at hm
        rw [show r = q_3.2.1 from hw.2]
        have hP : va_P (DG G) clP3 (wC G a q_3.2.2.1 F U S D R M q_3.2.2.2 P) H := by rw [← ht]; exact hB.1
        have hD : va_D A (wC G a q_3.2.2.1 F U S D R M q_3.2.2.2 P) := hB.2.weaken (fun _ p _ h => hFc p.1 h)
        refine W.widen (k := 1) (n := 6) (Nat.le_of_ble_eq_true rfl) (Nat.le_of_ble_eq_true rfl) ?_
        simp only [Option.some.injEq, Prod.mk.injEq] at hm
        obtain ⟨rfl, rfl, rfl, rfl⟩ := hm
        subst hAe
        refine W.widen (k := 1) (n := 6) (Nat.le_of_ble_eq_true rfl) (Nat.le_of_ble_eq_true rfl) ?_
        exact vx_ret (W.iret (v := q_3.2.1) hx hb hr (fun t ht hW => ⟨⟨q_3.2.1, (), rfl, ⟨rfl, rfl⟩, ⟨by rw [ht]; exact hP, hD⟩⟩, hS.F ht⟩) hS.2.2 dX11_universe_25 hlocks)
    · rw [if_neg c_2] at hm
      simp only [Option.some.injEq, Prod.mk.injEq] at hm
      obtain ⟨rfl, rfl, rfl, rfl⟩ := hm
      subst hAe
      obtain ⟨sa, hsa⟩ := hE.2.1 _ stm8
      exact vx_throwS (names := ["java/lang/RuntimeException", "java/lang/Exception"]) (A := _) (free := _) hx hb hfl hown (by decide +kernel) (by decide +kernel) (hts _ wm649) (hts _ wm15) hsa (xX11_74_hat hts hE) xX11_74_good (EV.un hE) (EV.su hE) hS (hl.1.trans hml.symm) dX11_universe_9 dX11_universe_12 dX11_universe_13 dX11_universe_15 dX11_universe_18 (fun x hx => (hout0 x hx).elim) (Nat.le_of_ble_eq_true rfl) (Nat.le_of_ble_eq_true rfl) (Nat.le_of_ble_eq_true rfl) (Nat.le_of_ble_eq_true rfl) hlocks (fun t ha hz hk => ⟨(), trivial, ⟨rfl, va_Pgrow hP hk, hD⟩, xF hS hz hk⟩) hS.2.2 (Nat.le_of_ble_eq_true rfl) (Nat.le_of_ble_eq_true rfl)
def f_X11_variable (T : TS) (N : NS) (p1 : Int32) : Option (Int32 × Int32 × TS × NS) := (if p1 < 0 then some (1, 0, T, N) else (if p1 ≤ 15 then (Option.bind (f_X11_layLeaf T N 1 p1) (fun q_3 => (if q_3.1 = 0 then some (0, q_3.2.1, q_3.2.2.1, q_3.2.2.2) else some (q_3.1, 0, q_3.2.2.1, q_3.2.2.2)))) else some (1, 0, T, N)))
set_option maxHeartbeats 2000000 in
set_option maxRecDepth 100000 in
theorem k_X11_variable (l : Launch) (hfl : l.stackTraces = false) (G : GC) (a : AS) (T : TS) (F : FS) (U : US) (S : SS) (D : DS) (R : RS) (M : MS) (N : NS) (P : PS) (hlk : lkA a D.1.toNatClampNeg D.2.1.toNatClampNeg) (p1 : Int32) (k9 : Int32) (r9 : Int32) (T9 : TS) (N9 : NS) (hm : f_X11_variable T N p1 = some (k9, r9, T9, N9)) (sz : Nat) : vx_Met l yX11_variable (Cond.code yX11_variable cX11_variable 2 (some .int) :: W0) ({ frames := 7, cells := 1, slots := 6, locals := 104 }) (va_Pc [.ref (a.1 0), .int p1] (WD G (wC G a T F U S D R M N P) sz)) (va_Qi (S := Unit) (fun r _ => k9 = 0 ∧ r = r9) (fun _ t => PW G (va_A (wC G a T F U S D R M N P) sz) (wC G a T9 F U S D R M N9 P) t) (va_A (wC G a T F U S D R M N P) sz)) (vx_X (fun _ : Unit => True) (fun (E : String) (_ : Unit) (t : State) => xnm k9 = some E ∧ PW G (va_A (wC G a T F U S D R M N P) sz) (wC G a T9 F U S D R M N9 P) t) (va_A (wC G a T F U S D R M N P) sz)) 1 6 (va_A (wC G a T F U S D R M N P) sz) := by
  rw [f_X11_variable] at hm
  refine vx_ofW (cc := cX11_variable) (maxL := 2) (ret := (some .int)) (by decide) rfl ?_
  intro p e s m args below meth c s₁ B hml hout0 hv
  obtain ⟨rfl, hsz, hP, hK, hD0, hE⟩ := hv
  have hx := B.exec
  have hb := B.bytes
  have hr := B.returns
  have hts := w0_tail B.pre
  have hown : s.vm.findClass RX11 = some m.cls := findClass_of_methodNamed B.named
  have hlocks := B.notSynchronized
  have hD := hD0.self (sz := sz)
  obtain ⟨A, hAe⟩ : ∃ A, (va_A (wC G a T F U S D R M N P) sz) = A := ⟨_, rfl⟩
  rw [hAe] at hD hE
  have hA : ∀ q : Nat, s.heap.size ≤ q → A q := fun q h => by rw [← hAe]; exact Or.inr (by rw [← hsz]; exact h)
  have hS : va_S A s.heap s.heap [] := va_S.rf
  obtain ⟨H, hHe⟩ : ∃ H : Heap, H = s.heap := ⟨_, rfl⟩
  have hP : va_P (DG G) clP3 (wC G a T F U S D R M N P) H := by rw [hHe]; exact hP
  have hS : va_S A s.heap H [] := by rw [hHe]; exact hS
  have hl := lv_entry ([.ref (a.1 0), .int p1]) (n := 2) (Nat.le_of_ble_eq_true rfl)
  rw [lg_entry_eq, ← hHe]
  generalize (lg_sl ([.ref (a.1 0), .int p1]) ++ List.replicate (2 - (lg_sl ([.ref (a.1 0), .int p1])).length) Slot.unset).toArray = ls at hl ⊢
  have hl : lv_has ls 2 [(0, .ref (a.1 0)), (1, .int p1)] := hl
  refine lv_iload_n hx hb dX11_variable_0 rfl (lv_at hl 1 rfl) ?_
  refine lv_if_lt (tgt := 10) hx hb dX11_variable_1 (by decide) (fun c_1 => ?_) (fun c_1 => ?_)
  · rw [if_pos c_1] at hm
    simp only [Option.some.injEq, Prod.mk.injEq] at hm
    obtain ⟨rfl, rfl, rfl, rfl⟩ := hm
    subst hAe
    obtain ⟨sa, hsa⟩ := hE.2.1 _ stm9
    exact vx_throwS (names := ["java/lang/RuntimeException", "java/lang/Exception"]) (A := _) (free := _) hx hb hfl hown (by decide +kernel) (by decide +kernel) (hts _ wm649) (hts _ wm15) hsa (xX11_74_hat hts hE) xX11_74_good (EV.un hE) (EV.su hE) hS (hl.1.trans hml.symm) dX11_variable_10 dX11_variable_13 dX11_variable_14 dX11_variable_16 dX11_variable_19 (fun x hx => (hout0 x hx).elim) (Nat.le_of_ble_eq_true rfl) (Nat.le_of_ble_eq_true rfl) (Nat.le_of_ble_eq_true rfl) (Nat.le_of_ble_eq_true rfl) hlocks (fun t ha hz hk => ⟨(), trivial, ⟨rfl, va_Pgrow hP hk, hD⟩, xF hS hz hk⟩) hS.2.2 (Nat.le_of_ble_eq_true rfl) (Nat.le_of_ble_eq_true rfl)
  · rw [if_neg c_1] at hm
    refine lv_iload_n hx hb dX11_variable_4 rfl (lv_at hl 1 rfl) ?_
    refine lv_bipush (v := 15) hx hb dX11_variable_5 (by decide) ?_
    refine lv_icmp_le (tgt := 20) hx hb dX11_variable_7 (by decide) (fun c_2 => ?_) (fun c_2 => ?_)
    · rw [if_pos c_2] at hm
      refine lv_aload_n hx hb dX11_variable_20 rfl (lv_at hl 0 rfl) ?_
      refine lv_iconst (v := 1) hx hb dX11_variable_21 (by decide) ?_
      refine lv_iload_n hx hb dX11_variable_22 rfl (lv_at hl 1 rfl) ?_
      obtain ⟨q_3, hq_3, hm⟩ := bind_some hm
      have hFc := free_all hD hS hA
      refine vx_calli (vx_runV (As := [.int 1, .int p1]) (rest := []) ⟨hx, hb, hml, hown, hts⟩ (k_X11_layLeaf l hfl G a T F U S D R M N P hlk 1 p1  q_3.1 q_3.2.1 q_3.2.2.1 q_3.2.2.2 hq_3 H.size) (cwV 2 hts (gV wm665 wm667 ws_p9 wm1 wm668) rfl rfl rfl (by decide +kernel) ⟨Nat.le_of_ble_eq_true rfl, Nat.le_of_ble_eq_true rfl⟩) (pre_v (pre_w hK hP hD hS hE hFc) (va_recv hK hP (ci := 10) (q0 := 0) rfl rfl)) rfl rfl hl.1 rfl (lv_room (Nat.le_of_ble_eq_true rfl)) dX11_variable_23 ⟨Nat.le_of_ble_eq_true rfl, Nat.le_of_ble_eq_true rfl⟩) hS (fun q _ h => hFc q h) hFc (fun q _ h => hFc q h) (fun E ce q9 u_4 t H locs ht hvm hpx hBX hz1 hk1 hS hce hv9 hcl => ?_) (fun r u_4 t H locs ht hvm hw hB hz1 hk1 hS => ?_)
      · have hne : ¬ q_3.1 = 0 := xnm_ne hBX.1
        rw [if_neg hne] at hm
        have hX9 := hBX.1
        have hB := hBX.2
        have hP : va_P (DG G) clP3 (wC G a q_3.2.2.1 F U S D R M q_3.2.2.2 P) H := by rw [← ht]; exact hB.1
        have hD : va_D A (wC G a q_3.2.2.1 F U S D R M q_3.2.2.2 P) := hB.2.weaken (fun _ p _ h => hFc p.1 h)
        simp only [Option.some.injEq, Prod.mk.injEq] at hm
        obtain ⟨rfl, rfl, rfl, rfl⟩ := hm
        subst hAe
        exact vx_out (fun x hx => (hout0 x hx).elim) hlocks hce hv9 hcl (fun t2 ht2 _ => ⟨(), trivial, ⟨hX9, by rw [ht2]; exact hP, hD⟩, hS.F ht2⟩) hS.2.2 (Nat.le_of_ble_eq_true rfl) (Nat.le_of_ble_eq_true rfl)
      · rw [if_pos hw.1] at hm
        rw [show r = q_3.2.1 from hw.2]
        have hP : va_P (DG G) clP3 (wC G a q_3.2.2.1 F U S D R M q_3.2.2.2 P) H := by rw [← ht]; exact hB.1
        have hD : va_D A (wC G a q_3.2.2.1 F U S D R M q_3.2.2.2 P) := hB.2.weaken (fun _ p _ h => hFc p.1 h)
        refine W.widen (k := 1) (n := 6) (Nat.le_of_ble_eq_true rfl) (Nat.le_of_ble_eq_true rfl) ?_
        simp only [Option.some.injEq, Prod.mk.injEq] at hm
        obtain ⟨rfl, rfl, rfl, rfl⟩ := hm
        subst hAe
        refine W.widen (k := 1) (n := 6) (Nat.le_of_ble_eq_true rfl) (Nat.le_of_ble_eq_true rfl) ?_
        exact vx_ret (W.iret (v := q_3.2.1) hx hb hr (fun t ht hW => ⟨⟨q_3.2.1, (), rfl, ⟨rfl, rfl⟩, ⟨by rw [ht]; exact hP, hD⟩⟩, hS.F ht⟩) hS.2.2 dX11_variable_26 hlocks)
    · rw [if_neg c_2] at hm
      simp only [Option.some.injEq, Prod.mk.injEq] at hm
      obtain ⟨rfl, rfl, rfl, rfl⟩ := hm
      subst hAe
      obtain ⟨sa, hsa⟩ := hE.2.1 _ stm9
      exact vx_throwS (names := ["java/lang/RuntimeException", "java/lang/Exception"]) (A := _) (free := _) hx hb hfl hown (by decide +kernel) (by decide +kernel) (hts _ wm649) (hts _ wm15) hsa (xX11_74_hat hts hE) xX11_74_good (EV.un hE) (EV.su hE) hS (hl.1.trans hml.symm) dX11_variable_10 dX11_variable_13 dX11_variable_14 dX11_variable_16 dX11_variable_19 (fun x hx => (hout0 x hx).elim) (Nat.le_of_ble_eq_true rfl) (Nat.le_of_ble_eq_true rfl) (Nat.le_of_ble_eq_true rfl) (Nat.le_of_ble_eq_true rfl) hlocks (fun t ha hz hk => ⟨(), trivial, ⟨rfl, va_Pgrow hP hk, hD⟩, xF hS hz hk⟩) hS.2.2 (Nat.le_of_ble_eq_true rfl) (Nat.le_of_ble_eq_true rfl)
def f_X11_functions (T : TS) (N : NS) (p1 : Int32) (p2 : Int32) : Option (Int32 × Int32 × TS × NS) := (Option.bind (f_X11_layPair T N 5 p1 p2) (fun q_1 => (if q_1.1 = 0 then some (0, q_1.2.1, q_1.2.2.1, q_1.2.2.2) else some (q_1.1, 0, q_1.2.2.1, q_1.2.2.2))))
set_option maxHeartbeats 2000000 in
set_option maxRecDepth 100000 in
theorem k_X11_functions (l : Launch) (hfl : l.stackTraces = false) (G : GC) (a : AS) (T : TS) (F : FS) (U : US) (S : SS) (D : DS) (R : RS) (M : MS) (N : NS) (P : PS) (hlk : lkA a D.1.toNatClampNeg D.2.1.toNatClampNeg) (p1 : Int32) (p2 : Int32) (k9 : Int32) (r9 : Int32) (T9 : TS) (N9 : NS) (hm : f_X11_functions T N p1 p2 = some (k9, r9, T9, N9)) (sz : Nat) : vx_Met l yX11_functions (Cond.code yX11_functions cX11_functions 3 (some .int) :: W0) ({ frames := 8, cells := 3, slots := 18, locals := 128 }) (va_Pc [.ref (a.1 0), .int p1, .int p2] (WD G (wC G a T F U S D R M N P) sz)) (va_Qi (S := Unit) (fun r _ => k9 = 0 ∧ r = r9) (fun _ t => PW G (va_A (wC G a T F U S D R M N P) sz) (wC G a T9 F U S D R M N9 P) t) (va_A (wC G a T F U S D R M N P) sz)) (vx_X (fun _ : Unit => True) (fun (E : String) (_ : Unit) (t : State) => xnm k9 = some E ∧ PW G (va_A (wC G a T F U S D R M N P) sz) (wC G a T9 F U S D R M N9 P) t) (va_A (wC G a T F U S D R M N P) sz)) 3 18 (va_A (wC G a T F U S D R M N P) sz) := by
  rw [f_X11_functions] at hm
  refine vx_ofW (cc := cX11_functions) (maxL := 3) (ret := (some .int)) (by decide) rfl ?_
  intro p e s m args below meth c s₁ B hml hout0 hv
  obtain ⟨rfl, hsz, hP, hK, hD0, hE⟩ := hv
  have hx := B.exec
  have hb := B.bytes
  have hr := B.returns
  have hts := w0_tail B.pre
  have hown : s.vm.findClass RX11 = some m.cls := findClass_of_methodNamed B.named
  have hlocks := B.notSynchronized
  have hD := hD0.self (sz := sz)
  obtain ⟨A, hAe⟩ : ∃ A, (va_A (wC G a T F U S D R M N P) sz) = A := ⟨_, rfl⟩
  rw [hAe] at hD hE
  have hA : ∀ q : Nat, s.heap.size ≤ q → A q := fun q h => by rw [← hAe]; exact Or.inr (by rw [← hsz]; exact h)
  have hS : va_S A s.heap s.heap [] := va_S.rf
  obtain ⟨H, hHe⟩ : ∃ H : Heap, H = s.heap := ⟨_, rfl⟩
  have hP : va_P (DG G) clP3 (wC G a T F U S D R M N P) H := by rw [hHe]; exact hP
  have hS : va_S A s.heap H [] := by rw [hHe]; exact hS
  have hl := lv_entry ([.ref (a.1 0), .int p1, .int p2]) (n := 3) (Nat.le_of_ble_eq_true rfl)
  rw [lg_entry_eq, ← hHe]
  generalize (lg_sl ([.ref (a.1 0), .int p1, .int p2]) ++ List.replicate (3 - (lg_sl ([.ref (a.1 0), .int p1, .int p2])).length) Slot.unset).toArray = ls at hl ⊢
  have hl : lv_has ls 3 [(0, .ref (a.1 0)), (1, .int p1), (2, .int p2)] := hl
  refine lv_aload_n hx hb dX11_functions_0 rfl (lv_at hl 0 rfl) ?_
  refine lv_iconst (v := 5) hx hb dX11_functions_1 (by decide) ?_
  refine lv_iload_n hx hb dX11_functions_2 rfl (lv_at hl 1 rfl) ?_
  refine lv_iload_n hx hb dX11_functions_3 rfl (lv_at hl 2 rfl) ?_
  obtain ⟨q_1, hq_1, hm⟩ := bind_some hm
  have hFc := free_all hD hS hA
  refine vx_calli (vx_runV (As := [.int 5, .int p1, .int p2]) (rest := []) ⟨hx, hb, hml, hown, hts⟩ (k_X11_layPair l hfl G a T F U S D R M N P hlk 5 p1 p2  q_1.1 q_1.2.1 q_1.2.2.1 q_1.2.2.2 hq_1 H.size) (cwV 3 hts (gV wm724 wm726 ws_p10 wm1 wm727) rfl rfl rfl (by decide +kernel) ⟨Nat.le_of_ble_eq_true rfl, Nat.le_of_ble_eq_true rfl⟩) (pre_v (pre_w hK hP hD hS hE hFc) (va_recv hK hP (ci := 10) (q0 := 0) rfl rfl)) rfl rfl hl.1 rfl (lv_room (Nat.le_of_ble_eq_true rfl)) dX11_functions_4 ⟨Nat.le_of_ble_eq_true rfl, Nat.le_of_ble_eq_true rfl⟩) hS (fun q _ h => hFc q h) hFc (fun q _ h => hFc q h) (fun E ce q9 u_2 t H locs ht hvm hpx hBX hz1 hk1 hS hce hv9 hcl => ?_) (fun r u_2 t H locs ht hvm hw hB hz1 hk1 hS => ?_)
  · have hne : ¬ q_1.1 = 0 := xnm_ne hBX.1
    rw [if_neg hne] at hm
    have hX9 := hBX.1
    have hB := hBX.2
    have hP : va_P (DG G) clP3 (wC G a q_1.2.2.1 F U S D R M q_1.2.2.2 P) H := by rw [← ht]; exact hB.1
    have hD : va_D A (wC G a q_1.2.2.1 F U S D R M q_1.2.2.2 P) := hB.2.weaken (fun _ p _ h => hFc p.1 h)
    simp only [Option.some.injEq, Prod.mk.injEq] at hm
    obtain ⟨rfl, rfl, rfl, rfl⟩ := hm
    subst hAe
    exact vx_out (fun x hx => (hout0 x hx).elim) hlocks hce hv9 hcl (fun t2 ht2 _ => ⟨(), trivial, ⟨hX9, by rw [ht2]; exact hP, hD⟩, hS.F ht2⟩) hS.2.2 (Nat.le_of_ble_eq_true rfl) (Nat.le_of_ble_eq_true rfl)
  · rw [if_pos hw.1] at hm
    rw [show r = q_1.2.1 from hw.2]
    have hP : va_P (DG G) clP3 (wC G a q_1.2.2.1 F U S D R M q_1.2.2.2 P) H := by rw [← ht]; exact hB.1
    have hD : va_D A (wC G a q_1.2.2.1 F U S D R M q_1.2.2.2 P) := hB.2.weaken (fun _ p _ h => hFc p.1 h)
    refine W.widen (k := 3) (n := 18) (Nat.le_of_ble_eq_true rfl) (Nat.le_of_ble_eq_true rfl) ?_
    simp only [Option.some.injEq, Prod.mk.injEq] at hm
    obtain ⟨rfl, rfl, rfl, rfl⟩ := hm
    subst hAe
    refine W.widen (k := 3) (n := 18) (Nat.le_of_ble_eq_true rfl) (Nat.le_of_ble_eq_true rfl) ?_
    exact vx_ret (W.iret (v := q_1.2.1) hx hb hr (fun t ht hW => ⟨⟨q_1.2.1, (), rfl, ⟨rfl, rfl⟩, ⟨by rw [ht]; exact hP, hD⟩⟩, hS.F ht⟩) hS.2.2 dX11_functions_7 hlocks)
def f_X11_lambda (T : TS) (N : NS) (p1 : Int32) (p2 : Int32) : Option (Int32 × Int32 × TS × NS) := (Option.bind (f_X11_layPair T N 6 p1 p2) (fun q_1 => (if q_1.1 = 0 then some (0, q_1.2.1, q_1.2.2.1, q_1.2.2.2) else some (q_1.1, 0, q_1.2.2.1, q_1.2.2.2))))
set_option maxHeartbeats 2000000 in
set_option maxRecDepth 100000 in
theorem k_X11_lambda (l : Launch) (hfl : l.stackTraces = false) (G : GC) (a : AS) (T : TS) (F : FS) (U : US) (S : SS) (D : DS) (R : RS) (M : MS) (N : NS) (P : PS) (hlk : lkA a D.1.toNatClampNeg D.2.1.toNatClampNeg) (p1 : Int32) (p2 : Int32) (k9 : Int32) (r9 : Int32) (T9 : TS) (N9 : NS) (hm : f_X11_lambda T N p1 p2 = some (k9, r9, T9, N9)) (sz : Nat) : vx_Met l yX11_lambda (Cond.code yX11_lambda cX11_lambda 3 (some .int) :: W0) ({ frames := 8, cells := 3, slots := 18, locals := 128 }) (va_Pc [.ref (a.1 0), .int p1, .int p2] (WD G (wC G a T F U S D R M N P) sz)) (va_Qi (S := Unit) (fun r _ => k9 = 0 ∧ r = r9) (fun _ t => PW G (va_A (wC G a T F U S D R M N P) sz) (wC G a T9 F U S D R M N9 P) t) (va_A (wC G a T F U S D R M N P) sz)) (vx_X (fun _ : Unit => True) (fun (E : String) (_ : Unit) (t : State) => xnm k9 = some E ∧ PW G (va_A (wC G a T F U S D R M N P) sz) (wC G a T9 F U S D R M N9 P) t) (va_A (wC G a T F U S D R M N P) sz)) 3 18 (va_A (wC G a T F U S D R M N P) sz) := by
  rw [f_X11_lambda] at hm
  refine vx_ofW (cc := cX11_lambda) (maxL := 3) (ret := (some .int)) (by decide) rfl ?_
  intro p e s m args below meth c s₁ B hml hout0 hv
  obtain ⟨rfl, hsz, hP, hK, hD0, hE⟩ := hv
  have hx := B.exec
  have hb := B.bytes
  have hr := B.returns
  have hts := w0_tail B.pre
  have hown : s.vm.findClass RX11 = some m.cls := findClass_of_methodNamed B.named
  have hlocks := B.notSynchronized
  have hD := hD0.self (sz := sz)
  obtain ⟨A, hAe⟩ : ∃ A, (va_A (wC G a T F U S D R M N P) sz) = A := ⟨_, rfl⟩
  rw [hAe] at hD hE
  have hA : ∀ q : Nat, s.heap.size ≤ q → A q := fun q h => by rw [← hAe]; exact Or.inr (by rw [← hsz]; exact h)
  have hS : va_S A s.heap s.heap [] := va_S.rf
  obtain ⟨H, hHe⟩ : ∃ H : Heap, H = s.heap := ⟨_, rfl⟩
  have hP : va_P (DG G) clP3 (wC G a T F U S D R M N P) H := by rw [hHe]; exact hP
  have hS : va_S A s.heap H [] := by rw [hHe]; exact hS
  have hl := lv_entry ([.ref (a.1 0), .int p1, .int p2]) (n := 3) (Nat.le_of_ble_eq_true rfl)
  rw [lg_entry_eq, ← hHe]
  generalize (lg_sl ([.ref (a.1 0), .int p1, .int p2]) ++ List.replicate (3 - (lg_sl ([.ref (a.1 0), .int p1, .int p2])).length) Slot.unset).toArray = ls at hl ⊢
  have hl : lv_has ls 3 [(0, .ref (a.1 0)), (1, .int p1), (2, .int p2)] := hl
  refine lv_aload_n hx hb dX11_lambda_0 rfl (lv_at hl 0 rfl) ?_
  refine lv_bipush (v := 6) hx hb dX11_lambda_1 (by decide) ?_
  refine lv_iload_n hx hb dX11_lambda_3 rfl (lv_at hl 1 rfl) ?_
  refine lv_iload_n hx hb dX11_lambda_4 rfl (lv_at hl 2 rfl) ?_
  obtain ⟨q_1, hq_1, hm⟩ := bind_some hm
  have hFc := free_all hD hS hA
  refine vx_calli (vx_runV (As := [.int 6, .int p1, .int p2]) (rest := []) ⟨hx, hb, hml, hown, hts⟩ (k_X11_layPair l hfl G a T F U S D R M N P hlk 6 p1 p2  q_1.1 q_1.2.1 q_1.2.2.1 q_1.2.2.2 hq_1 H.size) (cwV 3 hts (gV wm724 wm726 ws_p10 wm1 wm727) rfl rfl rfl (by decide +kernel) ⟨Nat.le_of_ble_eq_true rfl, Nat.le_of_ble_eq_true rfl⟩) (pre_v (pre_w hK hP hD hS hE hFc) (va_recv hK hP (ci := 10) (q0 := 0) rfl rfl)) rfl rfl hl.1 rfl (lv_room (Nat.le_of_ble_eq_true rfl)) dX11_lambda_5 ⟨Nat.le_of_ble_eq_true rfl, Nat.le_of_ble_eq_true rfl⟩) hS (fun q _ h => hFc q h) hFc (fun q _ h => hFc q h) (fun E ce q9 u_2 t H locs ht hvm hpx hBX hz1 hk1 hS hce hv9 hcl => ?_) (fun r u_2 t H locs ht hvm hw hB hz1 hk1 hS => ?_)
  · have hne : ¬ q_1.1 = 0 := xnm_ne hBX.1
    rw [if_neg hne] at hm
    have hX9 := hBX.1
    have hB := hBX.2
    have hP : va_P (DG G) clP3 (wC G a q_1.2.2.1 F U S D R M q_1.2.2.2 P) H := by rw [← ht]; exact hB.1
    have hD : va_D A (wC G a q_1.2.2.1 F U S D R M q_1.2.2.2 P) := hB.2.weaken (fun _ p _ h => hFc p.1 h)
    simp only [Option.some.injEq, Prod.mk.injEq] at hm
    obtain ⟨rfl, rfl, rfl, rfl⟩ := hm
    subst hAe
    exact vx_out (fun x hx => (hout0 x hx).elim) hlocks hce hv9 hcl (fun t2 ht2 _ => ⟨(), trivial, ⟨hX9, by rw [ht2]; exact hP, hD⟩, hS.F ht2⟩) hS.2.2 (Nat.le_of_ble_eq_true rfl) (Nat.le_of_ble_eq_true rfl)
  · rw [if_pos hw.1] at hm
    rw [show r = q_1.2.1 from hw.2]
    have hP : va_P (DG G) clP3 (wC G a q_1.2.2.1 F U S D R M q_1.2.2.2 P) H := by rw [← ht]; exact hB.1
    have hD : va_D A (wC G a q_1.2.2.1 F U S D R M q_1.2.2.2 P) := hB.2.weaken (fun _ p _ h => hFc p.1 h)
    refine W.widen (k := 3) (n := 18) (Nat.le_of_ble_eq_true rfl) (Nat.le_of_ble_eq_true rfl) ?_
    simp only [Option.some.injEq, Prod.mk.injEq] at hm
    obtain ⟨rfl, rfl, rfl, rfl⟩ := hm
    subst hAe
    refine W.widen (k := 3) (n := 18) (Nat.le_of_ble_eq_true rfl) (Nat.le_of_ble_eq_true rfl) ?_
    exact vx_ret (W.iret (v := q_1.2.1) hx hb hr (fun t ht hW => ⟨⟨q_1.2.1, (), rfl, ⟨rfl, rfl⟩, ⟨by rw [ht]; exact hP, hD⟩⟩, hS.F ht⟩) hS.2.2 dX11_lambda_8 hlocks)
def f_X11_apply (T : TS) (N : NS) (p1 : Int32) (p2 : Int32) : Option (Int32 × Int32 × TS × NS) := (Option.bind (f_X11_layPair T N 7 p1 p2) (fun q_1 => (if q_1.1 = 0 then some (0, q_1.2.1, q_1.2.2.1, q_1.2.2.2) else some (q_1.1, 0, q_1.2.2.1, q_1.2.2.2))))
set_option maxHeartbeats 2000000 in
set_option maxRecDepth 100000 in
theorem k_X11_apply (l : Launch) (hfl : l.stackTraces = false) (G : GC) (a : AS) (T : TS) (F : FS) (U : US) (S : SS) (D : DS) (R : RS) (M : MS) (N : NS) (P : PS) (hlk : lkA a D.1.toNatClampNeg D.2.1.toNatClampNeg) (p1 : Int32) (p2 : Int32) (k9 : Int32) (r9 : Int32) (T9 : TS) (N9 : NS) (hm : f_X11_apply T N p1 p2 = some (k9, r9, T9, N9)) (sz : Nat) : vx_Met l yX11_apply (Cond.code yX11_apply cX11_apply 3 (some .int) :: W0) ({ frames := 8, cells := 3, slots := 18, locals := 128 }) (va_Pc [.ref (a.1 0), .int p1, .int p2] (WD G (wC G a T F U S D R M N P) sz)) (va_Qi (S := Unit) (fun r _ => k9 = 0 ∧ r = r9) (fun _ t => PW G (va_A (wC G a T F U S D R M N P) sz) (wC G a T9 F U S D R M N9 P) t) (va_A (wC G a T F U S D R M N P) sz)) (vx_X (fun _ : Unit => True) (fun (E : String) (_ : Unit) (t : State) => xnm k9 = some E ∧ PW G (va_A (wC G a T F U S D R M N P) sz) (wC G a T9 F U S D R M N9 P) t) (va_A (wC G a T F U S D R M N P) sz)) 3 18 (va_A (wC G a T F U S D R M N P) sz) := by
  rw [f_X11_apply] at hm
  refine vx_ofW (cc := cX11_apply) (maxL := 3) (ret := (some .int)) (by decide) rfl ?_
  intro p e s m args below meth c s₁ B hml hout0 hv
  obtain ⟨rfl, hsz, hP, hK, hD0, hE⟩ := hv
  have hx := B.exec
  have hb := B.bytes
  have hr := B.returns
  have hts := w0_tail B.pre
  have hown : s.vm.findClass RX11 = some m.cls := findClass_of_methodNamed B.named
  have hlocks := B.notSynchronized
  have hD := hD0.self (sz := sz)
  obtain ⟨A, hAe⟩ : ∃ A, (va_A (wC G a T F U S D R M N P) sz) = A := ⟨_, rfl⟩
  rw [hAe] at hD hE
  have hA : ∀ q : Nat, s.heap.size ≤ q → A q := fun q h => by rw [← hAe]; exact Or.inr (by rw [← hsz]; exact h)
  have hS : va_S A s.heap s.heap [] := va_S.rf
  obtain ⟨H, hHe⟩ : ∃ H : Heap, H = s.heap := ⟨_, rfl⟩
  have hP : va_P (DG G) clP3 (wC G a T F U S D R M N P) H := by rw [hHe]; exact hP
  have hS : va_S A s.heap H [] := by rw [hHe]; exact hS
  have hl := lv_entry ([.ref (a.1 0), .int p1, .int p2]) (n := 3) (Nat.le_of_ble_eq_true rfl)
  rw [lg_entry_eq, ← hHe]
  generalize (lg_sl ([.ref (a.1 0), .int p1, .int p2]) ++ List.replicate (3 - (lg_sl ([.ref (a.1 0), .int p1, .int p2])).length) Slot.unset).toArray = ls at hl ⊢
  have hl : lv_has ls 3 [(0, .ref (a.1 0)), (1, .int p1), (2, .int p2)] := hl
  refine lv_aload_n hx hb dX11_apply_0 rfl (lv_at hl 0 rfl) ?_
  refine lv_bipush (v := 7) hx hb dX11_apply_1 (by decide) ?_
  refine lv_iload_n hx hb dX11_apply_3 rfl (lv_at hl 1 rfl) ?_
  refine lv_iload_n hx hb dX11_apply_4 rfl (lv_at hl 2 rfl) ?_
  obtain ⟨q_1, hq_1, hm⟩ := bind_some hm
  have hFc := free_all hD hS hA
  refine vx_calli (vx_runV (As := [.int 7, .int p1, .int p2]) (rest := []) ⟨hx, hb, hml, hown, hts⟩ (k_X11_layPair l hfl G a T F U S D R M N P hlk 7 p1 p2  q_1.1 q_1.2.1 q_1.2.2.1 q_1.2.2.2 hq_1 H.size) (cwV 3 hts (gV wm724 wm726 ws_p10 wm1 wm727) rfl rfl rfl (by decide +kernel) ⟨Nat.le_of_ble_eq_true rfl, Nat.le_of_ble_eq_true rfl⟩) (pre_v (pre_w hK hP hD hS hE hFc) (va_recv hK hP (ci := 10) (q0 := 0) rfl rfl)) rfl rfl hl.1 rfl (lv_room (Nat.le_of_ble_eq_true rfl)) dX11_apply_5 ⟨Nat.le_of_ble_eq_true rfl, Nat.le_of_ble_eq_true rfl⟩) hS (fun q _ h => hFc q h) hFc (fun q _ h => hFc q h) (fun E ce q9 u_2 t H locs ht hvm hpx hBX hz1 hk1 hS hce hv9 hcl => ?_) (fun r u_2 t H locs ht hvm hw hB hz1 hk1 hS => ?_)
  · have hne : ¬ q_1.1 = 0 := xnm_ne hBX.1
    rw [if_neg hne] at hm
    have hX9 := hBX.1
    have hB := hBX.2
    have hP : va_P (DG G) clP3 (wC G a q_1.2.2.1 F U S D R M q_1.2.2.2 P) H := by rw [← ht]; exact hB.1
    have hD : va_D A (wC G a q_1.2.2.1 F U S D R M q_1.2.2.2 P) := hB.2.weaken (fun _ p _ h => hFc p.1 h)
    simp only [Option.some.injEq, Prod.mk.injEq] at hm
    obtain ⟨rfl, rfl, rfl, rfl⟩ := hm
    subst hAe
    exact vx_out (fun x hx => (hout0 x hx).elim) hlocks hce hv9 hcl (fun t2 ht2 _ => ⟨(), trivial, ⟨hX9, by rw [ht2]; exact hP, hD⟩, hS.F ht2⟩) hS.2.2 (Nat.le_of_ble_eq_true rfl) (Nat.le_of_ble_eq_true rfl)
  · rw [if_pos hw.1] at hm
    rw [show r = q_1.2.1 from hw.2]
    have hP : va_P (DG G) clP3 (wC G a q_1.2.2.1 F U S D R M q_1.2.2.2 P) H := by rw [← ht]; exact hB.1
    have hD : va_D A (wC G a q_1.2.2.1 F U S D R M q_1.2.2.2 P) := hB.2.weaken (fun _ p _ h => hFc p.1 h)
    refine W.widen (k := 3) (n := 18) (Nat.le_of_ble_eq_true rfl) (Nat.le_of_ble_eq_true rfl) ?_
    simp only [Option.some.injEq, Prod.mk.injEq] at hm
    obtain ⟨rfl, rfl, rfl, rfl⟩ := hm
    subst hAe
    refine W.widen (k := 3) (n := 18) (Nat.le_of_ble_eq_true rfl) (Nat.le_of_ble_eq_true rfl) ?_
    exact vx_ret (W.iret (v := q_1.2.1) hx hb hr (fun t ht hW => ⟨⟨q_1.2.1, (), rfl, ⟨rfl, rfl⟩, ⟨by rw [ht]; exact hP, hD⟩⟩, hS.F ht⟩) hS.2.2 dX11_apply_8 hlocks)
def f_X11_dataNode (T : TS) (S : SS) (N : NS) (p1 : Int32) : Option (Int32 × Int32 × TS × NS) := (Option.bind (g_X7_hasData S p1) (fun q_1 => (if q_1 = 0 then some (4, 0, T, N) else (Option.bind (f_X11_layLeaf T N 2 p1) (fun q_3 => (if q_3.1 = 0 then some (0, q_3.2.1, q_3.2.2.1, q_3.2.2.2) else some (q_3.1, 0, q_3.2.2.1, q_3.2.2.2)))))))
set_option maxHeartbeats 2000000 in
set_option maxRecDepth 100000 in
theorem k_X11_dataNode (l : Launch) (hfl : l.stackTraces = false) (G : GC) (a : AS) (T : TS) (F : FS) (U : US) (S : SS) (D : DS) (R : RS) (M : MS) (N : NS) (P : PS) (hlk : lkA a D.1.toNatClampNeg D.2.1.toNatClampNeg) (p1 : Int32) (k9 : Int32) (r9 : Int32) (T9 : TS) (N9 : NS) (hm : f_X11_dataNode T S N p1 = some (k9, r9, T9, N9)) (sz : Nat) : vx_Met l yX11_dataNode (Cond.code yX11_dataNode cX11_dataNode 2 (some .int) :: W0) ({ frames := 7, cells := 1, slots := 6, locals := 104 }) (va_Pc [.ref (a.1 0), .int p1] (WD G (wC G a T F U S D R M N P) sz)) (va_Qi (S := Unit) (fun r _ => k9 = 0 ∧ r = r9) (fun _ t => PW G (va_A (wC G a T F U S D R M N P) sz) (wC G a T9 F U S D R M N9 P) t) (va_A (wC G a T F U S D R M N P) sz)) (vx_X (fun _ : Unit => True) (fun (E : String) (_ : Unit) (t : State) => xnm k9 = some E ∧ PW G (va_A (wC G a T F U S D R M N P) sz) (wC G a T9 F U S D R M N9 P) t) (va_A (wC G a T F U S D R M N P) sz)) 1 6 (va_A (wC G a T F U S D R M N P) sz) := by
  rw [f_X11_dataNode] at hm
  refine vx_ofW (cc := cX11_dataNode) (maxL := 2) (ret := (some .int)) (by decide) rfl ?_
  intro p e s m args below meth c s₁ B hml hout0 hv
  obtain ⟨rfl, hsz, hP, hK, hD0, hE⟩ := hv
  have hx := B.exec
  have hb := B.bytes
  have hr := B.returns
  have hts := w0_tail B.pre
  have hown : s.vm.findClass RX11 = some m.cls := findClass_of_methodNamed B.named
  have hlocks := B.notSynchronized
  have hD := hD0.self (sz := sz)
  obtain ⟨A, hAe⟩ : ∃ A, (va_A (wC G a T F U S D R M N P) sz) = A := ⟨_, rfl⟩
  rw [hAe] at hD hE
  have hA : ∀ q : Nat, s.heap.size ≤ q → A q := fun q h => by rw [← hAe]; exact Or.inr (by rw [← hsz]; exact h)
  have hS : va_S A s.heap s.heap [] := va_S.rf
  obtain ⟨H, hHe⟩ : ∃ H : Heap, H = s.heap := ⟨_, rfl⟩
  have hP : va_P (DG G) clP3 (wC G a T F U S D R M N P) H := by rw [hHe]; exact hP
  have hS : va_S A s.heap H [] := by rw [hHe]; exact hS
  have hl := lv_entry ([.ref (a.1 0), .int p1]) (n := 2) (Nat.le_of_ble_eq_true rfl)
  rw [lg_entry_eq, ← hHe]
  generalize (lg_sl ([.ref (a.1 0), .int p1]) ++ List.replicate (2 - (lg_sl ([.ref (a.1 0), .int p1])).length) Slot.unset).toArray = ls at hl ⊢
  have hl : lv_has ls 2 [(0, .ref (a.1 0)), (1, .int p1)] := hl
  refine lv_aload_n hx hb dX11_dataNode_0 rfl (lv_at hl 0 rfl) ?_
  refine va_get (D := DG G) (ci := 10) (v := .ref (a.1 13)) (C := RX11) (T := TX11) (N := 10) hx hb hts inW_X11 hown hK hP 0 rfl rfl 2 (by decide) (hts _ wm286) (fun _ h9 => h9) rfl dX11_dataNode_1 ?_
  refine lv_iload_n hx hb dX11_dataNode_4 rfl (lv_at hl 1 rfl) ?_
  obtain ⟨q_1, hq_1, hm⟩ := bind_some hm
  have hFc := free_all hD hS hA
  refine va_calli (va_runV (As := [.int p1]) (rest := []) ⟨hx, hb, hml, hown, hts⟩ (K_X7_hasData l hfl G a T F U S D R M N P p1  q_1 hq_1 H.size) (cwV 1 hts (gV wm753 wm754 wm755 wm4 wm756) rfl rfl rfl (by decide +kernel) ⟨Nat.le_of_ble_eq_true rfl, Nat.le_of_ble_eq_true rfl⟩) (pre_v (pre_w hK hP hD hS hE hFc) (va_recv hK hP (ci := 6) (q0 := 13) rfl rfl)) rfl rfl hl.1 rfl (lv_room (Nat.le_of_ble_eq_true rfl)) dX11_dataNode_5 ⟨Nat.le_of_ble_eq_true rfl, Nat.le_of_ble_eq_true rfl⟩) hS (fun q _ h => hFc q h) hFc (fun r u t H locs ht hvm hw hB hz1 hk1 hS => ?_)
  rw [show r = q_1 from hw]
  have hP : va_P (DG G) clP3 (wC G a T F U S D R M N P) H := by rw [← ht]; exact hB.1
  have hD : va_D A (wC G a T F U S D R M N P) := hB.2.weaken (fun _ p _ h => hFc p.1 h)
  clear hB hFc hw hk1
  refine W.widen (k := 0) (n := 0) (Nat.le_of_ble_eq_true rfl) (Nat.le_of_ble_eq_true rfl) ?_
  refine lv_if_ne (tgt := 21) hx hb dX11_dataNode_8 (by decide) (fun c_2 => ?_) (fun c_2 => ?_)
  · rw [if_neg c_2] at hm
    refine lv_aload_n hx hb dX11_dataNode_21 rfl (lv_at hl 0 rfl) ?_
    refine lv_iconst (v := 2) hx hb dX11_dataNode_22 (by decide) ?_
    refine lv_iload_n hx hb dX11_dataNode_23 rfl (lv_at hl 1 rfl) ?_
    obtain ⟨q_3, hq_3, hm⟩ := bind_some hm
    have hFc := free_all hD hS hA
    refine vx_calli (vx_runV (As := [.int 2, .int p1]) (rest := []) ⟨hx, hb, hml, hown, hts⟩ (k_X11_layLeaf l hfl G a T F U S D R M N P hlk 2 p1  q_3.1 q_3.2.1 q_3.2.2.1 q_3.2.2.2 hq_3 H.size) (cwV 2 hts (gV wm665 wm667 ws_p9 wm1 wm668) rfl rfl rfl (by decide +kernel) ⟨Nat.le_of_ble_eq_true rfl, Nat.le_of_ble_eq_true rfl⟩) (pre_v (pre_w hK hP hD hS hE hFc) (va_recv hK hP (ci := 10) (q0 := 0) rfl rfl)) rfl rfl hl.1 rfl (lv_room (Nat.le_of_ble_eq_true rfl)) dX11_dataNode_24 ⟨Nat.le_of_ble_eq_true rfl, Nat.le_of_ble_eq_true rfl⟩) hS (fun q _ h => hFc q h) hFc (fun q _ h => hFc q h) (fun E ce q9 u_4 t H locs ht hvm hpx hBX hz1 hk1 hS hce hv9 hcl => ?_) (fun r u_4 t H locs ht hvm hw hB hz1 hk1 hS => ?_)
    · have hne : ¬ q_3.1 = 0 := xnm_ne hBX.1
      rw [if_neg hne] at hm
      have hX9 := hBX.1
      have hB := hBX.2
      have hP : va_P (DG G) clP3 (wC G a q_3.2.2.1 F U S D R M q_3.2.2.2 P) H := by rw [← ht]; exact hB.1
      have hD : va_D A (wC G a q_3.2.2.1 F U S D R M q_3.2.2.2 P) := hB.2.weaken (fun _ p _ h => hFc p.1 h)
      simp only [Option.some.injEq, Prod.mk.injEq] at hm
      obtain ⟨rfl, rfl, rfl, rfl⟩ := hm
      subst hAe
      exact vx_out (fun x hx => (hout0 x hx).elim) hlocks hce hv9 hcl (fun t2 ht2 _ => ⟨(), trivial, ⟨hX9, by rw [ht2]; exact hP, hD⟩, hS.F ht2⟩) hS.2.2 (Nat.le_of_ble_eq_true rfl) (Nat.le_of_ble_eq_true rfl)
    · rw [if_pos hw.1] at hm
      rw [show r = q_3.2.1 from hw.2]
      have hP : va_P (DG G) clP3 (wC G a q_3.2.2.1 F U S D R M q_3.2.2.2 P) H := by rw [← ht]; exact hB.1
      have hD : va_D A (wC G a q_3.2.2.1 F U S D R M q_3.2.2.2 P) := hB.2.weaken (fun _ p _ h => hFc p.1 h)
      refine W.widen (k := 1) (n := 6) (Nat.le_of_ble_eq_true rfl) (Nat.le_of_ble_eq_true rfl) ?_
      simp only [Option.some.injEq, Prod.mk.injEq] at hm
      obtain ⟨rfl, rfl, rfl, rfl⟩ := hm
      subst hAe
      refine W.widen (k := 1) (n := 6) (Nat.le_of_ble_eq_true rfl) (Nat.le_of_ble_eq_true rfl) ?_
      exact vx_ret (W.iret (v := q_3.2.1) hx hb hr (fun t ht hW => ⟨⟨q_3.2.1, (), rfl, ⟨rfl, rfl⟩, ⟨by rw [ht]; exact hP, hD⟩⟩, hS.F ht⟩) hS.2.2 dX11_dataNode_27 hlocks)
  · rw [if_pos c_2] at hm
    simp only [Option.some.injEq, Prod.mk.injEq] at hm
    obtain ⟨rfl, rfl, rfl, rfl⟩ := hm
    subst hAe
    obtain ⟨sa, hsa⟩ := hE.2.1 _ stm10
    exact tx_throwSW (Y1 := "java/lang/RuntimeException") (r := ["java/lang/Exception"]) (ix := 13) (rx := prog_32_method_4_code) (A := _) (free := _) hx hb hfl (by decide +kernel) (by decide +kernel) (by decide +kernel) (by decide +kernel) hown (by decide +kernel) (by decide +kernel) (by decide +kernel) (hts _ wm576) (hts _ wm16) hsa (xX11_95_hat hts hE) xX11_95_good (EV.un hE) (EV.su hE) hS (hl.1.trans hml.symm) dX11_dataNode_11 dX11_dataNode_14 dX11_dataNode_15 (Or.inl ⟨rfl, rfl⟩) dX11_dataNode_17 dX11_dataNode_20 (fun x hx => (hout0 x hx).elim) (Nat.le_of_ble_eq_true rfl) (Nat.le_of_ble_eq_true rfl) (Nat.le_of_ble_eq_true rfl) (Nat.le_of_ble_eq_true rfl) hlocks (fun t ha hz hk => ⟨(), trivial, ⟨rfl, va_Pgrow hP hk, hD⟩, xF hS hz hk⟩) hS.2.2 (Nat.le_of_ble_eq_true rfl) (Nat.le_of_ble_eq_true rfl)
def f_X11_constructorNode (T : TS) (S : SS) (N : NS) (p1 : Int32) : Option (Int32 × Int32 × TS × NS) := (Option.bind (g_X7_hasConstructor S p1) (fun q_1 => (if q_1 = 0 then some (4, 0, T, N) else (Option.bind (f_X11_layLeaf T N 3 p1) (fun q_3 => (if q_3.1 = 0 then some (0, q_3.2.1, q_3.2.2.1, q_3.2.2.2) else some (q_3.1, 0, q_3.2.2.1, q_3.2.2.2)))))))
set_option maxHeartbeats 2000000 in
set_option maxRecDepth 100000 in
theorem k_X11_constructorNode (l : Launch) (hfl : l.stackTraces = false) (G : GC) (a : AS) (T : TS) (F : FS) (U : US) (S : SS) (D : DS) (R : RS) (M : MS) (N : NS) (P : PS) (hlk : lkA a D.1.toNatClampNeg D.2.1.toNatClampNeg) (p1 : Int32) (k9 : Int32) (r9 : Int32) (T9 : TS) (N9 : NS) (hm : f_X11_constructorNode T S N p1 = some (k9, r9, T9, N9)) (sz : Nat) : vx_Met l yX11_constructorNode (Cond.code yX11_constructorNode cX11_constructorNode 2 (some .int) :: W0) ({ frames := 7, cells := 1, slots := 6, locals := 104 }) (va_Pc [.ref (a.1 0), .int p1] (WD G (wC G a T F U S D R M N P) sz)) (va_Qi (S := Unit) (fun r _ => k9 = 0 ∧ r = r9) (fun _ t => PW G (va_A (wC G a T F U S D R M N P) sz) (wC G a T9 F U S D R M N9 P) t) (va_A (wC G a T F U S D R M N P) sz)) (vx_X (fun _ : Unit => True) (fun (E : String) (_ : Unit) (t : State) => xnm k9 = some E ∧ PW G (va_A (wC G a T F U S D R M N P) sz) (wC G a T9 F U S D R M N9 P) t) (va_A (wC G a T F U S D R M N P) sz)) 1 6 (va_A (wC G a T F U S D R M N P) sz) := by
  rw [f_X11_constructorNode] at hm
  refine vx_ofW (cc := cX11_constructorNode) (maxL := 2) (ret := (some .int)) (by decide) rfl ?_
  intro p e s m args below meth c s₁ B hml hout0 hv
  obtain ⟨rfl, hsz, hP, hK, hD0, hE⟩ := hv
  have hx := B.exec
  have hb := B.bytes
  have hr := B.returns
  have hts := w0_tail B.pre
  have hown : s.vm.findClass RX11 = some m.cls := findClass_of_methodNamed B.named
  have hlocks := B.notSynchronized
  have hD := hD0.self (sz := sz)
  obtain ⟨A, hAe⟩ : ∃ A, (va_A (wC G a T F U S D R M N P) sz) = A := ⟨_, rfl⟩
  rw [hAe] at hD hE
  have hA : ∀ q : Nat, s.heap.size ≤ q → A q := fun q h => by rw [← hAe]; exact Or.inr (by rw [← hsz]; exact h)
  have hS : va_S A s.heap s.heap [] := va_S.rf
  obtain ⟨H, hHe⟩ : ∃ H : Heap, H = s.heap := ⟨_, rfl⟩
  have hP : va_P (DG G) clP3 (wC G a T F U S D R M N P) H := by rw [hHe]; exact hP
  have hS : va_S A s.heap H [] := by rw [hHe]; exact hS
  have hl := lv_entry ([.ref (a.1 0), .int p1]) (n := 2) (Nat.le_of_ble_eq_true rfl)
  rw [lg_entry_eq, ← hHe]
  generalize (lg_sl ([.ref (a.1 0), .int p1]) ++ List.replicate (2 - (lg_sl ([.ref (a.1 0), .int p1])).length) Slot.unset).toArray = ls at hl ⊢
  have hl : lv_has ls 2 [(0, .ref (a.1 0)), (1, .int p1)] := hl
  refine lv_aload_n hx hb dX11_constructorNode_0 rfl (lv_at hl 0 rfl) ?_
  refine va_get (D := DG G) (ci := 10) (v := .ref (a.1 13)) (C := RX11) (T := TX11) (N := 10) hx hb hts inW_X11 hown hK hP 0 rfl rfl 2 (by decide) (hts _ wm286) (fun _ h9 => h9) rfl dX11_constructorNode_1 ?_
  refine lv_iload_n hx hb dX11_constructorNode_4 rfl (lv_at hl 1 rfl) ?_
  obtain ⟨q_1, hq_1, hm⟩ := bind_some hm
  have hFc := free_all hD hS hA
  refine va_calli (va_runV (As := [.int p1]) (rest := []) ⟨hx, hb, hml, hown, hts⟩ (K_X7_hasConstructor l hfl G a T F U S D R M N P p1  q_1 hq_1 H.size) (cwV 1 hts (gV wm766 wm480 wm481 wm4 wm482) rfl rfl rfl (by decide +kernel) ⟨Nat.le_of_ble_eq_true rfl, Nat.le_of_ble_eq_true rfl⟩) (pre_v (pre_w hK hP hD hS hE hFc) (va_recv hK hP (ci := 6) (q0 := 13) rfl rfl)) rfl rfl hl.1 rfl (lv_room (Nat.le_of_ble_eq_true rfl)) dX11_constructorNode_5 ⟨Nat.le_of_ble_eq_true rfl, Nat.le_of_ble_eq_true rfl⟩) hS (fun q _ h => hFc q h) hFc (fun r u t H locs ht hvm hw hB hz1 hk1 hS => ?_)
  rw [show r = q_1 from hw]
  have hP : va_P (DG G) clP3 (wC G a T F U S D R M N P) H := by rw [← ht]; exact hB.1
  have hD : va_D A (wC G a T F U S D R M N P) := hB.2.weaken (fun _ p _ h => hFc p.1 h)
  clear hB hFc hw hk1
  refine W.widen (k := 0) (n := 0) (Nat.le_of_ble_eq_true rfl) (Nat.le_of_ble_eq_true rfl) ?_
  refine lv_if_ne (tgt := 21) hx hb dX11_constructorNode_8 (by decide) (fun c_2 => ?_) (fun c_2 => ?_)
  · rw [if_neg c_2] at hm
    refine lv_aload_n hx hb dX11_constructorNode_21 rfl (lv_at hl 0 rfl) ?_
    refine lv_iconst (v := 3) hx hb dX11_constructorNode_22 (by decide) ?_
    refine lv_iload_n hx hb dX11_constructorNode_23 rfl (lv_at hl 1 rfl) ?_
    obtain ⟨q_3, hq_3, hm⟩ := bind_some hm
    have hFc := free_all hD hS hA
    refine vx_calli (vx_runV (As := [.int 3, .int p1]) (rest := []) ⟨hx, hb, hml, hown, hts⟩ (k_X11_layLeaf l hfl G a T F U S D R M N P hlk 3 p1  q_3.1 q_3.2.1 q_3.2.2.1 q_3.2.2.2 hq_3 H.size) (cwV 2 hts (gV wm665 wm667 ws_p9 wm1 wm668) rfl rfl rfl (by decide +kernel) ⟨Nat.le_of_ble_eq_true rfl, Nat.le_of_ble_eq_true rfl⟩) (pre_v (pre_w hK hP hD hS hE hFc) (va_recv hK hP (ci := 10) (q0 := 0) rfl rfl)) rfl rfl hl.1 rfl (lv_room (Nat.le_of_ble_eq_true rfl)) dX11_constructorNode_24 ⟨Nat.le_of_ble_eq_true rfl, Nat.le_of_ble_eq_true rfl⟩) hS (fun q _ h => hFc q h) hFc (fun q _ h => hFc q h) (fun E ce q9 u_4 t H locs ht hvm hpx hBX hz1 hk1 hS hce hv9 hcl => ?_) (fun r u_4 t H locs ht hvm hw hB hz1 hk1 hS => ?_)
    · have hne : ¬ q_3.1 = 0 := xnm_ne hBX.1
      rw [if_neg hne] at hm
      have hX9 := hBX.1
      have hB := hBX.2
      have hP : va_P (DG G) clP3 (wC G a q_3.2.2.1 F U S D R M q_3.2.2.2 P) H := by rw [← ht]; exact hB.1
      have hD : va_D A (wC G a q_3.2.2.1 F U S D R M q_3.2.2.2 P) := hB.2.weaken (fun _ p _ h => hFc p.1 h)
      simp only [Option.some.injEq, Prod.mk.injEq] at hm
      obtain ⟨rfl, rfl, rfl, rfl⟩ := hm
      subst hAe
      exact vx_out (fun x hx => (hout0 x hx).elim) hlocks hce hv9 hcl (fun t2 ht2 _ => ⟨(), trivial, ⟨hX9, by rw [ht2]; exact hP, hD⟩, hS.F ht2⟩) hS.2.2 (Nat.le_of_ble_eq_true rfl) (Nat.le_of_ble_eq_true rfl)
    · rw [if_pos hw.1] at hm
      rw [show r = q_3.2.1 from hw.2]
      have hP : va_P (DG G) clP3 (wC G a q_3.2.2.1 F U S D R M q_3.2.2.2 P) H := by rw [← ht]; exact hB.1
      have hD : va_D A (wC G a q_3.2.2.1 F U S D R M q_3.2.2.2 P) := hB.2.weaken (fun _ p _ h => hFc p.1 h)
      refine W.widen (k := 1) (n := 6) (Nat.le_of_ble_eq_true rfl) (Nat.le_of_ble_eq_true rfl) ?_
      simp only [Option.some.injEq, Prod.mk.injEq] at hm
      obtain ⟨rfl, rfl, rfl, rfl⟩ := hm
      subst hAe
      refine W.widen (k := 1) (n := 6) (Nat.le_of_ble_eq_true rfl) (Nat.le_of_ble_eq_true rfl) ?_
      exact vx_ret (W.iret (v := q_3.2.1) hx hb hr (fun t ht hW => ⟨⟨q_3.2.1, (), rfl, ⟨rfl, rfl⟩, ⟨by rw [ht]; exact hP, hD⟩⟩, hS.F ht⟩) hS.2.2 dX11_constructorNode_27 hlocks)
  · rw [if_pos c_2] at hm
    simp only [Option.some.injEq, Prod.mk.injEq] at hm
    obtain ⟨rfl, rfl, rfl, rfl⟩ := hm
    subst hAe
    obtain ⟨sa, hsa⟩ := hE.2.1 _ stm11
    exact tx_throwSW (Y1 := "java/lang/RuntimeException") (r := ["java/lang/Exception"]) (ix := 13) (rx := prog_32_method_4_code) (A := _) (free := _) hx hb hfl (by decide +kernel) (by decide +kernel) (by decide +kernel) (by decide +kernel) hown (by decide +kernel) (by decide +kernel) (by decide +kernel) (hts _ wm576) (hts _ wm16) hsa (xX11_95_hat hts hE) xX11_95_good (EV.un hE) (EV.su hE) hS (hl.1.trans hml.symm) dX11_constructorNode_11 dX11_constructorNode_14 dX11_constructorNode_15 (Or.inl ⟨rfl, rfl⟩) dX11_constructorNode_17 dX11_constructorNode_20 (fun x hx => (hout0 x hx).elim) (Nat.le_of_ble_eq_true rfl) (Nat.le_of_ble_eq_true rfl) (Nat.le_of_ble_eq_true rfl) (Nat.le_of_ble_eq_true rfl) hlocks (fun t ha hz hk => ⟨(), trivial, ⟨rfl, va_Pgrow hP hk, hD⟩, xF hS hz hk⟩) hS.2.2 (Nat.le_of_ble_eq_true rfl) (Nat.le_of_ble_eq_true rfl)
def f_X11_functionNode (T : TS) (D : DS) (N : NS) (p1 : Int32) : Option (Int32 × Int32 × TS × NS) := (Option.bind (f_X11_functionAt D p1) (fun q_1 => (if q_1.1 = 0 then (if fix D q_1.2 = true then (Option.bind (f_X11_layLeaf T N 4 p1) (fun q_4 => (if q_4.1 = 0 then some (0, q_4.2.1, q_4.2.2.1, q_4.2.2.2) else some (q_4.1, 0, q_4.2.2.1, q_4.2.2.2)))) else none) else some (q_1.1, 0, T, N))))
set_option maxHeartbeats 2000000 in
set_option maxRecDepth 100000 in
theorem k_X11_functionNode (l : Launch) (hfl : l.stackTraces = false) (G : GC) (a : AS) (T : TS) (F : FS) (U : US) (S : SS) (D : DS) (R : RS) (M : MS) (N : NS) (P : PS) (hlk : lkA a D.1.toNatClampNeg D.2.1.toNatClampNeg) (p1 : Int32) (k9 : Int32) (r9 : Int32) (T9 : TS) (N9 : NS) (hm : f_X11_functionNode T D N p1 = some (k9, r9, T9, N9)) (sz : Nat) : vx_Met l yX11_functionNode (Cond.code yX11_functionNode cX11_functionNode 2 (some .int) :: W0) ({ frames := 7, cells := 2, slots := 12, locals := 104 }) (va_Pc [.ref (a.1 0), .int p1] (WD G (wC G a T F U S D R M N P) sz)) (va_Qi (S := Unit) (fun r _ => k9 = 0 ∧ r = r9) (fun _ t => PW G (va_A (wC G a T F U S D R M N P) sz) (wC G a T9 F U S D R M N9 P) t) (va_A (wC G a T F U S D R M N P) sz)) (vx_X (fun _ : Unit => True) (fun (E : String) (_ : Unit) (t : State) => xnm k9 = some E ∧ PW G (va_A (wC G a T F U S D R M N P) sz) (wC G a T9 F U S D R M N9 P) t) (va_A (wC G a T F U S D R M N P) sz)) 2 12 (va_A (wC G a T F U S D R M N P) sz) := by
  rw [f_X11_functionNode] at hm
  refine vx_ofW (cc := cX11_functionNode) (maxL := 2) (ret := (some .int)) (by decide) rfl ?_
  intro p e s m args below meth c s₁ B hml hout0 hv
  obtain ⟨rfl, hsz, hP, hK, hD0, hE⟩ := hv
  have hx := B.exec
  have hb := B.bytes
  have hr := B.returns
  have hts := w0_tail B.pre
  have hown : s.vm.findClass RX11 = some m.cls := findClass_of_methodNamed B.named
  have hlocks := B.notSynchronized
  have hD := hD0.self (sz := sz)
  obtain ⟨A, hAe⟩ : ∃ A, (va_A (wC G a T F U S D R M N P) sz) = A := ⟨_, rfl⟩
  rw [hAe] at hD hE
  have hA : ∀ q : Nat, s.heap.size ≤ q → A q := fun q h => by rw [← hAe]; exact Or.inr (by rw [← hsz]; exact h)
  have hS : va_S A s.heap s.heap [] := va_S.rf
  obtain ⟨H, hHe⟩ : ∃ H : Heap, H = s.heap := ⟨_, rfl⟩
  have hP : va_P (DG G) clP3 (wC G a T F U S D R M N P) H := by rw [hHe]; exact hP
  have hS : va_S A s.heap H [] := by rw [hHe]; exact hS
  have hl := lv_entry ([.ref (a.1 0), .int p1]) (n := 2) (Nat.le_of_ble_eq_true rfl)
  rw [lg_entry_eq, ← hHe]
  generalize (lg_sl ([.ref (a.1 0), .int p1]) ++ List.replicate (2 - (lg_sl ([.ref (a.1 0), .int p1])).length) Slot.unset).toArray = ls at hl ⊢
  have hl : lv_has ls 2 [(0, .ref (a.1 0)), (1, .int p1)] := hl
  refine lv_aload_n hx hb dX11_functionNode_0 rfl (lv_at hl 0 rfl) ?_
  refine lv_iload_n hx hb dX11_functionNode_1 rfl (lv_at hl 1 rfl) ?_
  obtain ⟨q_1, hq_1, hm⟩ := bind_some hm
  have hFc := free_all hD hS hA
  refine vx_callq (vx_runV (As := [.int p1]) (rest := []) ⟨hx, hb, hml, hown, hts⟩ (k_X11_functionAt l hfl G a T F U S D R M N P hlk p1  q_1.1 q_1.2 hq_1 H.size) (cwV 1 hts (gV wm571 wm573 ws_p7 wm1 wm574) rfl rfl rfl (by decide +kernel) ⟨Nat.le_of_ble_eq_true rfl, Nat.le_of_ble_eq_true rfl⟩) (pre_v (pre_w hK hP hD hS hE hFc) (va_recv hK hP (ci := 10) (q0 := 0) rfl rfl)) rfl rfl hl.1 rfl (lv_room (Nat.le_of_ble_eq_true rfl)) dX11_functionNode_2 ⟨Nat.le_of_ble_eq_true rfl, Nat.le_of_ble_eq_true rfl⟩) hS (fun q _ h => hFc q h) hFc (fun q _ h => hFc q h) (fun E ce q9 u_2 t H locs ht hvm hpx hBX hz1 hk1 hS hce hv9 hcl => ?_) (fun r u_2 t H locs ht hvm hw hB hz1 hk1 hS => ?_)
  · have hne : ¬ q_1.1 = 0 := xnm_ne hBX.1
    rw [if_neg hne] at hm
    have hX9 := hBX.1
    have hB := hBX.2
    have hP : va_P (DG G) clP3 (wC G a T F U S D R M N P) H := by rw [← ht]; exact hB.1
    have hD : va_D A (wC G a T F U S D R M N P) := hB.2.weaken (fun _ p _ h => hFc p.1 h)
    simp only [Option.some.injEq, Prod.mk.injEq] at hm
    obtain ⟨rfl, rfl, rfl, rfl⟩ := hm
    subst hAe
    exact vx_out (fun x hx => (hout0 x hx).elim) hlocks hce hv9 hcl (fun t2 ht2 _ => ⟨(), trivial, ⟨hX9, by rw [ht2]; exact hP, hD⟩, hS.F ht2⟩) hS.2.2 (Nat.le_of_ble_eq_true rfl) (Nat.le_of_ble_eq_true rfl)
  · rw [if_pos hw.1] at hm
    rw [show r = rfF a q_1.2 from hw.2]
    have hP : va_P (DG G) clP3 (wC G a T F U S D R M N P) H := by rw [← ht]; exact hB.1
    have hD : va_D A (wC G a T F U S D R M N P) := hB.2.weaken (fun _ p _ h => hFc p.1 h)
    refine W.widen (k := 1) (n := 6) (Nat.le_of_ble_eq_true rfl) (Nat.le_of_ble_eq_true rfl) ?_
    obtain ⟨g_3, hm⟩ := ite_some hm
    rw [rfF_pos g_3]
    refine W.eq (g2 := F0 m 5 ls [.ref (a.2.1 (Int32.toNatClampNeg q_1.2))]) rfl ?_
    refine lv_pop hx hb dX11_functionNode_5 rfl ?_
    refine lv_aload_n hx hb dX11_functionNode_6 rfl (lv_at hl 0 rfl) ?_
    refine lv_iconst (v := 4) hx hb dX11_functionNode_7 (by decide) ?_
    refine lv_iload_n hx hb dX11_functionNode_8 rfl (lv_at hl 1 rfl) ?_
    obtain ⟨q_4, hq_4, hm⟩ := bind_some hm
    have hFc := free_all hD hS hA
    refine vx_calli (vx_runV (As := [.int 4, .int p1]) (rest := []) ⟨hx, hb, hml, hown, hts⟩ (k_X11_layLeaf l hfl G a T F U S D R M N P hlk 4 p1  q_4.1 q_4.2.1 q_4.2.2.1 q_4.2.2.2 hq_4 H.size) (cwV 2 hts (gV wm665 wm667 ws_p9 wm1 wm668) rfl rfl rfl (by decide +kernel) ⟨Nat.le_of_ble_eq_true rfl, Nat.le_of_ble_eq_true rfl⟩) (pre_v (pre_w hK hP hD hS hE hFc) (va_recv hK hP (ci := 10) (q0 := 0) rfl rfl)) rfl rfl hl.1 rfl (lv_room (Nat.le_of_ble_eq_true rfl)) dX11_functionNode_9 ⟨Nat.le_of_ble_eq_true rfl, Nat.le_of_ble_eq_true rfl⟩) hS (fun q _ h => hFc q h) hFc (fun q _ h => hFc q h) (fun E ce q9 u_5 t H locs ht hvm hpx hBX hz1 hk1 hS hce hv9 hcl => ?_) (fun r u_5 t H locs ht hvm hw hB hz1 hk1 hS => ?_)
    · have hne : ¬ q_4.1 = 0 := xnm_ne hBX.1
      rw [if_neg hne] at hm
      have hX9 := hBX.1
      have hB := hBX.2
      have hP : va_P (DG G) clP3 (wC G a q_4.2.2.1 F U S D R M q_4.2.2.2 P) H := by rw [← ht]; exact hB.1
      have hD : va_D A (wC G a q_4.2.2.1 F U S D R M q_4.2.2.2 P) := hB.2.weaken (fun _ p _ h => hFc p.1 h)
      simp only [Option.some.injEq, Prod.mk.injEq] at hm
      obtain ⟨rfl, rfl, rfl, rfl⟩ := hm
      subst hAe
      exact vx_out (fun x hx => (hout0 x hx).elim) hlocks hce hv9 hcl (fun t2 ht2 _ => ⟨(), trivial, ⟨hX9, by rw [ht2]; exact hP, hD⟩, hS.F ht2⟩) hS.2.2 (Nat.le_of_ble_eq_true rfl) (Nat.le_of_ble_eq_true rfl)
    · rw [if_pos hw.1] at hm
      rw [show r = q_4.2.1 from hw.2]
      have hP : va_P (DG G) clP3 (wC G a q_4.2.2.1 F U S D R M q_4.2.2.2 P) H := by rw [← ht]; exact hB.1
      have hD : va_D A (wC G a q_4.2.2.1 F U S D R M q_4.2.2.2 P) := hB.2.weaken (fun _ p _ h => hFc p.1 h)
      refine W.widen (k := 2) (n := 12) (Nat.le_of_ble_eq_true rfl) (Nat.le_of_ble_eq_true rfl) ?_
      simp only [Option.some.injEq, Prod.mk.injEq] at hm
      obtain ⟨rfl, rfl, rfl, rfl⟩ := hm
      subst hAe
      refine W.widen (k := 2) (n := 12) (Nat.le_of_ble_eq_true rfl) (Nat.le_of_ble_eq_true rfl) ?_
      exact vx_ret (W.iret (v := q_4.2.1) hx hb hr (fun t ht hW => ⟨⟨q_4.2.1, (), rfl, ⟨rfl, rfl⟩, ⟨by rw [ht]; exact hP, hD⟩⟩, hS.F ht⟩) hS.2.2 dX11_functionNode_12 hlocks)
def f_X11_addData (S : SS)  : Option (Int32 × Int32 × SS) := (if S.1 < 6 then (Option.bind (g_X7_enterData S) (fun q_2 => some (0, q_2.1, q_2.2))) else some (2, 0, S))
set_option maxHeartbeats 2000000 in
set_option maxRecDepth 100000 in
theorem k_X11_addData (l : Launch) (hfl : l.stackTraces = false) (G : GC) (a : AS) (T : TS) (F : FS) (U : US) (S : SS) (D : DS) (R : RS) (M : MS) (N : NS) (P : PS) (hlk : lkA a D.1.toNatClampNeg D.2.1.toNatClampNeg)  (k9 : Int32) (r9 : Int32) (S9 : SS) (hm : f_X11_addData S = some (k9, r9, S9)) (sz : Nat) : vx_Met l yX11_addData (Cond.code yX11_addData cX11_addData 1 (some .int) :: W0) ({ frames := 6, cells := 1, slots := 6, locals := 82 }) (va_Pc [.ref (a.1 0)] (WD G (wC G a T F U S D R M N P) sz)) (va_Qi (S := Unit) (fun r _ => k9 = 0 ∧ r = r9) (fun _ t => PW G (va_A (wC G a T F U S D R M N P) sz) (wC G a T F U S9 D R M N P) t) (va_A (wC G a T F U S D R M N P) sz)) (vx_X (fun _ : Unit => True) (fun (E : String) (_ : Unit) (t : State) => xnm k9 = some E ∧ PW G (va_A (wC G a T F U S D R M N P) sz) (wC G a T F U S9 D R M N P) t) (va_A (wC G a T F U S D R M N P) sz)) 1 6 (va_A (wC G a T F U S D R M N P) sz) := by
  rw [f_X11_addData] at hm
  refine vx_ofW (cc := cX11_addData) (maxL := 1) (ret := (some .int)) (by decide) rfl ?_
  intro p e s m args below meth c s₁ B hml hout0 hv
  obtain ⟨rfl, hsz, hP, hK, hD0, hE⟩ := hv
  have hx := B.exec
  have hb := B.bytes
  have hr := B.returns
  have hts := w0_tail B.pre
  have hown : s.vm.findClass RX11 = some m.cls := findClass_of_methodNamed B.named
  have hlocks := B.notSynchronized
  have hD := hD0.self (sz := sz)
  obtain ⟨A, hAe⟩ : ∃ A, (va_A (wC G a T F U S D R M N P) sz) = A := ⟨_, rfl⟩
  rw [hAe] at hD hE
  have hA : ∀ q : Nat, s.heap.size ≤ q → A q := fun q h => by rw [← hAe]; exact Or.inr (by rw [← hsz]; exact h)
  have hS : va_S A s.heap s.heap [] := va_S.rf
  obtain ⟨H, hHe⟩ : ∃ H : Heap, H = s.heap := ⟨_, rfl⟩
  have hP : va_P (DG G) clP3 (wC G a T F U S D R M N P) H := by rw [hHe]; exact hP
  have hS : va_S A s.heap H [] := by rw [hHe]; exact hS
  have hl := lv_entry ([.ref (a.1 0)]) (n := 1) (Nat.le_of_ble_eq_true rfl)
  rw [lg_entry_eq, ← hHe]
  generalize (lg_sl ([.ref (a.1 0)]) ++ List.replicate (1 - (lg_sl ([.ref (a.1 0)])).length) Slot.unset).toArray = ls at hl ⊢
  have hl : lv_has ls 1 [(0, .ref (a.1 0))] := hl
  refine lv_aload_n hx hb dX11_addData_0 rfl (lv_at hl 0 rfl) ?_
  refine va_get (D := DG G) (ci := 10) (v := .ref (a.1 13)) (C := RX11) (T := TX11) (N := 10) hx hb hts inW_X11 hown hK hP 0 rfl rfl 2 (by decide) (hts _ wm286) (fun _ h9 => h9) rfl dX11_addData_1 ?_
  refine va_getN (D := DG G) (ci := 6) (v := .int S.1) (C := RX7) (T := TX7) (N := 10) hx hb hts inW_X7 hown hK hP 13 rfl rfl 8 (by decide) (va_Nw.use rfl (hE.1 _ nw104)) (fun _ h9 => h9) rfl dX11_addData_4 ?_
  refine lv_bipush (v := 6) hx hb dX11_addData_7 (by decide) ?_
  refine lv_icmp_lt (tgt := 22) hx hb dX11_addData_9 (by decide) (fun c_1 => ?_) (fun c_1 => ?_)
  · rw [if_pos c_1] at hm
    refine lv_aload_n hx hb dX11_addData_22 rfl (lv_at hl 0 rfl) ?_
    refine va_get (D := DG G) (ci := 10) (v := .ref (a.1 13)) (C := RX11) (T := TX11) (N := 10) hx hb hts inW_X11 hown hK hP 0 rfl rfl 2 (by decide) (hts _ wm286) (fun _ h9 => h9) rfl dX11_addData_23 ?_
    obtain ⟨q_2, hq_2, hm⟩ := bind_some hm
    have hFc := free_all hD hS hA
    refine va_calli (va_runV (As := []) (rest := []) ⟨hx, hb, hml, hown, hts⟩ (K_X7_enterData l hfl G a T F U S D R M N P   q_2.1 q_2.2 hq_2 H.size) (cwV 0 hts (gV wm783 wm784 wm785 wm4 wm786) rfl rfl rfl (by decide +kernel) ⟨Nat.le_of_ble_eq_true rfl, Nat.le_of_ble_eq_true rfl⟩) (pre_v (pre_w hK hP hD hS hE hFc) (va_recv hK hP (ci := 6) (q0 := 13) rfl rfl)) rfl rfl hl.1 rfl (lv_room (Nat.le_of_ble_eq_true rfl)) dX11_addData_26 ⟨Nat.le_of_ble_eq_true rfl, Nat.le_of_ble_eq_true rfl⟩) hS (fun q _ h => hFc q h) hFc (fun r u t H locs ht hvm hw hB hz1 hk1 hS => ?_)
    rw [show r = q_2.1 from hw]
    have hP : va_P (DG G) clP3 (wC G a T F U q_2.2 D R M N P) H := by rw [← ht]; exact hB.1
    have hD : va_D A (wC G a T F U q_2.2 D R M N P) := hB.2.weaken (fun _ p _ h => hFc p.1 h)
    clear hB hFc hw hk1
    refine W.widen (k := 0) (n := 0) (Nat.le_of_ble_eq_true rfl) (Nat.le_of_ble_eq_true rfl) ?_
    simp only [Option.some.injEq, Prod.mk.injEq] at hm
    obtain ⟨rfl, rfl, rfl⟩ := hm
    subst hAe
    refine W.widen (k := 1) (n := 6) (Nat.le_of_ble_eq_true rfl) (Nat.le_of_ble_eq_true rfl) ?_
    exact vx_ret (W.iret (v := q_2.1) hx hb hr (fun t ht hW => ⟨⟨q_2.1, (), rfl, ⟨rfl, rfl⟩, ⟨by rw [ht]; exact hP, hD⟩⟩, hS.F ht⟩) hS.2.2 dX11_addData_29 hlocks)
  · rw [if_neg c_1] at hm
    simp only [Option.some.injEq, Prod.mk.injEq] at hm
    obtain ⟨rfl, rfl, rfl⟩ := hm
    subst hAe
    obtain ⟨sa, hsa⟩ := hE.2.1 _ stm12
    exact vx_throwS (names := ["java/lang/RuntimeException", "java/lang/Exception"]) (A := _) (free := _) hx hb hfl hown (by decide +kernel) (by decide +kernel) (hts _ wm669) (hts _ wm14) hsa (xX11_113_hat hts hE) xX11_113_good (EV.un hE) (EV.su hE) hS (hl.1.trans hml.symm) dX11_addData_12 dX11_addData_15 dX11_addData_16 dX11_addData_18 dX11_addData_21 (fun x hx => (hout0 x hx).elim) (Nat.le_of_ble_eq_true rfl) (Nat.le_of_ble_eq_true rfl) (Nat.le_of_ble_eq_true rfl) (Nat.le_of_ble_eq_true rfl) hlocks (fun t ha hz hk => ⟨(), trivial, ⟨rfl, va_Pgrow hP hk, hD⟩, xF hS hz hk⟩) hS.2.2 (Nat.le_of_ble_eq_true rfl) (Nat.le_of_ble_eq_true rfl)
def f_X11_addConstructor (T : TS) (S : SS) (D : DS) (p1 : Int32) (p2 : Int32) (p3 : Int32) (p4 : Int32) (p5 : Int32) : Option (Int32 × Int32 × TS × SS) := (if p2 < 0 then some (1, 0, T, S) else (if p2 ≤ 3 then (Option.bind (g_X7_hasData S p1) (fun q_3 => (if q_3 = 0 then some (4, 0, T, S) else (if p2 < 1 then (if p2 < 2 then (if p2 < 3 then (if 16 ≤ S.2.1 then some (2, 0, T, S) else (Option.bind (g_X7_wasSplit S p1) (fun q_9 => (if q_9 = 0 then (if D.2.2 = 0 then (Option.bind (g_X7_enterConstructor T S p1 p2 p3 p4 p5) (fun q_12 => some (0, q_12.1, q_12.2.1, q_12.2.2))) else some (2, 0, T, S)) else some (2, 0, T, S))))) else (Option.bind (g_X7_hasData S p5) (fun q_13 => (if q_13 = 0 then some (4, 0, T, S) else (if 16 ≤ S.2.1 then some (2, 0, T, S) else (Option.bind (g_X7_wasSplit S p1) (fun q_16 => (if q_16 = 0 then (if D.2.2 = 0 then (Option.bind (g_X7_enterConstructor T S p1 p2 p3 p4 p5) (fun q_19 => some (0, q_19.1, q_19.2.1, q_19.2.2))) else some (2, 0, T, S)) else some (2, 0, T, S))))))))) else (Option.bind (g_X7_hasData S p4) (fun q_20 => (if q_20 = 0 then some (4, 0, T, S) else (if p2 < 3 then (if 16 ≤ S.2.1 then some (2, 0, T, S) else (Option.bind (g_X7_wasSplit S p1) (fun q_24 => (if q_24 = 0 then (if D.2.2 = 0 then (Option.bind (g_X7_enterConstructor T S p1 p2 p3 p4 p5) (fun q_27 => some (0, q_27.1, q_27.2.1, q_27.2.2))) else some (2, 0, T, S)) else some (2, 0, T, S))))) else (Option.bind (g_X7_hasData S p5) (fun q_28 => (if q_28 = 0 then some (4, 0, T, S) else (if 16 ≤ S.2.1 then some (2, 0, T, S) else (Option.bind (g_X7_wasSplit S p1) (fun q_31 => (if q_31 = 0 then (if D.2.2 = 0 then (Option.bind (g_X7_enterConstructor T S p1 p2 p3 p4 p5) (fun q_34 => some (0, q_34.1, q_34.2.1, q_34.2.2))) else some (2, 0, T, S)) else some (2, 0, T, S))))))))))))) else (Option.bind (g_X7_hasData S p3) (fun q_35 => (if q_35 = 0 then some (4, 0, T, S) else (if p2 < 2 then (if p2 < 3 then (if 16 ≤ S.2.1 then some (2, 0, T, S) else (Option.bind (g_X7_wasSplit S p1) (fun q_40 => (if q_40 = 0 then (if D.2.2 = 0 then (Option.bind (g_X7_enterConstructor T S p1 p2 p3 p4 p5) (fun q_43 => some (0, q_43.1, q_43.2.1, q_43.2.2))) else some (2, 0, T, S)) else some (2, 0, T, S))))) else (Option.bind (g_X7_hasData S p5) (fun q_44 => (if q_44 = 0 then some (4, 0, T, S) else (if 16 ≤ S.2.1 then some (2, 0, T, S) else (Option.bind (g_X7_wasSplit S p1) (fun q_47 => (if q_47 = 0 then (if D.2.2 = 0 then (Option.bind (g_X7_enterConstructor T S p1 p2 p3 p4 p5) (fun q_50 => some (0, q_50.1, q_50.2.1, q_50.2.2))) else some (2, 0, T, S)) else some (2, 0, T, S))))))))) else (Option.bind (g_X7_hasData S p4) (fun q_51 => (if q_51 = 0 then some (4, 0, T, S) else (if p2 < 3 then (if 16 ≤ S.2.1 then some (2, 0, T, S) else (Option.bind (g_X7_wasSplit S p1) (fun q_55 => (if q_55 = 0 then (if D.2.2 = 0 then (Option.bind (g_X7_enterConstructor T S p1 p2 p3 p4 p5) (fun q_58 => some (0, q_58.1, q_58.2.1, q_58.2.2))) else some (2, 0, T, S)) else some (2, 0, T, S))))) else (Option.bind (g_X7_hasData S p5) (fun q_59 => (if q_59 = 0 then some (4, 0, T, S) else (if 16 ≤ S.2.1 then some (2, 0, T, S) else (Option.bind (g_X7_wasSplit S p1) (fun q_62 => (if q_62 = 0 then (if D.2.2 = 0 then (Option.bind (g_X7_enterConstructor T S p1 p2 p3 p4 p5) (fun q_65 => some (0, q_65.1, q_65.2.1, q_65.2.2))) else some (2, 0, T, S)) else some (2, 0, T, S)))))))))))))))))))) else some (1, 0, T, S)))
set_option maxHeartbeats 2000000 in
set_option maxRecDepth 100000 in
theorem k_X11_addConstructor (l : Launch) (hfl : l.stackTraces = false) (G : GC) (a : AS) (T : TS) (F : FS) (U : US) (S : SS) (D : DS) (R : RS) (M : MS) (N : NS) (P : PS) (hlk : lkA a D.1.toNatClampNeg D.2.1.toNatClampNeg) (p1 : Int32) (p2 : Int32) (p3 : Int32) (p4 : Int32) (p5 : Int32) (k9 : Int32) (r9 : Int32) (T9 : TS) (S9 : SS) (hm : f_X11_addConstructor T S D p1 p2 p3 p4 p5 = some (k9, r9, T9, S9)) (sz : Nat) : vx_Met l yX11_addConstructor (Cond.code yX11_addConstructor cX11_addConstructor 7 (some .int) :: W0) ({ frames := 6, cells := 1, slots := 6, locals := 82 }) (va_Pc [.ref (a.1 0), .int p1, .int p2, .int p3, .int p4, .int p5] (WD G (wC G a T F U S D R M N P) sz)) (va_Qi (S := Unit) (fun r _ => k9 = 0 ∧ r = r9) (fun _ t => PW G (va_A (wC G a T F U S D R M N P) sz) (wC G a T9 F U S9 D R M N P) t) (va_A (wC G a T F U S D R M N P) sz)) (vx_X (fun _ : Unit => True) (fun (E : String) (_ : Unit) (t : State) => xnm k9 = some E ∧ PW G (va_A (wC G a T F U S D R M N P) sz) (wC G a T9 F U S9 D R M N P) t) (va_A (wC G a T F U S D R M N P) sz)) 1 6 (va_A (wC G a T F U S D R M N P) sz) := by
  rw [f_X11_addConstructor] at hm
  refine vx_ofW (cc := cX11_addConstructor) (maxL := 7) (ret := (some .int)) (by decide) rfl ?_
  intro p e s m args below meth c s₁ B hml hout0 hv
  obtain ⟨rfl, hsz, hP, hK, hD0, hE⟩ := hv
  have hx := B.exec
  have hb := B.bytes
  have hr := B.returns
  have hts := w0_tail B.pre
  have hown : s.vm.findClass RX11 = some m.cls := findClass_of_methodNamed B.named
  have hlocks := B.notSynchronized
  have hD := hD0.self (sz := sz)
  obtain ⟨A, hAe⟩ : ∃ A, (va_A (wC G a T F U S D R M N P) sz) = A := ⟨_, rfl⟩
  rw [hAe] at hD hE
  have hA : ∀ q : Nat, s.heap.size ≤ q → A q := fun q h => by rw [← hAe]; exact Or.inr (by rw [← hsz]; exact h)
  have hS : va_S A s.heap s.heap [] := va_S.rf
  obtain ⟨H, hHe⟩ : ∃ H : Heap, H = s.heap := ⟨_, rfl⟩
  have hP : va_P (DG G) clP3 (wC G a T F U S D R M N P) H := by rw [hHe]; exact hP
  have hS : va_S A s.heap H [] := by rw [hHe]; exact hS
  have hl := lv_entry ([.ref (a.1 0), .int p1, .int p2, .int p3, .int p4, .int p5]) (n := 7) (Nat.le_of_ble_eq_true rfl)
  rw [lg_entry_eq, ← hHe]
  generalize (lg_sl ([.ref (a.1 0), .int p1, .int p2, .int p3, .int p4, .int p5]) ++ List.replicate (7 - (lg_sl ([.ref (a.1 0), .int p1, .int p2, .int p3, .int p4, .int p5])).length) Slot.unset).toArray = ls at hl ⊢
  have hl : lv_has ls 7 [(0, .ref (a.1 0)), (1, .int p1), (2, .int p2), (3, .int p3), (4, .int p4), (5, .int p5)] := hl
  refine lv_iload_n hx hb dX11_addConstructor_0 rfl (lv_at hl 2 rfl) ?_
  refine lv_if_lt (tgt := 9) hx hb dX11_addConstructor_1 (by decide) (fun c_1 => ?_) (fun c_1 => ?_)
  · rw [if_pos c_1] at hm
    simp only [Option.some.injEq, Prod.mk.injEq] at hm
    obtain ⟨rfl, rfl, rfl, rfl⟩ := hm
    subst hAe
    obtain ⟨sa, hsa⟩ := hE.2.1 _ stm13
    exact vx_throwS (names := ["java/lang/RuntimeException", "java/lang/Exception"]) (A := _) (free := _) hx hb hfl hown (by decide +kernel) (by decide +kernel) (hts _ wm649) (hts _ wm15) hsa (xX11_74_hat hts hE) xX11_74_good (EV.un hE) (EV.su hE) hS (hl.1.trans hml.symm) dX11_addConstructor_9 dX11_addConstructor_12 dX11_addConstructor_13 dX11_addConstructor_15 dX11_addConstructor_18 (fun x hx => (hout0 x hx).elim) (Nat.le_of_ble_eq_true rfl) (Nat.le_of_ble_eq_true rfl) (Nat.le_of_ble_eq_true rfl) (Nat.le_of_ble_eq_true rfl) hlocks (fun t ha hz hk => ⟨(), trivial, ⟨rfl, va_Pgrow hP hk, hD⟩, xF hS hz hk⟩) hS.2.2 (Nat.le_of_ble_eq_true rfl) (Nat.le_of_ble_eq_true rfl)
  · rw [if_neg c_1] at hm
    refine lv_iload_n hx hb dX11_addConstructor_4 rfl (lv_at hl 2 rfl) ?_
    refine lv_iconst (v := 3) hx hb dX11_addConstructor_5 (by decide) ?_
    refine lv_icmp_le (tgt := 19) hx hb dX11_addConstructor_6 (by decide) (fun c_2 => ?_) (fun c_2 => ?_)
    · rw [if_pos c_2] at hm
      refine lv_aload_n hx hb dX11_addConstructor_19 rfl (lv_at hl 0 rfl) ?_
      refine va_get (D := DG G) (ci := 10) (v := .ref (a.1 13)) (C := RX11) (T := TX11) (N := 10) hx hb hts inW_X11 hown hK hP 0 rfl rfl 2 (by decide) (hts _ wm286) (fun _ h9 => h9) rfl dX11_addConstructor_20 ?_
      refine lv_iload_n hx hb dX11_addConstructor_23 rfl (lv_at hl 1 rfl) ?_
      obtain ⟨q_3, hq_3, hm⟩ := bind_some hm
      have hFc := free_all hD hS hA
      refine va_calli (va_runV (As := [.int p1]) (rest := []) ⟨hx, hb, hml, hown, hts⟩ (K_X7_hasData l hfl G a T F U S D R M N P p1  q_3 hq_3 H.size) (cwV 1 hts (gV wm753 wm754 wm755 wm4 wm756) rfl rfl rfl (by decide +kernel) ⟨Nat.le_of_ble_eq_true rfl, Nat.le_of_ble_eq_true rfl⟩) (pre_v (pre_w hK hP hD hS hE hFc) (va_recv hK hP (ci := 6) (q0 := 13) rfl rfl)) rfl rfl hl.1 rfl (lv_room (Nat.le_of_ble_eq_true rfl)) dX11_addConstructor_24 ⟨Nat.le_of_ble_eq_true rfl, Nat.le_of_ble_eq_true rfl⟩) hS (fun q _ h => hFc q h) hFc (fun r u t H locs ht hvm hw hB hz1 hk1 hS => ?_)
      rw [show r = q_3 from hw]
      have hP : va_P (DG G) clP3 (wC G a T F U S D R M N P) H := by rw [← ht]; exact hB.1
      have hD : va_D A (wC G a T F U S D R M N P) := hB.2.weaken (fun _ p _ h => hFc p.1 h)
      clear hB hFc hw hk1
      refine W.widen (k := 0) (n := 0) (Nat.le_of_ble_eq_true rfl) (Nat.le_of_ble_eq_true rfl) ?_
      refine lv_if_eq (tgt := 84) hx hb dX11_addConstructor_27 (by decide) (fun c_4 => ?_) (fun c_4 => ?_)
      · rw [if_pos c_4] at hm
        refine lv_iconst (v := 0) hx hb dX11_addConstructor_84 (by decide) ?_
        refine lv_istore (lv' := [(6, .int 0), (0, .ref (a.1 0)), (1, .int p1), (2, .int p2), (3, .int p3), (4, .int p4), (5, .int p5)]) hx hb dX11_addConstructor_85 hl (by decide) rfl (fun ls hl => ?_)
        refine lv_iload hx hb dX11_addConstructor_87 (lv_at hl 0 rfl) ?_
        refine lv_if_ne (tgt := 102) hx hb dX11_addConstructor_89 (by decide) (fun c => absurd (by decide) c) (fun _ => ?_)
        simp only [Option.some.injEq, Prod.mk.injEq] at hm
        obtain ⟨rfl, rfl, rfl, rfl⟩ := hm
        subst hAe
        obtain ⟨sa, hsa⟩ := hE.2.1 _ stm10
        exact tx_throwSW (Y1 := "java/lang/RuntimeException") (r := ["java/lang/Exception"]) (ix := 13) (rx := prog_32_method_4_code) (A := _) (free := _) hx hb hfl (by decide +kernel) (by decide +kernel) (by decide +kernel) (by decide +kernel) hown (by decide +kernel) (by decide +kernel) (by decide +kernel) (hts _ wm576) (hts _ wm16) hsa (xX11_95_hat hts hE) xX11_95_good (EV.un hE) (EV.su hE) hS (hl.1.trans hml.symm) dX11_addConstructor_92 dX11_addConstructor_95 dX11_addConstructor_96 (Or.inl ⟨rfl, rfl⟩) dX11_addConstructor_98 dX11_addConstructor_101 (fun x hx => (hout0 x hx).elim) (Nat.le_of_ble_eq_true rfl) (Nat.le_of_ble_eq_true rfl) (Nat.le_of_ble_eq_true rfl) (Nat.le_of_ble_eq_true rfl) hlocks (fun t ha hz hk => ⟨(), trivial, ⟨rfl, va_Pgrow hP hk, hD⟩, xF hS hz hk⟩) hS.2.2 (Nat.le_of_ble_eq_true rfl) (Nat.le_of_ble_eq_true rfl)
      · rw [if_neg c_4] at hm
        refine lv_iload_n hx hb dX11_addConstructor_30 rfl (lv_at hl 2 rfl) ?_
        refine lv_iconst (v := 1) hx hb dX11_addConstructor_31 (by decide) ?_
        refine lv_icmp_lt (tgt := 46) hx hb dX11_addConstructor_32 (by decide) (fun c_5 => ?_) (fun c_5 => ?_)
        · rw [if_pos c_5] at hm
          refine lv_iload_n hx hb dX11_addConstructor_46 rfl (lv_at hl 2 rfl) ?_
          refine lv_iconst (v := 2) hx hb dX11_addConstructor_47 (by decide) ?_
          refine lv_icmp_lt (tgt := 63) hx hb dX11_addConstructor_48 (by decide) (fun c_6 => ?_) (fun c_6 => ?_)
          · rw [if_pos c_6] at hm
            refine lv_iload_n hx hb dX11_addConstructor_63 rfl (lv_at hl 2 rfl) ?_
            refine lv_iconst (v := 3) hx hb dX11_addConstructor_64 (by decide) ?_
            refine lv_icmp_lt (tgt := 80) hx hb dX11_addConstructor_65 (by decide) (fun c_7 => ?_) (fun c_7 => ?_)
            · rw [if_pos c_7] at hm
              refine lv_iconst (v := 1) hx hb dX11_addConstructor_80 (by decide) ?_
              refine lv_goto (tgt := 85) hx hb dX11_addConstructor_81 (by decide) ?_
              refine lv_istore (lv' := [(6, .int 1), (0, .ref (a.1 0)), (1, .int p1), (2, .int p2), (3, .int p3), (4, .int p4), (5, .int p5)]) hx hb dX11_addConstructor_85 hl (by decide) rfl (fun ls hl => ?_)
              refine lv_iload hx hb dX11_addConstructor_87 (lv_at hl 0 rfl) ?_
              refine lv_if_ne (tgt := 102) hx hb dX11_addConstructor_89 (by decide) (fun _ => ?_) (fun c => absurd c (by decide))
              refine lv_aload_n hx hb dX11_addConstructor_102 rfl (lv_at hl 1 rfl) ?_
              refine va_get (D := DG G) (ci := 10) (v := .ref (a.1 13)) (C := RX11) (T := TX11) (N := 10) hx hb hts inW_X11 hown hK hP 0 rfl rfl 2 (by decide) (hts _ wm286) (fun _ h9 => h9) rfl dX11_addConstructor_103 ?_
              refine va_getN (D := DG G) (ci := 6) (v := .int S.2.1) (C := RX7) (T := TX7) (N := 10) hx hb hts inW_X7 hown hK hP 13 rfl rfl 9 (by decide) (va_Nw.use rfl (hE.1 _ nw107)) (fun _ h9 => h9) rfl dX11_addConstructor_106 ?_
              refine lv_bipush (v := 16) hx hb dX11_addConstructor_109 (by decide) ?_
              refine lv_icmp_ge (tgt := 135) hx hb dX11_addConstructor_111 (by decide) (fun c_8 => ?_) (fun c_8 => ?_)
              · rw [if_pos c_8] at hm
                simp only [Option.some.injEq, Prod.mk.injEq] at hm
                obtain ⟨rfl, rfl, rfl, rfl⟩ := hm
                subst hAe
                obtain ⟨sa, hsa⟩ := hE.2.1 _ stm14
                exact vx_throwS (names := ["java/lang/RuntimeException", "java/lang/Exception"]) (A := _) (free := _) hx hb hfl hown (by decide +kernel) (by decide +kernel) (hts _ wm669) (hts _ wm14) hsa (xX11_113_hat hts hE) xX11_113_good (EV.un hE) (EV.su hE) hS (hl.1.trans hml.symm) dX11_addConstructor_135 dX11_addConstructor_138 dX11_addConstructor_139 dX11_addConstructor_141 dX11_addConstructor_144 (fun x hx => (hout0 x hx).elim) (Nat.le_of_ble_eq_true rfl) (Nat.le_of_ble_eq_true rfl) (Nat.le_of_ble_eq_true rfl) (Nat.le_of_ble_eq_true rfl) hlocks (fun t ha hz hk => ⟨(), trivial, ⟨rfl, va_Pgrow hP hk, hD⟩, xF hS hz hk⟩) hS.2.2 (Nat.le_of_ble_eq_true rfl) (Nat.le_of_ble_eq_true rfl)
              · rw [if_neg c_8] at hm
                refine lv_aload_n hx hb dX11_addConstructor_114 rfl (lv_at hl 1 rfl) ?_
                refine va_get (D := DG G) (ci := 10) (v := .ref (a.1 13)) (C := RX11) (T := TX11) (N := 10) hx hb hts inW_X11 hown hK hP 0 rfl rfl 2 (by decide) (hts _ wm286) (fun _ h9 => h9) rfl dX11_addConstructor_115 ?_
                refine lv_iload_n hx hb dX11_addConstructor_118 rfl (lv_at hl 2 rfl) ?_
                obtain ⟨q_9, hq_9, hm⟩ := bind_some hm
                have hFc := free_all hD hS hA
                refine va_calli (va_runV (As := [.int p1]) (rest := []) ⟨hx, hb, hml, hown, hts⟩ (K_X7_wasSplit l hfl G a T F U S D R M N P p1  q_9 hq_9 H.size) (cwV 1 hts (gV wm795 wm796 wm797 wm4 wm798) rfl rfl rfl (by decide +kernel) ⟨Nat.le_of_ble_eq_true rfl, Nat.le_of_ble_eq_true rfl⟩) (pre_v (pre_w hK hP hD hS hE hFc) (va_recv hK hP (ci := 6) (q0 := 13) rfl rfl)) rfl rfl hl.1 rfl (lv_room (Nat.le_of_ble_eq_true rfl)) dX11_addConstructor_119 ⟨Nat.le_of_ble_eq_true rfl, Nat.le_of_ble_eq_true rfl⟩) hS (fun q _ h => hFc q h) hFc (fun r u t H locs ht hvm hw hB hz1 hk1 hS => ?_)
                rw [show r = q_9 from hw]
                have hP : va_P (DG G) clP3 (wC G a T F U S D R M N P) H := by rw [← ht]; exact hB.1
                have hD : va_D A (wC G a T F U S D R M N P) := hB.2.weaken (fun _ p _ h => hFc p.1 h)
                clear hB hFc hw hk1
                refine W.widen (k := 0) (n := 0) (Nat.le_of_ble_eq_true rfl) (Nat.le_of_ble_eq_true rfl) ?_
                refine lv_if_ne (tgt := 135) hx hb dX11_addConstructor_122 (by decide) (fun c_10 => ?_) (fun c_10 => ?_)
                · rw [if_neg c_10] at hm
                  simp only [Option.some.injEq, Prod.mk.injEq] at hm
                  obtain ⟨rfl, rfl, rfl, rfl⟩ := hm
                  subst hAe
                  obtain ⟨sa, hsa⟩ := hE.2.1 _ stm14
                  exact vx_throwS (names := ["java/lang/RuntimeException", "java/lang/Exception"]) (A := _) (free := _) hx hb hfl hown (by decide +kernel) (by decide +kernel) (hts _ wm669) (hts _ wm14) hsa (xX11_113_hat hts hE) xX11_113_good (EV.un hE) (EV.su hE) hS (hl.1.trans hml.symm) dX11_addConstructor_135 dX11_addConstructor_138 dX11_addConstructor_139 dX11_addConstructor_141 dX11_addConstructor_144 (fun x hx => (hout0 x hx).elim) (Nat.le_of_ble_eq_true rfl) (Nat.le_of_ble_eq_true rfl) (Nat.le_of_ble_eq_true rfl) (Nat.le_of_ble_eq_true rfl) hlocks (fun t ha hz hk => ⟨(), trivial, ⟨rfl, va_Pgrow hP hk, hD⟩, xF hS hz hk⟩) hS.2.2 (Nat.le_of_ble_eq_true rfl) (Nat.le_of_ble_eq_true rfl)
                · rw [if_pos c_10] at hm
                  refine lv_aload_n hx hb dX11_addConstructor_125 rfl (lv_at hl 1 rfl) ?_
                  refine va_get (D := DG G) (ci := 10) (v := .ref (a.1 21)) (C := RX11) (T := TX11) (N := 10) hx hb hts inW_X11 hown hK hP 0 rfl rfl 3 (by decide) (hts _ wm287) (fun _ h9 => h9) rfl dX11_addConstructor_126 ?_
                  refine va_getN (D := DG G) (ci := 0) (v := .int D.2.2) (C := RX0) (T := TX0) (N := 8) hx hb hts inW_X0 hown hK hP 21 rfl rfl 7 (by decide) (va_Nw.use rfl (hE.1 _ nw151)) (fun _ h9 => h9) rfl dX11_addConstructor_129 ?_
                  refine lv_if_eq (tgt := 145) hx hb dX11_addConstructor_132 (by decide) (fun c_11 => ?_) (fun c_11 => ?_)
                  · rw [if_pos c_11] at hm
                    refine lv_aload_n hx hb dX11_addConstructor_145 rfl (lv_at hl 1 rfl) ?_
                    refine va_get (D := DG G) (ci := 10) (v := .ref (a.1 13)) (C := RX11) (T := TX11) (N := 10) hx hb hts inW_X11 hown hK hP 0 rfl rfl 2 (by decide) (hts _ wm286) (fun _ h9 => h9) rfl dX11_addConstructor_146 ?_
                    refine lv_iload_n hx hb dX11_addConstructor_149 rfl (lv_at hl 2 rfl) ?_
                    refine lv_iload_n hx hb dX11_addConstructor_150 rfl (lv_at hl 3 rfl) ?_
                    refine lv_iload_n hx hb dX11_addConstructor_151 rfl (lv_at hl 4 rfl) ?_
                    refine lv_iload hx hb dX11_addConstructor_152 (lv_at hl 5 rfl) ?_
                    refine lv_iload hx hb dX11_addConstructor_154 (lv_at hl 6 rfl) ?_
                    obtain ⟨q_12, hq_12, hm⟩ := bind_some hm
                    have hFc := free_all hD hS hA
                    refine va_calli (va_runV (As := [.int p1, .int p2, .int p3, .int p4, .int p5]) (rest := []) ⟨hx, hb, hml, hown, hts⟩ (K_X7_enterConstructor l hfl G a T F U S D R M N P p1 p2 p3 p4 p5  q_12.1 q_12.2.1 q_12.2.2 hq_12 H.size) (cwV 5 hts (gV wm801 wm802 wm803 wm4 wm804) rfl rfl rfl (by decide +kernel) ⟨Nat.le_of_ble_eq_true rfl, Nat.le_of_ble_eq_true rfl⟩) (pre_v (pre_w hK hP hD hS hE hFc) (va_recv hK hP (ci := 6) (q0 := 13) rfl rfl)) rfl rfl hl.1 rfl (lv_room (Nat.le_of_ble_eq_true rfl)) dX11_addConstructor_156 ⟨Nat.le_of_ble_eq_true rfl, Nat.le_of_ble_eq_true rfl⟩) hS (fun q _ h => hFc q h) hFc (fun r u t H locs ht hvm hw hB hz1 hk1 hS => ?_)
                    rw [show r = q_12.1 from hw]
                    have hP : va_P (DG G) clP3 (wC G a q_12.2.1 F U q_12.2.2 D R M N P) H := by rw [← ht]; exact hB.1
                    have hD : va_D A (wC G a q_12.2.1 F U q_12.2.2 D R M N P) := hB.2.weaken (fun _ p _ h => hFc p.1 h)
                    clear hB hFc hw hk1
                    refine W.widen (k := 0) (n := 0) (Nat.le_of_ble_eq_true rfl) (Nat.le_of_ble_eq_true rfl) ?_
                    simp only [Option.some.injEq, Prod.mk.injEq] at hm
                    obtain ⟨rfl, rfl, rfl, rfl⟩ := hm
                    subst hAe
                    refine W.widen (k := 1) (n := 6) (Nat.le_of_ble_eq_true rfl) (Nat.le_of_ble_eq_true rfl) ?_
                    exact vx_ret (W.iret (v := q_12.1) hx hb hr (fun t ht hW => ⟨⟨q_12.1, (), rfl, ⟨rfl, rfl⟩, ⟨by rw [ht]; exact hP, hD⟩⟩, hS.F ht⟩) hS.2.2 dX11_addConstructor_159 hlocks)
                  · rw [if_neg c_11] at hm
                    simp only [Option.some.injEq, Prod.mk.injEq] at hm
                    obtain ⟨rfl, rfl, rfl, rfl⟩ := hm
                    subst hAe
                    obtain ⟨sa, hsa⟩ := hE.2.1 _ stm14
                    exact vx_throwS (names := ["java/lang/RuntimeException", "java/lang/Exception"]) (A := _) (free := _) hx hb hfl hown (by decide +kernel) (by decide +kernel) (hts _ wm669) (hts _ wm14) hsa (xX11_113_hat hts hE) xX11_113_good (EV.un hE) (EV.su hE) hS (hl.1.trans hml.symm) dX11_addConstructor_135 dX11_addConstructor_138 dX11_addConstructor_139 dX11_addConstructor_141 dX11_addConstructor_144 (fun x hx => (hout0 x hx).elim) (Nat.le_of_ble_eq_true rfl) (Nat.le_of_ble_eq_true rfl) (Nat.le_of_ble_eq_true rfl) (Nat.le_of_ble_eq_true rfl) hlocks (fun t ha hz hk => ⟨(), trivial, ⟨rfl, va_Pgrow hP hk, hD⟩, xF hS hz hk⟩) hS.2.2 (Nat.le_of_ble_eq_true rfl) (Nat.le_of_ble_eq_true rfl)
            · rw [if_neg c_7] at hm
              refine lv_aload_n hx hb dX11_addConstructor_68 rfl (lv_at hl 0 rfl) ?_
              refine va_get (D := DG G) (ci := 10) (v := .ref (a.1 13)) (C := RX11) (T := TX11) (N := 10) hx hb hts inW_X11 hown hK hP 0 rfl rfl 2 (by decide) (hts _ wm286) (fun _ h9 => h9) rfl dX11_addConstructor_69 ?_
              refine lv_iload hx hb dX11_addConstructor_72 (lv_at hl 5 rfl) ?_
              obtain ⟨q_13, hq_13, hm⟩ := bind_some hm
              have hFc := free_all hD hS hA
              refine va_calli (va_runV (As := [.int p5]) (rest := []) ⟨hx, hb, hml, hown, hts⟩ (K_X7_hasData l hfl G a T F U S D R M N P p5  q_13 hq_13 H.size) (cwV 1 hts (gV wm753 wm754 wm755 wm4 wm756) rfl rfl rfl (by decide +kernel) ⟨Nat.le_of_ble_eq_true rfl, Nat.le_of_ble_eq_true rfl⟩) (pre_v (pre_w hK hP hD hS hE hFc) (va_recv hK hP (ci := 6) (q0 := 13) rfl rfl)) rfl rfl hl.1 rfl (lv_room (Nat.le_of_ble_eq_true rfl)) dX11_addConstructor_74 ⟨Nat.le_of_ble_eq_true rfl, Nat.le_of_ble_eq_true rfl⟩) hS (fun q _ h => hFc q h) hFc (fun r u t H locs ht hvm hw hB hz1 hk1 hS => ?_)
              rw [show r = q_13 from hw]
              have hP : va_P (DG G) clP3 (wC G a T F U S D R M N P) H := by rw [← ht]; exact hB.1
              have hD : va_D A (wC G a T F U S D R M N P) := hB.2.weaken (fun _ p _ h => hFc p.1 h)
              clear hB hFc hw hk1
              refine W.widen (k := 0) (n := 0) (Nat.le_of_ble_eq_true rfl) (Nat.le_of_ble_eq_true rfl) ?_
              refine lv_if_eq (tgt := 84) hx hb dX11_addConstructor_77 (by decide) (fun c_14 => ?_) (fun c_14 => ?_)
              · rw [if_pos c_14] at hm
                refine lv_iconst (v := 0) hx hb dX11_addConstructor_84 (by decide) ?_
                refine lv_istore (lv' := [(6, .int 0), (0, .ref (a.1 0)), (1, .int p1), (2, .int p2), (3, .int p3), (4, .int p4), (5, .int p5)]) hx hb dX11_addConstructor_85 hl (by decide) rfl (fun ls hl => ?_)
                refine lv_iload hx hb dX11_addConstructor_87 (lv_at hl 0 rfl) ?_
                refine lv_if_ne (tgt := 102) hx hb dX11_addConstructor_89 (by decide) (fun c => absurd (by decide) c) (fun _ => ?_)
                simp only [Option.some.injEq, Prod.mk.injEq] at hm
                obtain ⟨rfl, rfl, rfl, rfl⟩ := hm
                subst hAe
                obtain ⟨sa, hsa⟩ := hE.2.1 _ stm10
                exact tx_throwSW (Y1 := "java/lang/RuntimeException") (r := ["java/lang/Exception"]) (ix := 13) (rx := prog_32_method_4_code) (A := _) (free := _) hx hb hfl (by decide +kernel) (by decide +kernel) (by decide +kernel) (by decide +kernel) hown (by decide +kernel) (by decide +kernel) (by decide +kernel) (hts _ wm576) (hts _ wm16) hsa (xX11_95_hat hts hE) xX11_95_good (EV.un hE) (EV.su hE) hS (hl.1.trans hml.symm) dX11_addConstructor_92 dX11_addConstructor_95 dX11_addConstructor_96 (Or.inl ⟨rfl, rfl⟩) dX11_addConstructor_98 dX11_addConstructor_101 (fun x hx => (hout0 x hx).elim) (Nat.le_of_ble_eq_true rfl) (Nat.le_of_ble_eq_true rfl) (Nat.le_of_ble_eq_true rfl) (Nat.le_of_ble_eq_true rfl) hlocks (fun t ha hz hk => ⟨(), trivial, ⟨rfl, va_Pgrow hP hk, hD⟩, xF hS hz hk⟩) hS.2.2 (Nat.le_of_ble_eq_true rfl) (Nat.le_of_ble_eq_true rfl)
              · rw [if_neg c_14] at hm
                refine lv_iconst (v := 1) hx hb dX11_addConstructor_80 (by decide) ?_
                refine lv_goto (tgt := 85) hx hb dX11_addConstructor_81 (by decide) ?_
                refine lv_istore (lv' := [(6, .int 1), (0, .ref (a.1 0)), (1, .int p1), (2, .int p2), (3, .int p3), (4, .int p4), (5, .int p5)]) hx hb dX11_addConstructor_85 hl (by decide) rfl (fun ls hl => ?_)
                refine lv_iload hx hb dX11_addConstructor_87 (lv_at hl 0 rfl) ?_
                refine lv_if_ne (tgt := 102) hx hb dX11_addConstructor_89 (by decide) (fun _ => ?_) (fun c => absurd c (by decide))
                refine lv_aload_n hx hb dX11_addConstructor_102 rfl (lv_at hl 1 rfl) ?_
                refine va_get (D := DG G) (ci := 10) (v := .ref (a.1 13)) (C := RX11) (T := TX11) (N := 10) hx hb hts inW_X11 hown hK hP 0 rfl rfl 2 (by decide) (hts _ wm286) (fun _ h9 => h9) rfl dX11_addConstructor_103 ?_
                refine va_getN (D := DG G) (ci := 6) (v := .int S.2.1) (C := RX7) (T := TX7) (N := 10) hx hb hts inW_X7 hown hK hP 13 rfl rfl 9 (by decide) (va_Nw.use rfl (hE.1 _ nw107)) (fun _ h9 => h9) rfl dX11_addConstructor_106 ?_
                refine lv_bipush (v := 16) hx hb dX11_addConstructor_109 (by decide) ?_
                refine lv_icmp_ge (tgt := 135) hx hb dX11_addConstructor_111 (by decide) (fun c_15 => ?_) (fun c_15 => ?_)
                · rw [if_pos c_15] at hm
                  simp only [Option.some.injEq, Prod.mk.injEq] at hm
                  obtain ⟨rfl, rfl, rfl, rfl⟩ := hm
                  subst hAe
                  obtain ⟨sa, hsa⟩ := hE.2.1 _ stm14
                  exact vx_throwS (names := ["java/lang/RuntimeException", "java/lang/Exception"]) (A := _) (free := _) hx hb hfl hown (by decide +kernel) (by decide +kernel) (hts _ wm669) (hts _ wm14) hsa (xX11_113_hat hts hE) xX11_113_good (EV.un hE) (EV.su hE) hS (hl.1.trans hml.symm) dX11_addConstructor_135 dX11_addConstructor_138 dX11_addConstructor_139 dX11_addConstructor_141 dX11_addConstructor_144 (fun x hx => (hout0 x hx).elim) (Nat.le_of_ble_eq_true rfl) (Nat.le_of_ble_eq_true rfl) (Nat.le_of_ble_eq_true rfl) (Nat.le_of_ble_eq_true rfl) hlocks (fun t ha hz hk => ⟨(), trivial, ⟨rfl, va_Pgrow hP hk, hD⟩, xF hS hz hk⟩) hS.2.2 (Nat.le_of_ble_eq_true rfl) (Nat.le_of_ble_eq_true rfl)
                · rw [if_neg c_15] at hm
                  refine lv_aload_n hx hb dX11_addConstructor_114 rfl (lv_at hl 1 rfl) ?_
                  refine va_get (D := DG G) (ci := 10) (v := .ref (a.1 13)) (C := RX11) (T := TX11) (N := 10) hx hb hts inW_X11 hown hK hP 0 rfl rfl 2 (by decide) (hts _ wm286) (fun _ h9 => h9) rfl dX11_addConstructor_115 ?_
                  refine lv_iload_n hx hb dX11_addConstructor_118 rfl (lv_at hl 2 rfl) ?_
                  obtain ⟨q_16, hq_16, hm⟩ := bind_some hm
                  have hFc := free_all hD hS hA
                  refine va_calli (va_runV (As := [.int p1]) (rest := []) ⟨hx, hb, hml, hown, hts⟩ (K_X7_wasSplit l hfl G a T F U S D R M N P p1  q_16 hq_16 H.size) (cwV 1 hts (gV wm795 wm796 wm797 wm4 wm798) rfl rfl rfl (by decide +kernel) ⟨Nat.le_of_ble_eq_true rfl, Nat.le_of_ble_eq_true rfl⟩) (pre_v (pre_w hK hP hD hS hE hFc) (va_recv hK hP (ci := 6) (q0 := 13) rfl rfl)) rfl rfl hl.1 rfl (lv_room (Nat.le_of_ble_eq_true rfl)) dX11_addConstructor_119 ⟨Nat.le_of_ble_eq_true rfl, Nat.le_of_ble_eq_true rfl⟩) hS (fun q _ h => hFc q h) hFc (fun r u t H locs ht hvm hw hB hz1 hk1 hS => ?_)
                  rw [show r = q_16 from hw]
                  have hP : va_P (DG G) clP3 (wC G a T F U S D R M N P) H := by rw [← ht]; exact hB.1
                  have hD : va_D A (wC G a T F U S D R M N P) := hB.2.weaken (fun _ p _ h => hFc p.1 h)
                  clear hB hFc hw hk1
                  refine W.widen (k := 0) (n := 0) (Nat.le_of_ble_eq_true rfl) (Nat.le_of_ble_eq_true rfl) ?_
                  refine lv_if_ne (tgt := 135) hx hb dX11_addConstructor_122 (by decide) (fun c_17 => ?_) (fun c_17 => ?_)
                  · rw [if_neg c_17] at hm
                    simp only [Option.some.injEq, Prod.mk.injEq] at hm
                    obtain ⟨rfl, rfl, rfl, rfl⟩ := hm
                    subst hAe
                    obtain ⟨sa, hsa⟩ := hE.2.1 _ stm14
                    exact vx_throwS (names := ["java/lang/RuntimeException", "java/lang/Exception"]) (A := _) (free := _) hx hb hfl hown (by decide +kernel) (by decide +kernel) (hts _ wm669) (hts _ wm14) hsa (xX11_113_hat hts hE) xX11_113_good (EV.un hE) (EV.su hE) hS (hl.1.trans hml.symm) dX11_addConstructor_135 dX11_addConstructor_138 dX11_addConstructor_139 dX11_addConstructor_141 dX11_addConstructor_144 (fun x hx => (hout0 x hx).elim) (Nat.le_of_ble_eq_true rfl) (Nat.le_of_ble_eq_true rfl) (Nat.le_of_ble_eq_true rfl) (Nat.le_of_ble_eq_true rfl) hlocks (fun t ha hz hk => ⟨(), trivial, ⟨rfl, va_Pgrow hP hk, hD⟩, xF hS hz hk⟩) hS.2.2 (Nat.le_of_ble_eq_true rfl) (Nat.le_of_ble_eq_true rfl)
                  · rw [if_pos c_17] at hm
                    refine lv_aload_n hx hb dX11_addConstructor_125 rfl (lv_at hl 1 rfl) ?_
                    refine va_get (D := DG G) (ci := 10) (v := .ref (a.1 21)) (C := RX11) (T := TX11) (N := 10) hx hb hts inW_X11 hown hK hP 0 rfl rfl 3 (by decide) (hts _ wm287) (fun _ h9 => h9) rfl dX11_addConstructor_126 ?_
                    refine va_getN (D := DG G) (ci := 0) (v := .int D.2.2) (C := RX0) (T := TX0) (N := 8) hx hb hts inW_X0 hown hK hP 21 rfl rfl 7 (by decide) (va_Nw.use rfl (hE.1 _ nw151)) (fun _ h9 => h9) rfl dX11_addConstructor_129 ?_
                    refine lv_if_eq (tgt := 145) hx hb dX11_addConstructor_132 (by decide) (fun c_18 => ?_) (fun c_18 => ?_)
                    · rw [if_pos c_18] at hm
                      refine lv_aload_n hx hb dX11_addConstructor_145 rfl (lv_at hl 1 rfl) ?_
                      refine va_get (D := DG G) (ci := 10) (v := .ref (a.1 13)) (C := RX11) (T := TX11) (N := 10) hx hb hts inW_X11 hown hK hP 0 rfl rfl 2 (by decide) (hts _ wm286) (fun _ h9 => h9) rfl dX11_addConstructor_146 ?_
                      refine lv_iload_n hx hb dX11_addConstructor_149 rfl (lv_at hl 2 rfl) ?_
                      refine lv_iload_n hx hb dX11_addConstructor_150 rfl (lv_at hl 3 rfl) ?_
                      refine lv_iload_n hx hb dX11_addConstructor_151 rfl (lv_at hl 4 rfl) ?_
                      refine lv_iload hx hb dX11_addConstructor_152 (lv_at hl 5 rfl) ?_
                      refine lv_iload hx hb dX11_addConstructor_154 (lv_at hl 6 rfl) ?_
                      obtain ⟨q_19, hq_19, hm⟩ := bind_some hm
                      have hFc := free_all hD hS hA
                      refine va_calli (va_runV (As := [.int p1, .int p2, .int p3, .int p4, .int p5]) (rest := []) ⟨hx, hb, hml, hown, hts⟩ (K_X7_enterConstructor l hfl G a T F U S D R M N P p1 p2 p3 p4 p5  q_19.1 q_19.2.1 q_19.2.2 hq_19 H.size) (cwV 5 hts (gV wm801 wm802 wm803 wm4 wm804) rfl rfl rfl (by decide +kernel) ⟨Nat.le_of_ble_eq_true rfl, Nat.le_of_ble_eq_true rfl⟩) (pre_v (pre_w hK hP hD hS hE hFc) (va_recv hK hP (ci := 6) (q0 := 13) rfl rfl)) rfl rfl hl.1 rfl (lv_room (Nat.le_of_ble_eq_true rfl)) dX11_addConstructor_156 ⟨Nat.le_of_ble_eq_true rfl, Nat.le_of_ble_eq_true rfl⟩) hS (fun q _ h => hFc q h) hFc (fun r u t H locs ht hvm hw hB hz1 hk1 hS => ?_)
                      rw [show r = q_19.1 from hw]
                      have hP : va_P (DG G) clP3 (wC G a q_19.2.1 F U q_19.2.2 D R M N P) H := by rw [← ht]; exact hB.1
                      have hD : va_D A (wC G a q_19.2.1 F U q_19.2.2 D R M N P) := hB.2.weaken (fun _ p _ h => hFc p.1 h)
                      clear hB hFc hw hk1
                      refine W.widen (k := 0) (n := 0) (Nat.le_of_ble_eq_true rfl) (Nat.le_of_ble_eq_true rfl) ?_
                      simp only [Option.some.injEq, Prod.mk.injEq] at hm
                      obtain ⟨rfl, rfl, rfl, rfl⟩ := hm
                      subst hAe
                      refine W.widen (k := 1) (n := 6) (Nat.le_of_ble_eq_true rfl) (Nat.le_of_ble_eq_true rfl) ?_
                      exact vx_ret (W.iret (v := q_19.1) hx hb hr (fun t ht hW => ⟨⟨q_19.1, (), rfl, ⟨rfl, rfl⟩, ⟨by rw [ht]; exact hP, hD⟩⟩, hS.F ht⟩) hS.2.2 dX11_addConstructor_159 hlocks)
                    · rw [if_neg c_18] at hm
                      simp only [Option.some.injEq, Prod.mk.injEq] at hm
                      obtain ⟨rfl, rfl, rfl, rfl⟩ := hm
                      subst hAe
                      obtain ⟨sa, hsa⟩ := hE.2.1 _ stm14
                      exact vx_throwS (names := ["java/lang/RuntimeException", "java/lang/Exception"]) (A := _) (free := _) hx hb hfl hown (by decide +kernel) (by decide +kernel) (hts _ wm669) (hts _ wm14) hsa (xX11_113_hat hts hE) xX11_113_good (EV.un hE) (EV.su hE) hS (hl.1.trans hml.symm) dX11_addConstructor_135 dX11_addConstructor_138 dX11_addConstructor_139 dX11_addConstructor_141 dX11_addConstructor_144 (fun x hx => (hout0 x hx).elim) (Nat.le_of_ble_eq_true rfl) (Nat.le_of_ble_eq_true rfl) (Nat.le_of_ble_eq_true rfl) (Nat.le_of_ble_eq_true rfl) hlocks (fun t ha hz hk => ⟨(), trivial, ⟨rfl, va_Pgrow hP hk, hD⟩, xF hS hz hk⟩) hS.2.2 (Nat.le_of_ble_eq_true rfl) (Nat.le_of_ble_eq_true rfl)
          · rw [if_neg c_6] at hm
            refine lv_aload_n hx hb dX11_addConstructor_51 rfl (lv_at hl 0 rfl) ?_
            refine va_get (D := DG G) (ci := 10) (v := .ref (a.1 13)) (C := RX11) (T := TX11) (N := 10) hx hb hts inW_X11 hown hK hP 0 rfl rfl 2 (by decide) (hts _ wm286) (fun _ h9 => h9) rfl dX11_addConstructor_52 ?_
            refine lv_iload hx hb dX11_addConstructor_55 (lv_at hl 4 rfl) ?_
            obtain ⟨q_20, hq_20, hm⟩ := bind_some hm
            have hFc := free_all hD hS hA
            refine va_calli (va_runV (As := [.int p4]) (rest := []) ⟨hx, hb, hml, hown, hts⟩ (K_X7_hasData l hfl G a T F U S D R M N P p4  q_20 hq_20 H.size) (cwV 1 hts (gV wm753 wm754 wm755 wm4 wm756) rfl rfl rfl (by decide +kernel) ⟨Nat.le_of_ble_eq_true rfl, Nat.le_of_ble_eq_true rfl⟩) (pre_v (pre_w hK hP hD hS hE hFc) (va_recv hK hP (ci := 6) (q0 := 13) rfl rfl)) rfl rfl hl.1 rfl (lv_room (Nat.le_of_ble_eq_true rfl)) dX11_addConstructor_57 ⟨Nat.le_of_ble_eq_true rfl, Nat.le_of_ble_eq_true rfl⟩) hS (fun q _ h => hFc q h) hFc (fun r u t H locs ht hvm hw hB hz1 hk1 hS => ?_)
            rw [show r = q_20 from hw]
            have hP : va_P (DG G) clP3 (wC G a T F U S D R M N P) H := by rw [← ht]; exact hB.1
            have hD : va_D A (wC G a T F U S D R M N P) := hB.2.weaken (fun _ p _ h => hFc p.1 h)
            clear hB hFc hw hk1
            refine W.widen (k := 0) (n := 0) (Nat.le_of_ble_eq_true rfl) (Nat.le_of_ble_eq_true rfl) ?_
            refine lv_if_eq (tgt := 84) hx hb dX11_addConstructor_60 (by decide) (fun c_21 => ?_) (fun c_21 => ?_)
            · rw [if_pos c_21] at hm
              refine lv_iconst (v := 0) hx hb dX11_addConstructor_84 (by decide) ?_
              refine lv_istore (lv' := [(6, .int 0), (0, .ref (a.1 0)), (1, .int p1), (2, .int p2), (3, .int p3), (4, .int p4), (5, .int p5)]) hx hb dX11_addConstructor_85 hl (by decide) rfl (fun ls hl => ?_)
              refine lv_iload hx hb dX11_addConstructor_87 (lv_at hl 0 rfl) ?_
              refine lv_if_ne (tgt := 102) hx hb dX11_addConstructor_89 (by decide) (fun c => absurd (by decide) c) (fun _ => ?_)
              simp only [Option.some.injEq, Prod.mk.injEq] at hm
              obtain ⟨rfl, rfl, rfl, rfl⟩ := hm
              subst hAe
              obtain ⟨sa, hsa⟩ := hE.2.1 _ stm10
              exact tx_throwSW (Y1 := "java/lang/RuntimeException") (r := ["java/lang/Exception"]) (ix := 13) (rx := prog_32_method_4_code) (A := _) (free := _) hx hb hfl (by decide +kernel) (by decide +kernel) (by decide +kernel) (by decide +kernel) hown (by decide +kernel) (by decide +kernel) (by decide +kernel) (hts _ wm576) (hts _ wm16) hsa (xX11_95_hat hts hE) xX11_95_good (EV.un hE) (EV.su hE) hS (hl.1.trans hml.symm) dX11_addConstructor_92 dX11_addConstructor_95 dX11_addConstructor_96 (Or.inl ⟨rfl, rfl⟩) dX11_addConstructor_98 dX11_addConstructor_101 (fun x hx => (hout0 x hx).elim) (Nat.le_of_ble_eq_true rfl) (Nat.le_of_ble_eq_true rfl) (Nat.le_of_ble_eq_true rfl) (Nat.le_of_ble_eq_true rfl) hlocks (fun t ha hz hk => ⟨(), trivial, ⟨rfl, va_Pgrow hP hk, hD⟩, xF hS hz hk⟩) hS.2.2 (Nat.le_of_ble_eq_true rfl) (Nat.le_of_ble_eq_true rfl)
            · rw [if_neg c_21] at hm
              refine lv_iload_n hx hb dX11_addConstructor_63 rfl (lv_at hl 2 rfl) ?_
              refine lv_iconst (v := 3) hx hb dX11_addConstructor_64 (by decide) ?_
              refine lv_icmp_lt (tgt := 80) hx hb dX11_addConstructor_65 (by decide) (fun c_22 => ?_) (fun c_22 => ?_)
              · rw [if_pos c_22] at hm
                refine lv_iconst (v := 1) hx hb dX11_addConstructor_80 (by decide) ?_
                refine lv_goto (tgt := 85) hx hb dX11_addConstructor_81 (by decide) ?_
                refine lv_istore (lv' := [(6, .int 1), (0, .ref (a.1 0)), (1, .int p1), (2, .int p2), (3, .int p3), (4, .int p4), (5, .int p5)]) hx hb dX11_addConstructor_85 hl (by decide) rfl (fun ls hl => ?_)
                refine lv_iload hx hb dX11_addConstructor_87 (lv_at hl 0 rfl) ?_
                refine lv_if_ne (tgt := 102) hx hb dX11_addConstructor_89 (by decide) (fun _ => ?_) (fun c => absurd c (by decide))
                refine lv_aload_n hx hb dX11_addConstructor_102 rfl (lv_at hl 1 rfl) ?_
                refine va_get (D := DG G) (ci := 10) (v := .ref (a.1 13)) (C := RX11) (T := TX11) (N := 10) hx hb hts inW_X11 hown hK hP 0 rfl rfl 2 (by decide) (hts _ wm286) (fun _ h9 => h9) rfl dX11_addConstructor_103 ?_
                refine va_getN (D := DG G) (ci := 6) (v := .int S.2.1) (C := RX7) (T := TX7) (N := 10) hx hb hts inW_X7 hown hK hP 13 rfl rfl 9 (by decide) (va_Nw.use rfl (hE.1 _ nw107)) (fun _ h9 => h9) rfl dX11_addConstructor_106 ?_
                refine lv_bipush (v := 16) hx hb dX11_addConstructor_109 (by decide) ?_
                refine lv_icmp_ge (tgt := 135) hx hb dX11_addConstructor_111 (by decide) (fun c_23 => ?_) (fun c_23 => ?_)
                · rw [if_pos c_23] at hm
                  simp only [Option.some.injEq, Prod.mk.injEq] at hm
                  obtain ⟨rfl, rfl, rfl, rfl⟩ := hm
                  subst hAe
                  obtain ⟨sa, hsa⟩ := hE.2.1 _ stm14
                  exact vx_throwS (names := ["java/lang/RuntimeException", "java/lang/Exception"]) (A := _) (free := _) hx hb hfl hown (by decide +kernel) (by decide +kernel) (hts _ wm669) (hts _ wm14) hsa (xX11_113_hat hts hE) xX11_113_good (EV.un hE) (EV.su hE) hS (hl.1.trans hml.symm) dX11_addConstructor_135 dX11_addConstructor_138 dX11_addConstructor_139 dX11_addConstructor_141 dX11_addConstructor_144 (fun x hx => (hout0 x hx).elim) (Nat.le_of_ble_eq_true rfl) (Nat.le_of_ble_eq_true rfl) (Nat.le_of_ble_eq_true rfl) (Nat.le_of_ble_eq_true rfl) hlocks (fun t ha hz hk => ⟨(), trivial, ⟨rfl, va_Pgrow hP hk, hD⟩, xF hS hz hk⟩) hS.2.2 (Nat.le_of_ble_eq_true rfl) (Nat.le_of_ble_eq_true rfl)
                · rw [if_neg c_23] at hm
                  refine lv_aload_n hx hb dX11_addConstructor_114 rfl (lv_at hl 1 rfl) ?_
                  refine va_get (D := DG G) (ci := 10) (v := .ref (a.1 13)) (C := RX11) (T := TX11) (N := 10) hx hb hts inW_X11 hown hK hP 0 rfl rfl 2 (by decide) (hts _ wm286) (fun _ h9 => h9) rfl dX11_addConstructor_115 ?_
                  refine lv_iload_n hx hb dX11_addConstructor_118 rfl (lv_at hl 2 rfl) ?_
                  obtain ⟨q_24, hq_24, hm⟩ := bind_some hm
                  have hFc := free_all hD hS hA
                  refine va_calli (va_runV (As := [.int p1]) (rest := []) ⟨hx, hb, hml, hown, hts⟩ (K_X7_wasSplit l hfl G a T F U S D R M N P p1  q_24 hq_24 H.size) (cwV 1 hts (gV wm795 wm796 wm797 wm4 wm798) rfl rfl rfl (by decide +kernel) ⟨Nat.le_of_ble_eq_true rfl, Nat.le_of_ble_eq_true rfl⟩) (pre_v (pre_w hK hP hD hS hE hFc) (va_recv hK hP (ci := 6) (q0 := 13) rfl rfl)) rfl rfl hl.1 rfl (lv_room (Nat.le_of_ble_eq_true rfl)) dX11_addConstructor_119 ⟨Nat.le_of_ble_eq_true rfl, Nat.le_of_ble_eq_true rfl⟩) hS (fun q _ h => hFc q h) hFc (fun r u t H locs ht hvm hw hB hz1 hk1 hS => ?_)
                  rw [show r = q_24 from hw]
                  have hP : va_P (DG G) clP3 (wC G a T F U S D R M N P) H := by rw [← ht]; exact hB.1
                  have hD : va_D A (wC G a T F U S D R M N P) := hB.2.weaken (fun _ p _ h => hFc p.1 h)
                  clear hB hFc hw hk1
                  refine W.widen (k := 0) (n := 0) (Nat.le_of_ble_eq_true rfl) (Nat.le_of_ble_eq_true rfl) ?_
                  refine lv_if_ne (tgt := 135) hx hb dX11_addConstructor_122 (by decide) (fun c_25 => ?_) (fun c_25 => ?_)
                  · rw [if_neg c_25] at hm
                    simp only [Option.some.injEq, Prod.mk.injEq] at hm
                    obtain ⟨rfl, rfl, rfl, rfl⟩ := hm
                    subst hAe
                    obtain ⟨sa, hsa⟩ := hE.2.1 _ stm14
                    exact vx_throwS (names := ["java/lang/RuntimeException", "java/lang/Exception"]) (A := _) (free := _) hx hb hfl hown (by decide +kernel) (by decide +kernel) (hts _ wm669) (hts _ wm14) hsa (xX11_113_hat hts hE) xX11_113_good (EV.un hE) (EV.su hE) hS (hl.1.trans hml.symm) dX11_addConstructor_135 dX11_addConstructor_138 dX11_addConstructor_139 dX11_addConstructor_141 dX11_addConstructor_144 (fun x hx => (hout0 x hx).elim) (Nat.le_of_ble_eq_true rfl) (Nat.le_of_ble_eq_true rfl) (Nat.le_of_ble_eq_true rfl) (Nat.le_of_ble_eq_true rfl) hlocks (fun t ha hz hk => ⟨(), trivial, ⟨rfl, va_Pgrow hP hk, hD⟩, xF hS hz hk⟩) hS.2.2 (Nat.le_of_ble_eq_true rfl) (Nat.le_of_ble_eq_true rfl)
                  · rw [if_pos c_25] at hm
                    refine lv_aload_n hx hb dX11_addConstructor_125 rfl (lv_at hl 1 rfl) ?_
                    refine va_get (D := DG G) (ci := 10) (v := .ref (a.1 21)) (C := RX11) (T := TX11) (N := 10) hx hb hts inW_X11 hown hK hP 0 rfl rfl 3 (by decide) (hts _ wm287) (fun _ h9 => h9) rfl dX11_addConstructor_126 ?_
                    refine va_getN (D := DG G) (ci := 0) (v := .int D.2.2) (C := RX0) (T := TX0) (N := 8) hx hb hts inW_X0 hown hK hP 21 rfl rfl 7 (by decide) (va_Nw.use rfl (hE.1 _ nw151)) (fun _ h9 => h9) rfl dX11_addConstructor_129 ?_
                    refine lv_if_eq (tgt := 145) hx hb dX11_addConstructor_132 (by decide) (fun c_26 => ?_) (fun c_26 => ?_)
                    · rw [if_pos c_26] at hm
                      refine lv_aload_n hx hb dX11_addConstructor_145 rfl (lv_at hl 1 rfl) ?_
                      refine va_get (D := DG G) (ci := 10) (v := .ref (a.1 13)) (C := RX11) (T := TX11) (N := 10) hx hb hts inW_X11 hown hK hP 0 rfl rfl 2 (by decide) (hts _ wm286) (fun _ h9 => h9) rfl dX11_addConstructor_146 ?_
                      refine lv_iload_n hx hb dX11_addConstructor_149 rfl (lv_at hl 2 rfl) ?_
                      refine lv_iload_n hx hb dX11_addConstructor_150 rfl (lv_at hl 3 rfl) ?_
                      refine lv_iload_n hx hb dX11_addConstructor_151 rfl (lv_at hl 4 rfl) ?_
                      refine lv_iload hx hb dX11_addConstructor_152 (lv_at hl 5 rfl) ?_
                      refine lv_iload hx hb dX11_addConstructor_154 (lv_at hl 6 rfl) ?_
                      obtain ⟨q_27, hq_27, hm⟩ := bind_some hm
                      have hFc := free_all hD hS hA
                      refine va_calli (va_runV (As := [.int p1, .int p2, .int p3, .int p4, .int p5]) (rest := []) ⟨hx, hb, hml, hown, hts⟩ (K_X7_enterConstructor l hfl G a T F U S D R M N P p1 p2 p3 p4 p5  q_27.1 q_27.2.1 q_27.2.2 hq_27 H.size) (cwV 5 hts (gV wm801 wm802 wm803 wm4 wm804) rfl rfl rfl (by decide +kernel) ⟨Nat.le_of_ble_eq_true rfl, Nat.le_of_ble_eq_true rfl⟩) (pre_v (pre_w hK hP hD hS hE hFc) (va_recv hK hP (ci := 6) (q0 := 13) rfl rfl)) rfl rfl hl.1 rfl (lv_room (Nat.le_of_ble_eq_true rfl)) dX11_addConstructor_156 ⟨Nat.le_of_ble_eq_true rfl, Nat.le_of_ble_eq_true rfl⟩) hS (fun q _ h => hFc q h) hFc (fun r u t H locs ht hvm hw hB hz1 hk1 hS => ?_)
                      rw [show r = q_27.1 from hw]
                      have hP : va_P (DG G) clP3 (wC G a q_27.2.1 F U q_27.2.2 D R M N P) H := by rw [← ht]; exact hB.1
                      have hD : va_D A (wC G a q_27.2.1 F U q_27.2.2 D R M N P) := hB.2.weaken (fun _ p _ h => hFc p.1 h)
                      clear hB hFc hw hk1
                      refine W.widen (k := 0) (n := 0) (Nat.le_of_ble_eq_true rfl) (Nat.le_of_ble_eq_true rfl) ?_
                      simp only [Option.some.injEq, Prod.mk.injEq] at hm
                      obtain ⟨rfl, rfl, rfl, rfl⟩ := hm
                      subst hAe
                      refine W.widen (k := 1) (n := 6) (Nat.le_of_ble_eq_true rfl) (Nat.le_of_ble_eq_true rfl) ?_
                      exact vx_ret (W.iret (v := q_27.1) hx hb hr (fun t ht hW => ⟨⟨q_27.1, (), rfl, ⟨rfl, rfl⟩, ⟨by rw [ht]; exact hP, hD⟩⟩, hS.F ht⟩) hS.2.2 dX11_addConstructor_159 hlocks)
                    · rw [if_neg c_26] at hm
                      simp only [Option.some.injEq, Prod.mk.injEq] at hm
                      obtain ⟨rfl, rfl, rfl, rfl⟩ := hm
                      subst hAe
                      obtain ⟨sa, hsa⟩ := hE.2.1 _ stm14
                      exact vx_throwS (names := ["java/lang/RuntimeException", "java/lang/Exception"]) (A := _) (free := _) hx hb hfl hown (by decide +kernel) (by decide +kernel) (hts _ wm669) (hts _ wm14) hsa (xX11_113_hat hts hE) xX11_113_good (EV.un hE) (EV.su hE) hS (hl.1.trans hml.symm) dX11_addConstructor_135 dX11_addConstructor_138 dX11_addConstructor_139 dX11_addConstructor_141 dX11_addConstructor_144 (fun x hx => (hout0 x hx).elim) (Nat.le_of_ble_eq_true rfl) (Nat.le_of_ble_eq_true rfl) (Nat.le_of_ble_eq_true rfl) (Nat.le_of_ble_eq_true rfl) hlocks (fun t ha hz hk => ⟨(), trivial, ⟨rfl, va_Pgrow hP hk, hD⟩, xF hS hz hk⟩) hS.2.2 (Nat.le_of_ble_eq_true rfl) (Nat.le_of_ble_eq_true rfl)
              · rw [if_neg c_22] at hm
                refine lv_aload_n hx hb dX11_addConstructor_68 rfl (lv_at hl 0 rfl) ?_
                refine va_get (D := DG G) (ci := 10) (v := .ref (a.1 13)) (C := RX11) (T := TX11) (N := 10) hx hb hts inW_X11 hown hK hP 0 rfl rfl 2 (by decide) (hts _ wm286) (fun _ h9 => h9) rfl dX11_addConstructor_69 ?_
                refine lv_iload hx hb dX11_addConstructor_72 (lv_at hl 5 rfl) ?_
                obtain ⟨q_28, hq_28, hm⟩ := bind_some hm
                have hFc := free_all hD hS hA
                refine va_calli (va_runV (As := [.int p5]) (rest := []) ⟨hx, hb, hml, hown, hts⟩ (K_X7_hasData l hfl G a T F U S D R M N P p5  q_28 hq_28 H.size) (cwV 1 hts (gV wm753 wm754 wm755 wm4 wm756) rfl rfl rfl (by decide +kernel) ⟨Nat.le_of_ble_eq_true rfl, Nat.le_of_ble_eq_true rfl⟩) (pre_v (pre_w hK hP hD hS hE hFc) (va_recv hK hP (ci := 6) (q0 := 13) rfl rfl)) rfl rfl hl.1 rfl (lv_room (Nat.le_of_ble_eq_true rfl)) dX11_addConstructor_74 ⟨Nat.le_of_ble_eq_true rfl, Nat.le_of_ble_eq_true rfl⟩) hS (fun q _ h => hFc q h) hFc (fun r u t H locs ht hvm hw hB hz1 hk1 hS => ?_)
                rw [show r = q_28 from hw]
                have hP : va_P (DG G) clP3 (wC G a T F U S D R M N P) H := by rw [← ht]; exact hB.1
                have hD : va_D A (wC G a T F U S D R M N P) := hB.2.weaken (fun _ p _ h => hFc p.1 h)
                clear hB hFc hw hk1
                refine W.widen (k := 0) (n := 0) (Nat.le_of_ble_eq_true rfl) (Nat.le_of_ble_eq_true rfl) ?_
                refine lv_if_eq (tgt := 84) hx hb dX11_addConstructor_77 (by decide) (fun c_29 => ?_) (fun c_29 => ?_)
                · rw [if_pos c_29] at hm
                  refine lv_iconst (v := 0) hx hb dX11_addConstructor_84 (by decide) ?_
                  refine lv_istore (lv' := [(6, .int 0), (0, .ref (a.1 0)), (1, .int p1), (2, .int p2), (3, .int p3), (4, .int p4), (5, .int p5)]) hx hb dX11_addConstructor_85 hl (by decide) rfl (fun ls hl => ?_)
                  refine lv_iload hx hb dX11_addConstructor_87 (lv_at hl 0 rfl) ?_
                  refine lv_if_ne (tgt := 102) hx hb dX11_addConstructor_89 (by decide) (fun c => absurd (by decide) c) (fun _ => ?_)
                  simp only [Option.some.injEq, Prod.mk.injEq] at hm
                  obtain ⟨rfl, rfl, rfl, rfl⟩ := hm
                  subst hAe
                  obtain ⟨sa, hsa⟩ := hE.2.1 _ stm10
                  exact tx_throwSW (Y1 := "java/lang/RuntimeException") (r := ["java/lang/Exception"]) (ix := 13) (rx := prog_32_method_4_code) (A := _) (free := _) hx hb hfl (by decide +kernel) (by decide +kernel) (by decide +kernel) (by decide +kernel) hown (by decide +kernel) (by decide +kernel) (by decide +kernel) (hts _ wm576) (hts _ wm16) hsa (xX11_95_hat hts hE) xX11_95_good (EV.un hE) (EV.su hE) hS (hl.1.trans hml.symm) dX11_addConstructor_92 dX11_addConstructor_95 dX11_addConstructor_96 (Or.inl ⟨rfl, rfl⟩) dX11_addConstructor_98 dX11_addConstructor_101 (fun x hx => (hout0 x hx).elim) (Nat.le_of_ble_eq_true rfl) (Nat.le_of_ble_eq_true rfl) (Nat.le_of_ble_eq_true rfl) (Nat.le_of_ble_eq_true rfl) hlocks (fun t ha hz hk => ⟨(), trivial, ⟨rfl, va_Pgrow hP hk, hD⟩, xF hS hz hk⟩) hS.2.2 (Nat.le_of_ble_eq_true rfl) (Nat.le_of_ble_eq_true rfl)
                · rw [if_neg c_29] at hm
                  refine lv_iconst (v := 1) hx hb dX11_addConstructor_80 (by decide) ?_
                  refine lv_goto (tgt := 85) hx hb dX11_addConstructor_81 (by decide) ?_
                  refine lv_istore (lv' := [(6, .int 1), (0, .ref (a.1 0)), (1, .int p1), (2, .int p2), (3, .int p3), (4, .int p4), (5, .int p5)]) hx hb dX11_addConstructor_85 hl (by decide) rfl (fun ls hl => ?_)
                  refine lv_iload hx hb dX11_addConstructor_87 (lv_at hl 0 rfl) ?_
                  refine lv_if_ne (tgt := 102) hx hb dX11_addConstructor_89 (by decide) (fun _ => ?_) (fun c => absurd c (by decide))
                  refine lv_aload_n hx hb dX11_addConstructor_102 rfl (lv_at hl 1 rfl) ?_
                  refine va_get (D := DG G) (ci := 10) (v := .ref (a.1 13)) (C := RX11) (T := TX11) (N := 10) hx hb hts inW_X11 hown hK hP 0 rfl rfl 2 (by decide) (hts _ wm286) (fun _ h9 => h9) rfl dX11_addConstructor_103 ?_
                  refine va_getN (D := DG G) (ci := 6) (v := .int S.2.1) (C := RX7) (T := TX7) (N := 10) hx hb hts inW_X7 hown hK hP 13 rfl rfl 9 (by decide) (va_Nw.use rfl (hE.1 _ nw107)) (fun _ h9 => h9) rfl dX11_addConstructor_106 ?_
                  refine lv_bipush (v := 16) hx hb dX11_addConstructor_109 (by decide) ?_
                  refine lv_icmp_ge (tgt := 135) hx hb dX11_addConstructor_111 (by decide) (fun c_30 => ?_) (fun c_30 => ?_)
                  · rw [if_pos c_30] at hm
                    simp only [Option.some.injEq, Prod.mk.injEq] at hm
                    obtain ⟨rfl, rfl, rfl, rfl⟩ := hm
                    subst hAe
                    obtain ⟨sa, hsa⟩ := hE.2.1 _ stm14
                    exact vx_throwS (names := ["java/lang/RuntimeException", "java/lang/Exception"]) (A := _) (free := _) hx hb hfl hown (by decide +kernel) (by decide +kernel) (hts _ wm669) (hts _ wm14) hsa (xX11_113_hat hts hE) xX11_113_good (EV.un hE) (EV.su hE) hS (hl.1.trans hml.symm) dX11_addConstructor_135 dX11_addConstructor_138 dX11_addConstructor_139 dX11_addConstructor_141 dX11_addConstructor_144 (fun x hx => (hout0 x hx).elim) (Nat.le_of_ble_eq_true rfl) (Nat.le_of_ble_eq_true rfl) (Nat.le_of_ble_eq_true rfl) (Nat.le_of_ble_eq_true rfl) hlocks (fun t ha hz hk => ⟨(), trivial, ⟨rfl, va_Pgrow hP hk, hD⟩, xF hS hz hk⟩) hS.2.2 (Nat.le_of_ble_eq_true rfl) (Nat.le_of_ble_eq_true rfl)
                  · rw [if_neg c_30] at hm
                    refine lv_aload_n hx hb dX11_addConstructor_114 rfl (lv_at hl 1 rfl) ?_
                    refine va_get (D := DG G) (ci := 10) (v := .ref (a.1 13)) (C := RX11) (T := TX11) (N := 10) hx hb hts inW_X11 hown hK hP 0 rfl rfl 2 (by decide) (hts _ wm286) (fun _ h9 => h9) rfl dX11_addConstructor_115 ?_
                    refine lv_iload_n hx hb dX11_addConstructor_118 rfl (lv_at hl 2 rfl) ?_
                    obtain ⟨q_31, hq_31, hm⟩ := bind_some hm
                    have hFc := free_all hD hS hA
                    refine va_calli (va_runV (As := [.int p1]) (rest := []) ⟨hx, hb, hml, hown, hts⟩ (K_X7_wasSplit l hfl G a T F U S D R M N P p1  q_31 hq_31 H.size) (cwV 1 hts (gV wm795 wm796 wm797 wm4 wm798) rfl rfl rfl (by decide +kernel) ⟨Nat.le_of_ble_eq_true rfl, Nat.le_of_ble_eq_true rfl⟩) (pre_v (pre_w hK hP hD hS hE hFc) (va_recv hK hP (ci := 6) (q0 := 13) rfl rfl)) rfl rfl hl.1 rfl (lv_room (Nat.le_of_ble_eq_true rfl)) dX11_addConstructor_119 ⟨Nat.le_of_ble_eq_true rfl, Nat.le_of_ble_eq_true rfl⟩) hS (fun q _ h => hFc q h) hFc (fun r u t H locs ht hvm hw hB hz1 hk1 hS => ?_)
                    rw [show r = q_31 from hw]
                    have hP : va_P (DG G) clP3 (wC G a T F U S D R M N P) H := by rw [← ht]; exact hB.1
                    have hD : va_D A (wC G a T F U S D R M N P) := hB.2.weaken (fun _ p _ h => hFc p.1 h)
                    clear hB hFc hw hk1
                    refine W.widen (k := 0) (n := 0) (Nat.le_of_ble_eq_true rfl) (Nat.le_of_ble_eq_true rfl) ?_
                    refine lv_if_ne (tgt := 135) hx hb dX11_addConstructor_122 (by decide) (fun c_32 => ?_) (fun c_32 => ?_)
                    · rw [if_neg c_32] at hm
                      simp only [Option.some.injEq, Prod.mk.injEq] at hm
                      obtain ⟨rfl, rfl, rfl, rfl⟩ := hm
                      subst hAe
                      obtain ⟨sa, hsa⟩ := hE.2.1 _ stm14
                      exact vx_throwS (names := ["java/lang/RuntimeException", "java/lang/Exception"]) (A := _) (free := _) hx hb hfl hown (by decide +kernel) (by decide +kernel) (hts _ wm669) (hts _ wm14) hsa (xX11_113_hat hts hE) xX11_113_good (EV.un hE) (EV.su hE) hS (hl.1.trans hml.symm) dX11_addConstructor_135 dX11_addConstructor_138 dX11_addConstructor_139 dX11_addConstructor_141 dX11_addConstructor_144 (fun x hx => (hout0 x hx).elim) (Nat.le_of_ble_eq_true rfl) (Nat.le_of_ble_eq_true rfl) (Nat.le_of_ble_eq_true rfl) (Nat.le_of_ble_eq_true rfl) hlocks (fun t ha hz hk => ⟨(), trivial, ⟨rfl, va_Pgrow hP hk, hD⟩, xF hS hz hk⟩) hS.2.2 (Nat.le_of_ble_eq_true rfl) (Nat.le_of_ble_eq_true rfl)
                    · rw [if_pos c_32] at hm
                      refine lv_aload_n hx hb dX11_addConstructor_125 rfl (lv_at hl 1 rfl) ?_
                      refine va_get (D := DG G) (ci := 10) (v := .ref (a.1 21)) (C := RX11) (T := TX11) (N := 10) hx hb hts inW_X11 hown hK hP 0 rfl rfl 3 (by decide) (hts _ wm287) (fun _ h9 => h9) rfl dX11_addConstructor_126 ?_
                      refine va_getN (D := DG G) (ci := 0) (v := .int D.2.2) (C := RX0) (T := TX0) (N := 8) hx hb hts inW_X0 hown hK hP 21 rfl rfl 7 (by decide) (va_Nw.use rfl (hE.1 _ nw151)) (fun _ h9 => h9) rfl dX11_addConstructor_129 ?_
                      refine lv_if_eq (tgt := 145) hx hb dX11_addConstructor_132 (by decide) (fun c_33 => ?_) (fun c_33 => ?_)
                      · rw [if_pos c_33] at hm
                        refine lv_aload_n hx hb dX11_addConstructor_145 rfl (lv_at hl 1 rfl) ?_
                        refine va_get (D := DG G) (ci := 10) (v := .ref (a.1 13)) (C := RX11) (T := TX11) (N := 10) hx hb hts inW_X11 hown hK hP 0 rfl rfl 2 (by decide) (hts _ wm286) (fun _ h9 => h9) rfl dX11_addConstructor_146 ?_
                        refine lv_iload_n hx hb dX11_addConstructor_149 rfl (lv_at hl 2 rfl) ?_
                        refine lv_iload_n hx hb dX11_addConstructor_150 rfl (lv_at hl 3 rfl) ?_
                        refine lv_iload_n hx hb dX11_addConstructor_151 rfl (lv_at hl 4 rfl) ?_
                        refine lv_iload hx hb dX11_addConstructor_152 (lv_at hl 5 rfl) ?_
                        refine lv_iload hx hb dX11_addConstructor_154 (lv_at hl 6 rfl) ?_
                        obtain ⟨q_34, hq_34, hm⟩ := bind_some hm
                        have hFc := free_all hD hS hA
                        refine va_calli (va_runV (As := [.int p1, .int p2, .int p3, .int p4, .int p5]) (rest := []) ⟨hx, hb, hml, hown, hts⟩ (K_X7_enterConstructor l hfl G a T F U S D R M N P p1 p2 p3 p4 p5  q_34.1 q_34.2.1 q_34.2.2 hq_34 H.size) (cwV 5 hts (gV wm801 wm802 wm803 wm4 wm804) rfl rfl rfl (by decide +kernel) ⟨Nat.le_of_ble_eq_true rfl, Nat.le_of_ble_eq_true rfl⟩) (pre_v (pre_w hK hP hD hS hE hFc) (va_recv hK hP (ci := 6) (q0 := 13) rfl rfl)) rfl rfl hl.1 rfl (lv_room (Nat.le_of_ble_eq_true rfl)) dX11_addConstructor_156 ⟨Nat.le_of_ble_eq_true rfl, Nat.le_of_ble_eq_true rfl⟩) hS (fun q _ h => hFc q h) hFc (fun r u t H locs ht hvm hw hB hz1 hk1 hS => ?_)
                        rw [show r = q_34.1 from hw]
                        have hP : va_P (DG G) clP3 (wC G a q_34.2.1 F U q_34.2.2 D R M N P) H := by rw [← ht]; exact hB.1
                        have hD : va_D A (wC G a q_34.2.1 F U q_34.2.2 D R M N P) := hB.2.weaken (fun _ p _ h => hFc p.1 h)
                        clear hB hFc hw hk1
                        refine W.widen (k := 0) (n := 0) (Nat.le_of_ble_eq_true rfl) (Nat.le_of_ble_eq_true rfl) ?_
                        simp only [Option.some.injEq, Prod.mk.injEq] at hm
                        obtain ⟨rfl, rfl, rfl, rfl⟩ := hm
                        subst hAe
                        refine W.widen (k := 1) (n := 6) (Nat.le_of_ble_eq_true rfl) (Nat.le_of_ble_eq_true rfl) ?_
                        exact vx_ret (W.iret (v := q_34.1) hx hb hr (fun t ht hW => ⟨⟨q_34.1, (), rfl, ⟨rfl, rfl⟩, ⟨by rw [ht]; exact hP, hD⟩⟩, hS.F ht⟩) hS.2.2 dX11_addConstructor_159 hlocks)
                      · rw [if_neg c_33] at hm
                        simp only [Option.some.injEq, Prod.mk.injEq] at hm
                        obtain ⟨rfl, rfl, rfl, rfl⟩ := hm
                        subst hAe
                        obtain ⟨sa, hsa⟩ := hE.2.1 _ stm14
                        exact vx_throwS (names := ["java/lang/RuntimeException", "java/lang/Exception"]) (A := _) (free := _) hx hb hfl hown (by decide +kernel) (by decide +kernel) (hts _ wm669) (hts _ wm14) hsa (xX11_113_hat hts hE) xX11_113_good (EV.un hE) (EV.su hE) hS (hl.1.trans hml.symm) dX11_addConstructor_135 dX11_addConstructor_138 dX11_addConstructor_139 dX11_addConstructor_141 dX11_addConstructor_144 (fun x hx => (hout0 x hx).elim) (Nat.le_of_ble_eq_true rfl) (Nat.le_of_ble_eq_true rfl) (Nat.le_of_ble_eq_true rfl) (Nat.le_of_ble_eq_true rfl) hlocks (fun t ha hz hk => ⟨(), trivial, ⟨rfl, va_Pgrow hP hk, hD⟩, xF hS hz hk⟩) hS.2.2 (Nat.le_of_ble_eq_true rfl) (Nat.le_of_ble_eq_true rfl)
        · rw [if_neg c_5] at hm
          refine lv_aload_n hx hb dX11_addConstructor_35 rfl (lv_at hl 0 rfl) ?_
          refine va_get (D := DG G) (ci := 10) (v := .ref (a.1 13)) (C := RX11) (T := TX11) (N := 10) hx hb hts inW_X11 hown hK hP 0 rfl rfl 2 (by decide) (hts _ wm286) (fun _ h9 => h9) rfl dX11_addConstructor_36 ?_
          refine lv_iload_n hx hb dX11_addConstructor_39 rfl (lv_at hl 3 rfl) ?_
          obtain ⟨q_35, hq_35, hm⟩ := bind_some hm
          have hFc := free_all hD hS hA
          refine va_calli (va_runV (As := [.int p3]) (rest := []) ⟨hx, hb, hml, hown, hts⟩ (K_X7_hasData l hfl G a T F U S D R M N P p3  q_35 hq_35 H.size) (cwV 1 hts (gV wm753 wm754 wm755 wm4 wm756) rfl rfl rfl (by decide +kernel) ⟨Nat.le_of_ble_eq_true rfl, Nat.le_of_ble_eq_true rfl⟩) (pre_v (pre_w hK hP hD hS hE hFc) (va_recv hK hP (ci := 6) (q0 := 13) rfl rfl)) rfl rfl hl.1 rfl (lv_room (Nat.le_of_ble_eq_true rfl)) dX11_addConstructor_40 ⟨Nat.le_of_ble_eq_true rfl, Nat.le_of_ble_eq_true rfl⟩) hS (fun q _ h => hFc q h) hFc (fun r u t H locs ht hvm hw hB hz1 hk1 hS => ?_)
          rw [show r = q_35 from hw]
          have hP : va_P (DG G) clP3 (wC G a T F U S D R M N P) H := by rw [← ht]; exact hB.1
          have hD : va_D A (wC G a T F U S D R M N P) := hB.2.weaken (fun _ p _ h => hFc p.1 h)
          clear hB hFc hw hk1
          refine W.widen (k := 0) (n := 0) (Nat.le_of_ble_eq_true rfl) (Nat.le_of_ble_eq_true rfl) ?_
          refine lv_if_eq (tgt := 84) hx hb dX11_addConstructor_43 (by decide) (fun c_36 => ?_) (fun c_36 => ?_)
          · rw [if_pos c_36] at hm
            refine lv_iconst (v := 0) hx hb dX11_addConstructor_84 (by decide) ?_
            refine lv_istore (lv' := [(6, .int 0), (0, .ref (a.1 0)), (1, .int p1), (2, .int p2), (3, .int p3), (4, .int p4), (5, .int p5)]) hx hb dX11_addConstructor_85 hl (by decide) rfl (fun ls hl => ?_)
            refine lv_iload hx hb dX11_addConstructor_87 (lv_at hl 0 rfl) ?_
            refine lv_if_ne (tgt := 102) hx hb dX11_addConstructor_89 (by decide) (fun c => absurd (by decide) c) (fun _ => ?_)
            simp only [Option.some.injEq, Prod.mk.injEq] at hm
            obtain ⟨rfl, rfl, rfl, rfl⟩ := hm
            subst hAe
            obtain ⟨sa, hsa⟩ := hE.2.1 _ stm10
            exact tx_throwSW (Y1 := "java/lang/RuntimeException") (r := ["java/lang/Exception"]) (ix := 13) (rx := prog_32_method_4_code) (A := _) (free := _) hx hb hfl (by decide +kernel) (by decide +kernel) (by decide +kernel) (by decide +kernel) hown (by decide +kernel) (by decide +kernel) (by decide +kernel) (hts _ wm576) (hts _ wm16) hsa (xX11_95_hat hts hE) xX11_95_good (EV.un hE) (EV.su hE) hS (hl.1.trans hml.symm) dX11_addConstructor_92 dX11_addConstructor_95 dX11_addConstructor_96 (Or.inl ⟨rfl, rfl⟩) dX11_addConstructor_98 dX11_addConstructor_101 (fun x hx => (hout0 x hx).elim) (Nat.le_of_ble_eq_true rfl) (Nat.le_of_ble_eq_true rfl) (Nat.le_of_ble_eq_true rfl) (Nat.le_of_ble_eq_true rfl) hlocks (fun t ha hz hk => ⟨(), trivial, ⟨rfl, va_Pgrow hP hk, hD⟩, xF hS hz hk⟩) hS.2.2 (Nat.le_of_ble_eq_true rfl) (Nat.le_of_ble_eq_true rfl)
          · rw [if_neg c_36] at hm
            refine lv_iload_n hx hb dX11_addConstructor_46 rfl (lv_at hl 2 rfl) ?_
            refine lv_iconst (v := 2) hx hb dX11_addConstructor_47 (by decide) ?_
            refine lv_icmp_lt (tgt := 63) hx hb dX11_addConstructor_48 (by decide) (fun c_37 => ?_) (fun c_37 => ?_)
            · rw [if_pos c_37] at hm
              refine lv_iload_n hx hb dX11_addConstructor_63 rfl (lv_at hl 2 rfl) ?_
              refine lv_iconst (v := 3) hx hb dX11_addConstructor_64 (by decide) ?_
              refine lv_icmp_lt (tgt := 80) hx hb dX11_addConstructor_65 (by decide) (fun c_38 => ?_) (fun c_38 => ?_)
              · rw [if_pos c_38] at hm
                refine lv_iconst (v := 1) hx hb dX11_addConstructor_80 (by decide) ?_
                refine lv_goto (tgt := 85) hx hb dX11_addConstructor_81 (by decide) ?_
                refine lv_istore (lv' := [(6, .int 1), (0, .ref (a.1 0)), (1, .int p1), (2, .int p2), (3, .int p3), (4, .int p4), (5, .int p5)]) hx hb dX11_addConstructor_85 hl (by decide) rfl (fun ls hl => ?_)
                refine lv_iload hx hb dX11_addConstructor_87 (lv_at hl 0 rfl) ?_
                refine lv_if_ne (tgt := 102) hx hb dX11_addConstructor_89 (by decide) (fun _ => ?_) (fun c => absurd c (by decide))
                refine lv_aload_n hx hb dX11_addConstructor_102 rfl (lv_at hl 1 rfl) ?_
                refine va_get (D := DG G) (ci := 10) (v := .ref (a.1 13)) (C := RX11) (T := TX11) (N := 10) hx hb hts inW_X11 hown hK hP 0 rfl rfl 2 (by decide) (hts _ wm286) (fun _ h9 => h9) rfl dX11_addConstructor_103 ?_
                refine va_getN (D := DG G) (ci := 6) (v := .int S.2.1) (C := RX7) (T := TX7) (N := 10) hx hb hts inW_X7 hown hK hP 13 rfl rfl 9 (by decide) (va_Nw.use rfl (hE.1 _ nw107)) (fun _ h9 => h9) rfl dX11_addConstructor_106 ?_
                refine lv_bipush (v := 16) hx hb dX11_addConstructor_109 (by decide) ?_
                refine lv_icmp_ge (tgt := 135) hx hb dX11_addConstructor_111 (by decide) (fun c_39 => ?_) (fun c_39 => ?_)
                · rw [if_pos c_39] at hm
                  simp only [Option.some.injEq, Prod.mk.injEq] at hm
                  obtain ⟨rfl, rfl, rfl, rfl⟩ := hm
                  subst hAe
                  obtain ⟨sa, hsa⟩ := hE.2.1 _ stm14
                  exact vx_throwS (names := ["java/lang/RuntimeException", "java/lang/Exception"]) (A := _) (free := _) hx hb hfl hown (by decide +kernel) (by decide +kernel) (hts _ wm669) (hts _ wm14) hsa (xX11_113_hat hts hE) xX11_113_good (EV.un hE) (EV.su hE) hS (hl.1.trans hml.symm) dX11_addConstructor_135 dX11_addConstructor_138 dX11_addConstructor_139 dX11_addConstructor_141 dX11_addConstructor_144 (fun x hx => (hout0 x hx).elim) (Nat.le_of_ble_eq_true rfl) (Nat.le_of_ble_eq_true rfl) (Nat.le_of_ble_eq_true rfl) (Nat.le_of_ble_eq_true rfl) hlocks (fun t ha hz hk => ⟨(), trivial, ⟨rfl, va_Pgrow hP hk, hD⟩, xF hS hz hk⟩) hS.2.2 (Nat.le_of_ble_eq_true rfl) (Nat.le_of_ble_eq_true rfl)
                · rw [if_neg c_39] at hm
                  refine lv_aload_n hx hb dX11_addConstructor_114 rfl (lv_at hl 1 rfl) ?_
                  refine va_get (D := DG G) (ci := 10) (v := .ref (a.1 13)) (C := RX11) (T := TX11) (N := 10) hx hb hts inW_X11 hown hK hP 0 rfl rfl 2 (by decide) (hts _ wm286) (fun _ h9 => h9) rfl dX11_addConstructor_115 ?_
                  refine lv_iload_n hx hb dX11_addConstructor_118 rfl (lv_at hl 2 rfl) ?_
                  obtain ⟨q_40, hq_40, hm⟩ := bind_some hm
                  have hFc := free_all hD hS hA
                  refine va_calli (va_runV (As := [.int p1]) (rest := []) ⟨hx, hb, hml, hown, hts⟩ (K_X7_wasSplit l hfl G a T F U S D R M N P p1  q_40 hq_40 H.size) (cwV 1 hts (gV wm795 wm796 wm797 wm4 wm798) rfl rfl rfl (by decide +kernel) ⟨Nat.le_of_ble_eq_true rfl, Nat.le_of_ble_eq_true rfl⟩) (pre_v (pre_w hK hP hD hS hE hFc) (va_recv hK hP (ci := 6) (q0 := 13) rfl rfl)) rfl rfl hl.1 rfl (lv_room (Nat.le_of_ble_eq_true rfl)) dX11_addConstructor_119 ⟨Nat.le_of_ble_eq_true rfl, Nat.le_of_ble_eq_true rfl⟩) hS (fun q _ h => hFc q h) hFc (fun r u t H locs ht hvm hw hB hz1 hk1 hS => ?_)
                  rw [show r = q_40 from hw]
                  have hP : va_P (DG G) clP3 (wC G a T F U S D R M N P) H := by rw [← ht]; exact hB.1
                  have hD : va_D A (wC G a T F U S D R M N P) := hB.2.weaken (fun _ p _ h => hFc p.1 h)
                  clear hB hFc hw hk1
                  refine W.widen (k := 0) (n := 0) (Nat.le_of_ble_eq_true rfl) (Nat.le_of_ble_eq_true rfl) ?_
                  refine lv_if_ne (tgt := 135) hx hb dX11_addConstructor_122 (by decide) (fun c_41 => ?_) (fun c_41 => ?_)
                  · rw [if_neg c_41] at hm
                    simp only [Option.some.injEq, Prod.mk.injEq] at hm
                    obtain ⟨rfl, rfl, rfl, rfl⟩ := hm
                    subst hAe
                    obtain ⟨sa, hsa⟩ := hE.2.1 _ stm14
                    exact vx_throwS (names := ["java/lang/RuntimeException", "java/lang/Exception"]) (A := _) (free := _) hx hb hfl hown (by decide +kernel) (by decide +kernel) (hts _ wm669) (hts _ wm14) hsa (xX11_113_hat hts hE) xX11_113_good (EV.un hE) (EV.su hE) hS (hl.1.trans hml.symm) dX11_addConstructor_135 dX11_addConstructor_138 dX11_addConstructor_139 dX11_addConstructor_141 dX11_addConstructor_144 (fun x hx => (hout0 x hx).elim) (Nat.le_of_ble_eq_true rfl) (Nat.le_of_ble_eq_true rfl) (Nat.le_of_ble_eq_true rfl) (Nat.le_of_ble_eq_true rfl) hlocks (fun t ha hz hk => ⟨(), trivial, ⟨rfl, va_Pgrow hP hk, hD⟩, xF hS hz hk⟩) hS.2.2 (Nat.le_of_ble_eq_true rfl) (Nat.le_of_ble_eq_true rfl)
                  · rw [if_pos c_41] at hm
                    refine lv_aload_n hx hb dX11_addConstructor_125 rfl (lv_at hl 1 rfl) ?_
                    refine va_get (D := DG G) (ci := 10) (v := .ref (a.1 21)) (C := RX11) (T := TX11) (N := 10) hx hb hts inW_X11 hown hK hP 0 rfl rfl 3 (by decide) (hts _ wm287) (fun _ h9 => h9) rfl dX11_addConstructor_126 ?_
                    refine va_getN (D := DG G) (ci := 0) (v := .int D.2.2) (C := RX0) (T := TX0) (N := 8) hx hb hts inW_X0 hown hK hP 21 rfl rfl 7 (by decide) (va_Nw.use rfl (hE.1 _ nw151)) (fun _ h9 => h9) rfl dX11_addConstructor_129 ?_
                    refine lv_if_eq (tgt := 145) hx hb dX11_addConstructor_132 (by decide) (fun c_42 => ?_) (fun c_42 => ?_)
                    · rw [if_pos c_42] at hm
                      refine lv_aload_n hx hb dX11_addConstructor_145 rfl (lv_at hl 1 rfl) ?_
                      refine va_get (D := DG G) (ci := 10) (v := .ref (a.1 13)) (C := RX11) (T := TX11) (N := 10) hx hb hts inW_X11 hown hK hP 0 rfl rfl 2 (by decide) (hts _ wm286) (fun _ h9 => h9) rfl dX11_addConstructor_146 ?_
                      refine lv_iload_n hx hb dX11_addConstructor_149 rfl (lv_at hl 2 rfl) ?_
                      refine lv_iload_n hx hb dX11_addConstructor_150 rfl (lv_at hl 3 rfl) ?_
                      refine lv_iload_n hx hb dX11_addConstructor_151 rfl (lv_at hl 4 rfl) ?_
                      refine lv_iload hx hb dX11_addConstructor_152 (lv_at hl 5 rfl) ?_
                      refine lv_iload hx hb dX11_addConstructor_154 (lv_at hl 6 rfl) ?_
                      obtain ⟨q_43, hq_43, hm⟩ := bind_some hm
                      have hFc := free_all hD hS hA
                      refine va_calli (va_runV (As := [.int p1, .int p2, .int p3, .int p4, .int p5]) (rest := []) ⟨hx, hb, hml, hown, hts⟩ (K_X7_enterConstructor l hfl G a T F U S D R M N P p1 p2 p3 p4 p5  q_43.1 q_43.2.1 q_43.2.2 hq_43 H.size) (cwV 5 hts (gV wm801 wm802 wm803 wm4 wm804) rfl rfl rfl (by decide +kernel) ⟨Nat.le_of_ble_eq_true rfl, Nat.le_of_ble_eq_true rfl⟩) (pre_v (pre_w hK hP hD hS hE hFc) (va_recv hK hP (ci := 6) (q0 := 13) rfl rfl)) rfl rfl hl.1 rfl (lv_room (Nat.le_of_ble_eq_true rfl)) dX11_addConstructor_156 ⟨Nat.le_of_ble_eq_true rfl, Nat.le_of_ble_eq_true rfl⟩) hS (fun q _ h => hFc q h) hFc (fun r u t H locs ht hvm hw hB hz1 hk1 hS => ?_)
                      rw [show r = q_43.1 from hw]
                      have hP : va_P (DG G) clP3 (wC G a q_43.2.1 F U q_43.2.2 D R M N P) H := by rw [← ht]; exact hB.1
                      have hD : va_D A (wC G a q_43.2.1 F U q_43.2.2 D R M N P) := hB.2.weaken (fun _ p _ h => hFc p.1 h)
                      clear hB hFc hw hk1
                      refine W.widen (k := 0) (n := 0) (Nat.le_of_ble_eq_true rfl) (Nat.le_of_ble_eq_true rfl) ?_
                      simp only [Option.some.injEq, Prod.mk.injEq] at hm
                      obtain ⟨rfl, rfl, rfl, rfl⟩ := hm
                      subst hAe
                      refine W.widen (k := 1) (n := 6) (Nat.le_of_ble_eq_true rfl) (Nat.le_of_ble_eq_true rfl) ?_
                      exact vx_ret (W.iret (v := q_43.1) hx hb hr (fun t ht hW => ⟨⟨q_43.1, (), rfl, ⟨rfl, rfl⟩, ⟨by rw [ht]; exact hP, hD⟩⟩, hS.F ht⟩) hS.2.2 dX11_addConstructor_159 hlocks)
                    · rw [if_neg c_42] at hm
                      simp only [Option.some.injEq, Prod.mk.injEq] at hm
                      obtain ⟨rfl, rfl, rfl, rfl⟩ := hm
                      subst hAe
                      obtain ⟨sa, hsa⟩ := hE.2.1 _ stm14
                      exact vx_throwS (names := ["java/lang/RuntimeException", "java/lang/Exception"]) (A := _) (free := _) hx hb hfl hown (by decide +kernel) (by decide +kernel) (hts _ wm669) (hts _ wm14) hsa (xX11_113_hat hts hE) xX11_113_good (EV.un hE) (EV.su hE) hS (hl.1.trans hml.symm) dX11_addConstructor_135 dX11_addConstructor_138 dX11_addConstructor_139 dX11_addConstructor_141 dX11_addConstructor_144 (fun x hx => (hout0 x hx).elim) (Nat.le_of_ble_eq_true rfl) (Nat.le_of_ble_eq_true rfl) (Nat.le_of_ble_eq_true rfl) (Nat.le_of_ble_eq_true rfl) hlocks (fun t ha hz hk => ⟨(), trivial, ⟨rfl, va_Pgrow hP hk, hD⟩, xF hS hz hk⟩) hS.2.2 (Nat.le_of_ble_eq_true rfl) (Nat.le_of_ble_eq_true rfl)
              · rw [if_neg c_38] at hm
                refine lv_aload_n hx hb dX11_addConstructor_68 rfl (lv_at hl 0 rfl) ?_
                refine va_get (D := DG G) (ci := 10) (v := .ref (a.1 13)) (C := RX11) (T := TX11) (N := 10) hx hb hts inW_X11 hown hK hP 0 rfl rfl 2 (by decide) (hts _ wm286) (fun _ h9 => h9) rfl dX11_addConstructor_69 ?_
                refine lv_iload hx hb dX11_addConstructor_72 (lv_at hl 5 rfl) ?_
                obtain ⟨q_44, hq_44, hm⟩ := bind_some hm
                have hFc := free_all hD hS hA
                refine va_calli (va_runV (As := [.int p5]) (rest := []) ⟨hx, hb, hml, hown, hts⟩ (K_X7_hasData l hfl G a T F U S D R M N P p5  q_44 hq_44 H.size) (cwV 1 hts (gV wm753 wm754 wm755 wm4 wm756) rfl rfl rfl (by decide +kernel) ⟨Nat.le_of_ble_eq_true rfl, Nat.le_of_ble_eq_true rfl⟩) (pre_v (pre_w hK hP hD hS hE hFc) (va_recv hK hP (ci := 6) (q0 := 13) rfl rfl)) rfl rfl hl.1 rfl (lv_room (Nat.le_of_ble_eq_true rfl)) dX11_addConstructor_74 ⟨Nat.le_of_ble_eq_true rfl, Nat.le_of_ble_eq_true rfl⟩) hS (fun q _ h => hFc q h) hFc (fun r u t H locs ht hvm hw hB hz1 hk1 hS => ?_)
                rw [show r = q_44 from hw]
                have hP : va_P (DG G) clP3 (wC G a T F U S D R M N P) H := by rw [← ht]; exact hB.1
                have hD : va_D A (wC G a T F U S D R M N P) := hB.2.weaken (fun _ p _ h => hFc p.1 h)
                clear hB hFc hw hk1
                refine W.widen (k := 0) (n := 0) (Nat.le_of_ble_eq_true rfl) (Nat.le_of_ble_eq_true rfl) ?_
                refine lv_if_eq (tgt := 84) hx hb dX11_addConstructor_77 (by decide) (fun c_45 => ?_) (fun c_45 => ?_)
                · rw [if_pos c_45] at hm
                  refine lv_iconst (v := 0) hx hb dX11_addConstructor_84 (by decide) ?_
                  refine lv_istore (lv' := [(6, .int 0), (0, .ref (a.1 0)), (1, .int p1), (2, .int p2), (3, .int p3), (4, .int p4), (5, .int p5)]) hx hb dX11_addConstructor_85 hl (by decide) rfl (fun ls hl => ?_)
                  refine lv_iload hx hb dX11_addConstructor_87 (lv_at hl 0 rfl) ?_
                  refine lv_if_ne (tgt := 102) hx hb dX11_addConstructor_89 (by decide) (fun c => absurd (by decide) c) (fun _ => ?_)
                  simp only [Option.some.injEq, Prod.mk.injEq] at hm
                  obtain ⟨rfl, rfl, rfl, rfl⟩ := hm
                  subst hAe
                  obtain ⟨sa, hsa⟩ := hE.2.1 _ stm10
                  exact tx_throwSW (Y1 := "java/lang/RuntimeException") (r := ["java/lang/Exception"]) (ix := 13) (rx := prog_32_method_4_code) (A := _) (free := _) hx hb hfl (by decide +kernel) (by decide +kernel) (by decide +kernel) (by decide +kernel) hown (by decide +kernel) (by decide +kernel) (by decide +kernel) (hts _ wm576) (hts _ wm16) hsa (xX11_95_hat hts hE) xX11_95_good (EV.un hE) (EV.su hE) hS (hl.1.trans hml.symm) dX11_addConstructor_92 dX11_addConstructor_95 dX11_addConstructor_96 (Or.inl ⟨rfl, rfl⟩) dX11_addConstructor_98 dX11_addConstructor_101 (fun x hx => (hout0 x hx).elim) (Nat.le_of_ble_eq_true rfl) (Nat.le_of_ble_eq_true rfl) (Nat.le_of_ble_eq_true rfl) (Nat.le_of_ble_eq_true rfl) hlocks (fun t ha hz hk => ⟨(), trivial, ⟨rfl, va_Pgrow hP hk, hD⟩, xF hS hz hk⟩) hS.2.2 (Nat.le_of_ble_eq_true rfl) (Nat.le_of_ble_eq_true rfl)
                · rw [if_neg c_45] at hm
                  refine lv_iconst (v := 1) hx hb dX11_addConstructor_80 (by decide) ?_
                  refine lv_goto (tgt := 85) hx hb dX11_addConstructor_81 (by decide) ?_
                  refine lv_istore (lv' := [(6, .int 1), (0, .ref (a.1 0)), (1, .int p1), (2, .int p2), (3, .int p3), (4, .int p4), (5, .int p5)]) hx hb dX11_addConstructor_85 hl (by decide) rfl (fun ls hl => ?_)
                  refine lv_iload hx hb dX11_addConstructor_87 (lv_at hl 0 rfl) ?_
                  refine lv_if_ne (tgt := 102) hx hb dX11_addConstructor_89 (by decide) (fun _ => ?_) (fun c => absurd c (by decide))
                  refine lv_aload_n hx hb dX11_addConstructor_102 rfl (lv_at hl 1 rfl) ?_
                  refine va_get (D := DG G) (ci := 10) (v := .ref (a.1 13)) (C := RX11) (T := TX11) (N := 10) hx hb hts inW_X11 hown hK hP 0 rfl rfl 2 (by decide) (hts _ wm286) (fun _ h9 => h9) rfl dX11_addConstructor_103 ?_
                  refine va_getN (D := DG G) (ci := 6) (v := .int S.2.1) (C := RX7) (T := TX7) (N := 10) hx hb hts inW_X7 hown hK hP 13 rfl rfl 9 (by decide) (va_Nw.use rfl (hE.1 _ nw107)) (fun _ h9 => h9) rfl dX11_addConstructor_106 ?_
                  refine lv_bipush (v := 16) hx hb dX11_addConstructor_109 (by decide) ?_
                  refine lv_icmp_ge (tgt := 135) hx hb dX11_addConstructor_111 (by decide) (fun c_46 => ?_) (fun c_46 => ?_)
                  · rw [if_pos c_46] at hm
                    simp only [Option.some.injEq, Prod.mk.injEq] at hm
                    obtain ⟨rfl, rfl, rfl, rfl⟩ := hm
                    subst hAe
                    obtain ⟨sa, hsa⟩ := hE.2.1 _ stm14
                    exact vx_throwS (names := ["java/lang/RuntimeException", "java/lang/Exception"]) (A := _) (free := _) hx hb hfl hown (by decide +kernel) (by decide +kernel) (hts _ wm669) (hts _ wm14) hsa (xX11_113_hat hts hE) xX11_113_good (EV.un hE) (EV.su hE) hS (hl.1.trans hml.symm) dX11_addConstructor_135 dX11_addConstructor_138 dX11_addConstructor_139 dX11_addConstructor_141 dX11_addConstructor_144 (fun x hx => (hout0 x hx).elim) (Nat.le_of_ble_eq_true rfl) (Nat.le_of_ble_eq_true rfl) (Nat.le_of_ble_eq_true rfl) (Nat.le_of_ble_eq_true rfl) hlocks (fun t ha hz hk => ⟨(), trivial, ⟨rfl, va_Pgrow hP hk, hD⟩, xF hS hz hk⟩) hS.2.2 (Nat.le_of_ble_eq_true rfl) (Nat.le_of_ble_eq_true rfl)
                  · rw [if_neg c_46] at hm
                    refine lv_aload_n hx hb dX11_addConstructor_114 rfl (lv_at hl 1 rfl) ?_
                    refine va_get (D := DG G) (ci := 10) (v := .ref (a.1 13)) (C := RX11) (T := TX11) (N := 10) hx hb hts inW_X11 hown hK hP 0 rfl rfl 2 (by decide) (hts _ wm286) (fun _ h9 => h9) rfl dX11_addConstructor_115 ?_
                    refine lv_iload_n hx hb dX11_addConstructor_118 rfl (lv_at hl 2 rfl) ?_
                    obtain ⟨q_47, hq_47, hm⟩ := bind_some hm
                    have hFc := free_all hD hS hA
                    refine va_calli (va_runV (As := [.int p1]) (rest := []) ⟨hx, hb, hml, hown, hts⟩ (K_X7_wasSplit l hfl G a T F U S D R M N P p1  q_47 hq_47 H.size) (cwV 1 hts (gV wm795 wm796 wm797 wm4 wm798) rfl rfl rfl (by decide +kernel) ⟨Nat.le_of_ble_eq_true rfl, Nat.le_of_ble_eq_true rfl⟩) (pre_v (pre_w hK hP hD hS hE hFc) (va_recv hK hP (ci := 6) (q0 := 13) rfl rfl)) rfl rfl hl.1 rfl (lv_room (Nat.le_of_ble_eq_true rfl)) dX11_addConstructor_119 ⟨Nat.le_of_ble_eq_true rfl, Nat.le_of_ble_eq_true rfl⟩) hS (fun q _ h => hFc q h) hFc (fun r u t H locs ht hvm hw hB hz1 hk1 hS => ?_)
                    rw [show r = q_47 from hw]
                    have hP : va_P (DG G) clP3 (wC G a T F U S D R M N P) H := by rw [← ht]; exact hB.1
                    have hD : va_D A (wC G a T F U S D R M N P) := hB.2.weaken (fun _ p _ h => hFc p.1 h)
                    clear hB hFc hw hk1
                    refine W.widen (k := 0) (n := 0) (Nat.le_of_ble_eq_true rfl) (Nat.le_of_ble_eq_true rfl) ?_
                    refine lv_if_ne (tgt := 135) hx hb dX11_addConstructor_122 (by decide) (fun c_48 => ?_) (fun c_48 => ?_)
                    · rw [if_neg c_48] at hm
                      simp only [Option.some.injEq, Prod.mk.injEq] at hm
                      obtain ⟨rfl, rfl, rfl, rfl⟩ := hm
                      subst hAe
                      obtain ⟨sa, hsa⟩ := hE.2.1 _ stm14
                      exact vx_throwS (names := ["java/lang/RuntimeException", "java/lang/Exception"]) (A := _) (free := _) hx hb hfl hown (by decide +kernel) (by decide +kernel) (hts _ wm669) (hts _ wm14) hsa (xX11_113_hat hts hE) xX11_113_good (EV.un hE) (EV.su hE) hS (hl.1.trans hml.symm) dX11_addConstructor_135 dX11_addConstructor_138 dX11_addConstructor_139 dX11_addConstructor_141 dX11_addConstructor_144 (fun x hx => (hout0 x hx).elim) (Nat.le_of_ble_eq_true rfl) (Nat.le_of_ble_eq_true rfl) (Nat.le_of_ble_eq_true rfl) (Nat.le_of_ble_eq_true rfl) hlocks (fun t ha hz hk => ⟨(), trivial, ⟨rfl, va_Pgrow hP hk, hD⟩, xF hS hz hk⟩) hS.2.2 (Nat.le_of_ble_eq_true rfl) (Nat.le_of_ble_eq_true rfl)
                    · rw [if_pos c_48] at hm
                      refine lv_aload_n hx hb dX11_addConstructor_125 rfl (lv_at hl 1 rfl) ?_
                      refine va_get (D := DG G) (ci := 10) (v := .ref (a.1 21)) (C := RX11) (T := TX11) (N := 10) hx hb hts inW_X11 hown hK hP 0 rfl rfl 3 (by decide) (hts _ wm287) (fun _ h9 => h9) rfl dX11_addConstructor_126 ?_
                      refine va_getN (D := DG G) (ci := 0) (v := .int D.2.2) (C := RX0) (T := TX0) (N := 8) hx hb hts inW_X0 hown hK hP 21 rfl rfl 7 (by decide) (va_Nw.use rfl (hE.1 _ nw151)) (fun _ h9 => h9) rfl dX11_addConstructor_129 ?_
                      refine lv_if_eq (tgt := 145) hx hb dX11_addConstructor_132 (by decide) (fun c_49 => ?_) (fun c_49 => ?_)
                      · rw [if_pos c_49] at hm
                        refine lv_aload_n hx hb dX11_addConstructor_145 rfl (lv_at hl 1 rfl) ?_
                        refine va_get (D := DG G) (ci := 10) (v := .ref (a.1 13)) (C := RX11) (T := TX11) (N := 10) hx hb hts inW_X11 hown hK hP 0 rfl rfl 2 (by decide) (hts _ wm286) (fun _ h9 => h9) rfl dX11_addConstructor_146 ?_
                        refine lv_iload_n hx hb dX11_addConstructor_149 rfl (lv_at hl 2 rfl) ?_
                        refine lv_iload_n hx hb dX11_addConstructor_150 rfl (lv_at hl 3 rfl) ?_
                        refine lv_iload_n hx hb dX11_addConstructor_151 rfl (lv_at hl 4 rfl) ?_
                        refine lv_iload hx hb dX11_addConstructor_152 (lv_at hl 5 rfl) ?_
                        refine lv_iload hx hb dX11_addConstructor_154 (lv_at hl 6 rfl) ?_
                        obtain ⟨q_50, hq_50, hm⟩ := bind_some hm
                        have hFc := free_all hD hS hA
                        refine va_calli (va_runV (As := [.int p1, .int p2, .int p3, .int p4, .int p5]) (rest := []) ⟨hx, hb, hml, hown, hts⟩ (K_X7_enterConstructor l hfl G a T F U S D R M N P p1 p2 p3 p4 p5  q_50.1 q_50.2.1 q_50.2.2 hq_50 H.size) (cwV 5 hts (gV wm801 wm802 wm803 wm4 wm804) rfl rfl rfl (by decide +kernel) ⟨Nat.le_of_ble_eq_true rfl, Nat.le_of_ble_eq_true rfl⟩) (pre_v (pre_w hK hP hD hS hE hFc) (va_recv hK hP (ci := 6) (q0 := 13) rfl rfl)) rfl rfl hl.1 rfl (lv_room (Nat.le_of_ble_eq_true rfl)) dX11_addConstructor_156 ⟨Nat.le_of_ble_eq_true rfl, Nat.le_of_ble_eq_true rfl⟩) hS (fun q _ h => hFc q h) hFc (fun r u t H locs ht hvm hw hB hz1 hk1 hS => ?_)
                        rw [show r = q_50.1 from hw]
                        have hP : va_P (DG G) clP3 (wC G a q_50.2.1 F U q_50.2.2 D R M N P) H := by rw [← ht]; exact hB.1
                        have hD : va_D A (wC G a q_50.2.1 F U q_50.2.2 D R M N P) := hB.2.weaken (fun _ p _ h => hFc p.1 h)
                        clear hB hFc hw hk1
                        refine W.widen (k := 0) (n := 0) (Nat.le_of_ble_eq_true rfl) (Nat.le_of_ble_eq_true rfl) ?_
                        simp only [Option.some.injEq, Prod.mk.injEq] at hm
                        obtain ⟨rfl, rfl, rfl, rfl⟩ := hm
                        subst hAe
                        refine W.widen (k := 1) (n := 6) (Nat.le_of_ble_eq_true rfl) (Nat.le_of_ble_eq_true rfl) ?_
                        exact vx_ret (W.iret (v := q_50.1) hx hb hr (fun t ht hW => ⟨⟨q_50.1, (), rfl, ⟨rfl, rfl⟩, ⟨by rw [ht]; exact hP, hD⟩⟩, hS.F ht⟩) hS.2.2 dX11_addConstructor_159 hlocks)
                      · rw [if_neg c_49] at hm
                        simp only [Option.some.injEq, Prod.mk.injEq] at hm
                        obtain ⟨rfl, rfl, rfl, rfl⟩ := hm
                        subst hAe
                        obtain ⟨sa, hsa⟩ := hE.2.1 _ stm14
                        exact vx_throwS (names := ["java/lang/RuntimeException", "java/lang/Exception"]) (A := _) (free := _) hx hb hfl hown (by decide +kernel) (by decide +kernel) (hts _ wm669) (hts _ wm14) hsa (xX11_113_hat hts hE) xX11_113_good (EV.un hE) (EV.su hE) hS (hl.1.trans hml.symm) dX11_addConstructor_135 dX11_addConstructor_138 dX11_addConstructor_139 dX11_addConstructor_141 dX11_addConstructor_144 (fun x hx => (hout0 x hx).elim) (Nat.le_of_ble_eq_true rfl) (Nat.le_of_ble_eq_true rfl) (Nat.le_of_ble_eq_true rfl) (Nat.le_of_ble_eq_true rfl) hlocks (fun t ha hz hk => ⟨(), trivial, ⟨rfl, va_Pgrow hP hk, hD⟩, xF hS hz hk⟩) hS.2.2 (Nat.le_of_ble_eq_true rfl) (Nat.le_of_ble_eq_true rfl)
            · rw [if_neg c_37] at hm
              refine lv_aload_n hx hb dX11_addConstructor_51 rfl (lv_at hl 0 rfl) ?_
              refine va_get (D := DG G) (ci := 10) (v := .ref (a.1 13)) (C := RX11) (T := TX11) (N := 10) hx hb hts inW_X11 hown hK hP 0 rfl rfl 2 (by decide) (hts _ wm286) (fun _ h9 => h9) rfl dX11_addConstructor_52 ?_
              refine lv_iload hx hb dX11_addConstructor_55 (lv_at hl 4 rfl) ?_
              obtain ⟨q_51, hq_51, hm⟩ := bind_some hm
              have hFc := free_all hD hS hA
              refine va_calli (va_runV (As := [.int p4]) (rest := []) ⟨hx, hb, hml, hown, hts⟩ (K_X7_hasData l hfl G a T F U S D R M N P p4  q_51 hq_51 H.size) (cwV 1 hts (gV wm753 wm754 wm755 wm4 wm756) rfl rfl rfl (by decide +kernel) ⟨Nat.le_of_ble_eq_true rfl, Nat.le_of_ble_eq_true rfl⟩) (pre_v (pre_w hK hP hD hS hE hFc) (va_recv hK hP (ci := 6) (q0 := 13) rfl rfl)) rfl rfl hl.1 rfl (lv_room (Nat.le_of_ble_eq_true rfl)) dX11_addConstructor_57 ⟨Nat.le_of_ble_eq_true rfl, Nat.le_of_ble_eq_true rfl⟩) hS (fun q _ h => hFc q h) hFc (fun r u t H locs ht hvm hw hB hz1 hk1 hS => ?_)
              rw [show r = q_51 from hw]
              have hP : va_P (DG G) clP3 (wC G a T F U S D R M N P) H := by rw [← ht]; exact hB.1
              have hD : va_D A (wC G a T F U S D R M N P) := hB.2.weaken (fun _ p _ h => hFc p.1 h)
              clear hB hFc hw hk1
              refine W.widen (k := 0) (n := 0) (Nat.le_of_ble_eq_true rfl) (Nat.le_of_ble_eq_true rfl) ?_
              refine lv_if_eq (tgt := 84) hx hb dX11_addConstructor_60 (by decide) (fun c_52 => ?_) (fun c_52 => ?_)
              · rw [if_pos c_52] at hm
                refine lv_iconst (v := 0) hx hb dX11_addConstructor_84 (by decide) ?_
                refine lv_istore (lv' := [(6, .int 0), (0, .ref (a.1 0)), (1, .int p1), (2, .int p2), (3, .int p3), (4, .int p4), (5, .int p5)]) hx hb dX11_addConstructor_85 hl (by decide) rfl (fun ls hl => ?_)
                refine lv_iload hx hb dX11_addConstructor_87 (lv_at hl 0 rfl) ?_
                refine lv_if_ne (tgt := 102) hx hb dX11_addConstructor_89 (by decide) (fun c => absurd (by decide) c) (fun _ => ?_)
                simp only [Option.some.injEq, Prod.mk.injEq] at hm
                obtain ⟨rfl, rfl, rfl, rfl⟩ := hm
                subst hAe
                obtain ⟨sa, hsa⟩ := hE.2.1 _ stm10
                exact tx_throwSW (Y1 := "java/lang/RuntimeException") (r := ["java/lang/Exception"]) (ix := 13) (rx := prog_32_method_4_code) (A := _) (free := _) hx hb hfl (by decide +kernel) (by decide +kernel) (by decide +kernel) (by decide +kernel) hown (by decide +kernel) (by decide +kernel) (by decide +kernel) (hts _ wm576) (hts _ wm16) hsa (xX11_95_hat hts hE) xX11_95_good (EV.un hE) (EV.su hE) hS (hl.1.trans hml.symm) dX11_addConstructor_92 dX11_addConstructor_95 dX11_addConstructor_96 (Or.inl ⟨rfl, rfl⟩) dX11_addConstructor_98 dX11_addConstructor_101 (fun x hx => (hout0 x hx).elim) (Nat.le_of_ble_eq_true rfl) (Nat.le_of_ble_eq_true rfl) (Nat.le_of_ble_eq_true rfl) (Nat.le_of_ble_eq_true rfl) hlocks (fun t ha hz hk => ⟨(), trivial, ⟨rfl, va_Pgrow hP hk, hD⟩, xF hS hz hk⟩) hS.2.2 (Nat.le_of_ble_eq_true rfl) (Nat.le_of_ble_eq_true rfl)
              · rw [if_neg c_52] at hm
                refine lv_iload_n hx hb dX11_addConstructor_63 rfl (lv_at hl 2 rfl) ?_
                refine lv_iconst (v := 3) hx hb dX11_addConstructor_64 (by decide) ?_
                refine lv_icmp_lt (tgt := 80) hx hb dX11_addConstructor_65 (by decide) (fun c_53 => ?_) (fun c_53 => ?_)
                · rw [if_pos c_53] at hm
                  refine lv_iconst (v := 1) hx hb dX11_addConstructor_80 (by decide) ?_
                  refine lv_goto (tgt := 85) hx hb dX11_addConstructor_81 (by decide) ?_
                  refine lv_istore (lv' := [(6, .int 1), (0, .ref (a.1 0)), (1, .int p1), (2, .int p2), (3, .int p3), (4, .int p4), (5, .int p5)]) hx hb dX11_addConstructor_85 hl (by decide) rfl (fun ls hl => ?_)
                  refine lv_iload hx hb dX11_addConstructor_87 (lv_at hl 0 rfl) ?_
                  refine lv_if_ne (tgt := 102) hx hb dX11_addConstructor_89 (by decide) (fun _ => ?_) (fun c => absurd c (by decide))
                  refine lv_aload_n hx hb dX11_addConstructor_102 rfl (lv_at hl 1 rfl) ?_
                  refine va_get (D := DG G) (ci := 10) (v := .ref (a.1 13)) (C := RX11) (T := TX11) (N := 10) hx hb hts inW_X11 hown hK hP 0 rfl rfl 2 (by decide) (hts _ wm286) (fun _ h9 => h9) rfl dX11_addConstructor_103 ?_
                  refine va_getN (D := DG G) (ci := 6) (v := .int S.2.1) (C := RX7) (T := TX7) (N := 10) hx hb hts inW_X7 hown hK hP 13 rfl rfl 9 (by decide) (va_Nw.use rfl (hE.1 _ nw107)) (fun _ h9 => h9) rfl dX11_addConstructor_106 ?_
                  refine lv_bipush (v := 16) hx hb dX11_addConstructor_109 (by decide) ?_
                  refine lv_icmp_ge (tgt := 135) hx hb dX11_addConstructor_111 (by decide) (fun c_54 => ?_) (fun c_54 => ?_)
                  · rw [if_pos c_54] at hm
                    simp only [Option.some.injEq, Prod.mk.injEq] at hm
                    obtain ⟨rfl, rfl, rfl, rfl⟩ := hm
                    subst hAe
                    obtain ⟨sa, hsa⟩ := hE.2.1 _ stm14
                    exact vx_throwS (names := ["java/lang/RuntimeException", "java/lang/Exception"]) (A := _) (free := _) hx hb hfl hown (by decide +kernel) (by decide +kernel) (hts _ wm669) (hts _ wm14) hsa (xX11_113_hat hts hE) xX11_113_good (EV.un hE) (EV.su hE) hS (hl.1.trans hml.symm) dX11_addConstructor_135 dX11_addConstructor_138 dX11_addConstructor_139 dX11_addConstructor_141 dX11_addConstructor_144 (fun x hx => (hout0 x hx).elim) (Nat.le_of_ble_eq_true rfl) (Nat.le_of_ble_eq_true rfl) (Nat.le_of_ble_eq_true rfl) (Nat.le_of_ble_eq_true rfl) hlocks (fun t ha hz hk => ⟨(), trivial, ⟨rfl, va_Pgrow hP hk, hD⟩, xF hS hz hk⟩) hS.2.2 (Nat.le_of_ble_eq_true rfl) (Nat.le_of_ble_eq_true rfl)
                  · rw [if_neg c_54] at hm
                    refine lv_aload_n hx hb dX11_addConstructor_114 rfl (lv_at hl 1 rfl) ?_
                    refine va_get (D := DG G) (ci := 10) (v := .ref (a.1 13)) (C := RX11) (T := TX11) (N := 10) hx hb hts inW_X11 hown hK hP 0 rfl rfl 2 (by decide) (hts _ wm286) (fun _ h9 => h9) rfl dX11_addConstructor_115 ?_
                    refine lv_iload_n hx hb dX11_addConstructor_118 rfl (lv_at hl 2 rfl) ?_
                    obtain ⟨q_55, hq_55, hm⟩ := bind_some hm
                    have hFc := free_all hD hS hA
                    refine va_calli (va_runV (As := [.int p1]) (rest := []) ⟨hx, hb, hml, hown, hts⟩ (K_X7_wasSplit l hfl G a T F U S D R M N P p1  q_55 hq_55 H.size) (cwV 1 hts (gV wm795 wm796 wm797 wm4 wm798) rfl rfl rfl (by decide +kernel) ⟨Nat.le_of_ble_eq_true rfl, Nat.le_of_ble_eq_true rfl⟩) (pre_v (pre_w hK hP hD hS hE hFc) (va_recv hK hP (ci := 6) (q0 := 13) rfl rfl)) rfl rfl hl.1 rfl (lv_room (Nat.le_of_ble_eq_true rfl)) dX11_addConstructor_119 ⟨Nat.le_of_ble_eq_true rfl, Nat.le_of_ble_eq_true rfl⟩) hS (fun q _ h => hFc q h) hFc (fun r u t H locs ht hvm hw hB hz1 hk1 hS => ?_)
                    rw [show r = q_55 from hw]
                    have hP : va_P (DG G) clP3 (wC G a T F U S D R M N P) H := by rw [← ht]; exact hB.1
                    have hD : va_D A (wC G a T F U S D R M N P) := hB.2.weaken (fun _ p _ h => hFc p.1 h)
                    clear hB hFc hw hk1
                    refine W.widen (k := 0) (n := 0) (Nat.le_of_ble_eq_true rfl) (Nat.le_of_ble_eq_true rfl) ?_
                    refine lv_if_ne (tgt := 135) hx hb dX11_addConstructor_122 (by decide) (fun c_56 => ?_) (fun c_56 => ?_)
                    · rw [if_neg c_56] at hm
                      simp only [Option.some.injEq, Prod.mk.injEq] at hm
                      obtain ⟨rfl, rfl, rfl, rfl⟩ := hm
                      subst hAe
                      obtain ⟨sa, hsa⟩ := hE.2.1 _ stm14
                      exact vx_throwS (names := ["java/lang/RuntimeException", "java/lang/Exception"]) (A := _) (free := _) hx hb hfl hown (by decide +kernel) (by decide +kernel) (hts _ wm669) (hts _ wm14) hsa (xX11_113_hat hts hE) xX11_113_good (EV.un hE) (EV.su hE) hS (hl.1.trans hml.symm) dX11_addConstructor_135 dX11_addConstructor_138 dX11_addConstructor_139 dX11_addConstructor_141 dX11_addConstructor_144 (fun x hx => (hout0 x hx).elim) (Nat.le_of_ble_eq_true rfl) (Nat.le_of_ble_eq_true rfl) (Nat.le_of_ble_eq_true rfl) (Nat.le_of_ble_eq_true rfl) hlocks (fun t ha hz hk => ⟨(), trivial, ⟨rfl, va_Pgrow hP hk, hD⟩, xF hS hz hk⟩) hS.2.2 (Nat.le_of_ble_eq_true rfl) (Nat.le_of_ble_eq_true rfl)
                    · rw [if_pos c_56] at hm
                      refine lv_aload_n hx hb dX11_addConstructor_125 rfl (lv_at hl 1 rfl) ?_
                      refine va_get (D := DG G) (ci := 10) (v := .ref (a.1 21)) (C := RX11) (T := TX11) (N := 10) hx hb hts inW_X11 hown hK hP 0 rfl rfl 3 (by decide) (hts _ wm287) (fun _ h9 => h9) rfl dX11_addConstructor_126 ?_
                      refine va_getN (D := DG G) (ci := 0) (v := .int D.2.2) (C := RX0) (T := TX0) (N := 8) hx hb hts inW_X0 hown hK hP 21 rfl rfl 7 (by decide) (va_Nw.use rfl (hE.1 _ nw151)) (fun _ h9 => h9) rfl dX11_addConstructor_129 ?_
                      refine lv_if_eq (tgt := 145) hx hb dX11_addConstructor_132 (by decide) (fun c_57 => ?_) (fun c_57 => ?_)
                      · rw [if_pos c_57] at hm
                        refine lv_aload_n hx hb dX11_addConstructor_145 rfl (lv_at hl 1 rfl) ?_
                        refine va_get (D := DG G) (ci := 10) (v := .ref (a.1 13)) (C := RX11) (T := TX11) (N := 10) hx hb hts inW_X11 hown hK hP 0 rfl rfl 2 (by decide) (hts _ wm286) (fun _ h9 => h9) rfl dX11_addConstructor_146 ?_
                        refine lv_iload_n hx hb dX11_addConstructor_149 rfl (lv_at hl 2 rfl) ?_
                        refine lv_iload_n hx hb dX11_addConstructor_150 rfl (lv_at hl 3 rfl) ?_
                        refine lv_iload_n hx hb dX11_addConstructor_151 rfl (lv_at hl 4 rfl) ?_
                        refine lv_iload hx hb dX11_addConstructor_152 (lv_at hl 5 rfl) ?_
                        refine lv_iload hx hb dX11_addConstructor_154 (lv_at hl 6 rfl) ?_
                        obtain ⟨q_58, hq_58, hm⟩ := bind_some hm
                        have hFc := free_all hD hS hA
                        refine va_calli (va_runV (As := [.int p1, .int p2, .int p3, .int p4, .int p5]) (rest := []) ⟨hx, hb, hml, hown, hts⟩ (K_X7_enterConstructor l hfl G a T F U S D R M N P p1 p2 p3 p4 p5  q_58.1 q_58.2.1 q_58.2.2 hq_58 H.size) (cwV 5 hts (gV wm801 wm802 wm803 wm4 wm804) rfl rfl rfl (by decide +kernel) ⟨Nat.le_of_ble_eq_true rfl, Nat.le_of_ble_eq_true rfl⟩) (pre_v (pre_w hK hP hD hS hE hFc) (va_recv hK hP (ci := 6) (q0 := 13) rfl rfl)) rfl rfl hl.1 rfl (lv_room (Nat.le_of_ble_eq_true rfl)) dX11_addConstructor_156 ⟨Nat.le_of_ble_eq_true rfl, Nat.le_of_ble_eq_true rfl⟩) hS (fun q _ h => hFc q h) hFc (fun r u t H locs ht hvm hw hB hz1 hk1 hS => ?_)
                        rw [show r = q_58.1 from hw]
                        have hP : va_P (DG G) clP3 (wC G a q_58.2.1 F U q_58.2.2 D R M N P) H := by rw [← ht]; exact hB.1
                        have hD : va_D A (wC G a q_58.2.1 F U q_58.2.2 D R M N P) := hB.2.weaken (fun _ p _ h => hFc p.1 h)
                        clear hB hFc hw hk1
                        refine W.widen (k := 0) (n := 0) (Nat.le_of_ble_eq_true rfl) (Nat.le_of_ble_eq_true rfl) ?_
                        simp only [Option.some.injEq, Prod.mk.injEq] at hm
                        obtain ⟨rfl, rfl, rfl, rfl⟩ := hm
                        subst hAe
                        refine W.widen (k := 1) (n := 6) (Nat.le_of_ble_eq_true rfl) (Nat.le_of_ble_eq_true rfl) ?_
                        exact vx_ret (W.iret (v := q_58.1) hx hb hr (fun t ht hW => ⟨⟨q_58.1, (), rfl, ⟨rfl, rfl⟩, ⟨by rw [ht]; exact hP, hD⟩⟩, hS.F ht⟩) hS.2.2 dX11_addConstructor_159 hlocks)
                      · rw [if_neg c_57] at hm
                        simp only [Option.some.injEq, Prod.mk.injEq] at hm
                        obtain ⟨rfl, rfl, rfl, rfl⟩ := hm
                        subst hAe
                        obtain ⟨sa, hsa⟩ := hE.2.1 _ stm14
                        exact vx_throwS (names := ["java/lang/RuntimeException", "java/lang/Exception"]) (A := _) (free := _) hx hb hfl hown (by decide +kernel) (by decide +kernel) (hts _ wm669) (hts _ wm14) hsa (xX11_113_hat hts hE) xX11_113_good (EV.un hE) (EV.su hE) hS (hl.1.trans hml.symm) dX11_addConstructor_135 dX11_addConstructor_138 dX11_addConstructor_139 dX11_addConstructor_141 dX11_addConstructor_144 (fun x hx => (hout0 x hx).elim) (Nat.le_of_ble_eq_true rfl) (Nat.le_of_ble_eq_true rfl) (Nat.le_of_ble_eq_true rfl) (Nat.le_of_ble_eq_true rfl) hlocks (fun t ha hz hk => ⟨(), trivial, ⟨rfl, va_Pgrow hP hk, hD⟩, xF hS hz hk⟩) hS.2.2 (Nat.le_of_ble_eq_true rfl) (Nat.le_of_ble_eq_true rfl)
                · rw [if_neg c_53] at hm
                  refine lv_aload_n hx hb dX11_addConstructor_68 rfl (lv_at hl 0 rfl) ?_
                  refine va_get (D := DG G) (ci := 10) (v := .ref (a.1 13)) (C := RX11) (T := TX11) (N := 10) hx hb hts inW_X11 hown hK hP 0 rfl rfl 2 (by decide) (hts _ wm286) (fun _ h9 => h9) rfl dX11_addConstructor_69 ?_
                  refine lv_iload hx hb dX11_addConstructor_72 (lv_at hl 5 rfl) ?_
                  obtain ⟨q_59, hq_59, hm⟩ := bind_some hm
                  have hFc := free_all hD hS hA
                  refine va_calli (va_runV (As := [.int p5]) (rest := []) ⟨hx, hb, hml, hown, hts⟩ (K_X7_hasData l hfl G a T F U S D R M N P p5  q_59 hq_59 H.size) (cwV 1 hts (gV wm753 wm754 wm755 wm4 wm756) rfl rfl rfl (by decide +kernel) ⟨Nat.le_of_ble_eq_true rfl, Nat.le_of_ble_eq_true rfl⟩) (pre_v (pre_w hK hP hD hS hE hFc) (va_recv hK hP (ci := 6) (q0 := 13) rfl rfl)) rfl rfl hl.1 rfl (lv_room (Nat.le_of_ble_eq_true rfl)) dX11_addConstructor_74 ⟨Nat.le_of_ble_eq_true rfl, Nat.le_of_ble_eq_true rfl⟩) hS (fun q _ h => hFc q h) hFc (fun r u t H locs ht hvm hw hB hz1 hk1 hS => ?_)
                  rw [show r = q_59 from hw]
                  have hP : va_P (DG G) clP3 (wC G a T F U S D R M N P) H := by rw [← ht]; exact hB.1
                  have hD : va_D A (wC G a T F U S D R M N P) := hB.2.weaken (fun _ p _ h => hFc p.1 h)
                  clear hB hFc hw hk1
                  refine W.widen (k := 0) (n := 0) (Nat.le_of_ble_eq_true rfl) (Nat.le_of_ble_eq_true rfl) ?_
                  refine lv_if_eq (tgt := 84) hx hb dX11_addConstructor_77 (by decide) (fun c_60 => ?_) (fun c_60 => ?_)
                  · rw [if_pos c_60] at hm
                    refine lv_iconst (v := 0) hx hb dX11_addConstructor_84 (by decide) ?_
                    refine lv_istore (lv' := [(6, .int 0), (0, .ref (a.1 0)), (1, .int p1), (2, .int p2), (3, .int p3), (4, .int p4), (5, .int p5)]) hx hb dX11_addConstructor_85 hl (by decide) rfl (fun ls hl => ?_)
                    refine lv_iload hx hb dX11_addConstructor_87 (lv_at hl 0 rfl) ?_
                    refine lv_if_ne (tgt := 102) hx hb dX11_addConstructor_89 (by decide) (fun c => absurd (by decide) c) (fun _ => ?_)
                    simp only [Option.some.injEq, Prod.mk.injEq] at hm
                    obtain ⟨rfl, rfl, rfl, rfl⟩ := hm
                    subst hAe
                    obtain ⟨sa, hsa⟩ := hE.2.1 _ stm10
                    exact tx_throwSW (Y1 := "java/lang/RuntimeException") (r := ["java/lang/Exception"]) (ix := 13) (rx := prog_32_method_4_code) (A := _) (free := _) hx hb hfl (by decide +kernel) (by decide +kernel) (by decide +kernel) (by decide +kernel) hown (by decide +kernel) (by decide +kernel) (by decide +kernel) (hts _ wm576) (hts _ wm16) hsa (xX11_95_hat hts hE) xX11_95_good (EV.un hE) (EV.su hE) hS (hl.1.trans hml.symm) dX11_addConstructor_92 dX11_addConstructor_95 dX11_addConstructor_96 (Or.inl ⟨rfl, rfl⟩) dX11_addConstructor_98 dX11_addConstructor_101 (fun x hx => (hout0 x hx).elim) (Nat.le_of_ble_eq_true rfl) (Nat.le_of_ble_eq_true rfl) (Nat.le_of_ble_eq_true rfl) (Nat.le_of_ble_eq_true rfl) hlocks (fun t ha hz hk => ⟨(), trivial, ⟨rfl, va_Pgrow hP hk, hD⟩, xF hS hz hk⟩) hS.2.2 (Nat.le_of_ble_eq_true rfl) (Nat.le_of_ble_eq_true rfl)
                  · rw [if_neg c_60] at hm
                    refine lv_iconst (v := 1) hx hb dX11_addConstructor_80 (by decide) ?_
                    refine lv_goto (tgt := 85) hx hb dX11_addConstructor_81 (by decide) ?_
                    refine lv_istore (lv' := [(6, .int 1), (0, .ref (a.1 0)), (1, .int p1), (2, .int p2), (3, .int p3), (4, .int p4), (5, .int p5)]) hx hb dX11_addConstructor_85 hl (by decide) rfl (fun ls hl => ?_)
                    refine lv_iload hx hb dX11_addConstructor_87 (lv_at hl 0 rfl) ?_
                    refine lv_if_ne (tgt := 102) hx hb dX11_addConstructor_89 (by decide) (fun _ => ?_) (fun c => absurd c (by decide))
                    refine lv_aload_n hx hb dX11_addConstructor_102 rfl (lv_at hl 1 rfl) ?_
                    refine va_get (D := DG G) (ci := 10) (v := .ref (a.1 13)) (C := RX11) (T := TX11) (N := 10) hx hb hts inW_X11 hown hK hP 0 rfl rfl 2 (by decide) (hts _ wm286) (fun _ h9 => h9) rfl dX11_addConstructor_103 ?_
                    refine va_getN (D := DG G) (ci := 6) (v := .int S.2.1) (C := RX7) (T := TX7) (N := 10) hx hb hts inW_X7 hown hK hP 13 rfl rfl 9 (by decide) (va_Nw.use rfl (hE.1 _ nw107)) (fun _ h9 => h9) rfl dX11_addConstructor_106 ?_
                    refine lv_bipush (v := 16) hx hb dX11_addConstructor_109 (by decide) ?_
                    refine lv_icmp_ge (tgt := 135) hx hb dX11_addConstructor_111 (by decide) (fun c_61 => ?_) (fun c_61 => ?_)
                    · rw [if_pos c_61] at hm
                      simp only [Option.some.injEq, Prod.mk.injEq] at hm
                      obtain ⟨rfl, rfl, rfl, rfl⟩ := hm
                      subst hAe
                      obtain ⟨sa, hsa⟩ := hE.2.1 _ stm14
                      exact vx_throwS (names := ["java/lang/RuntimeException", "java/lang/Exception"]) (A := _) (free := _) hx hb hfl hown (by decide +kernel) (by decide +kernel) (hts _ wm669) (hts _ wm14) hsa (xX11_113_hat hts hE) xX11_113_good (EV.un hE) (EV.su hE) hS (hl.1.trans hml.symm) dX11_addConstructor_135 dX11_addConstructor_138 dX11_addConstructor_139 dX11_addConstructor_141 dX11_addConstructor_144 (fun x hx => (hout0 x hx).elim) (Nat.le_of_ble_eq_true rfl) (Nat.le_of_ble_eq_true rfl) (Nat.le_of_ble_eq_true rfl) (Nat.le_of_ble_eq_true rfl) hlocks (fun t ha hz hk => ⟨(), trivial, ⟨rfl, va_Pgrow hP hk, hD⟩, xF hS hz hk⟩) hS.2.2 (Nat.le_of_ble_eq_true rfl) (Nat.le_of_ble_eq_true rfl)
                    · rw [if_neg c_61] at hm
                      refine lv_aload_n hx hb dX11_addConstructor_114 rfl (lv_at hl 1 rfl) ?_
                      refine va_get (D := DG G) (ci := 10) (v := .ref (a.1 13)) (C := RX11) (T := TX11) (N := 10) hx hb hts inW_X11 hown hK hP 0 rfl rfl 2 (by decide) (hts _ wm286) (fun _ h9 => h9) rfl dX11_addConstructor_115 ?_
                      refine lv_iload_n hx hb dX11_addConstructor_118 rfl (lv_at hl 2 rfl) ?_
                      obtain ⟨q_62, hq_62, hm⟩ := bind_some hm
                      have hFc := free_all hD hS hA
                      refine va_calli (va_runV (As := [.int p1]) (rest := []) ⟨hx, hb, hml, hown, hts⟩ (K_X7_wasSplit l hfl G a T F U S D R M N P p1  q_62 hq_62 H.size) (cwV 1 hts (gV wm795 wm796 wm797 wm4 wm798) rfl rfl rfl (by decide +kernel) ⟨Nat.le_of_ble_eq_true rfl, Nat.le_of_ble_eq_true rfl⟩) (pre_v (pre_w hK hP hD hS hE hFc) (va_recv hK hP (ci := 6) (q0 := 13) rfl rfl)) rfl rfl hl.1 rfl (lv_room (Nat.le_of_ble_eq_true rfl)) dX11_addConstructor_119 ⟨Nat.le_of_ble_eq_true rfl, Nat.le_of_ble_eq_true rfl⟩) hS (fun q _ h => hFc q h) hFc (fun r u t H locs ht hvm hw hB hz1 hk1 hS => ?_)
                      rw [show r = q_62 from hw]
                      have hP : va_P (DG G) clP3 (wC G a T F U S D R M N P) H := by rw [← ht]; exact hB.1
                      have hD : va_D A (wC G a T F U S D R M N P) := hB.2.weaken (fun _ p _ h => hFc p.1 h)
                      clear hB hFc hw hk1
                      refine W.widen (k := 0) (n := 0) (Nat.le_of_ble_eq_true rfl) (Nat.le_of_ble_eq_true rfl) ?_
                      refine lv_if_ne (tgt := 135) hx hb dX11_addConstructor_122 (by decide) (fun c_63 => ?_) (fun c_63 => ?_)
                      · rw [if_neg c_63] at hm
                        simp only [Option.some.injEq, Prod.mk.injEq] at hm
                        obtain ⟨rfl, rfl, rfl, rfl⟩ := hm
                        subst hAe
                        obtain ⟨sa, hsa⟩ := hE.2.1 _ stm14
                        exact vx_throwS (names := ["java/lang/RuntimeException", "java/lang/Exception"]) (A := _) (free := _) hx hb hfl hown (by decide +kernel) (by decide +kernel) (hts _ wm669) (hts _ wm14) hsa (xX11_113_hat hts hE) xX11_113_good (EV.un hE) (EV.su hE) hS (hl.1.trans hml.symm) dX11_addConstructor_135 dX11_addConstructor_138 dX11_addConstructor_139 dX11_addConstructor_141 dX11_addConstructor_144 (fun x hx => (hout0 x hx).elim) (Nat.le_of_ble_eq_true rfl) (Nat.le_of_ble_eq_true rfl) (Nat.le_of_ble_eq_true rfl) (Nat.le_of_ble_eq_true rfl) hlocks (fun t ha hz hk => ⟨(), trivial, ⟨rfl, va_Pgrow hP hk, hD⟩, xF hS hz hk⟩) hS.2.2 (Nat.le_of_ble_eq_true rfl) (Nat.le_of_ble_eq_true rfl)
                      · rw [if_pos c_63] at hm
                        refine lv_aload_n hx hb dX11_addConstructor_125 rfl (lv_at hl 1 rfl) ?_
                        refine va_get (D := DG G) (ci := 10) (v := .ref (a.1 21)) (C := RX11) (T := TX11) (N := 10) hx hb hts inW_X11 hown hK hP 0 rfl rfl 3 (by decide) (hts _ wm287) (fun _ h9 => h9) rfl dX11_addConstructor_126 ?_
                        refine va_getN (D := DG G) (ci := 0) (v := .int D.2.2) (C := RX0) (T := TX0) (N := 8) hx hb hts inW_X0 hown hK hP 21 rfl rfl 7 (by decide) (va_Nw.use rfl (hE.1 _ nw151)) (fun _ h9 => h9) rfl dX11_addConstructor_129 ?_
                        refine lv_if_eq (tgt := 145) hx hb dX11_addConstructor_132 (by decide) (fun c_64 => ?_) (fun c_64 => ?_)
                        · rw [if_pos c_64] at hm
                          refine lv_aload_n hx hb dX11_addConstructor_145 rfl (lv_at hl 1 rfl) ?_
                          refine va_get (D := DG G) (ci := 10) (v := .ref (a.1 13)) (C := RX11) (T := TX11) (N := 10) hx hb hts inW_X11 hown hK hP 0 rfl rfl 2 (by decide) (hts _ wm286) (fun _ h9 => h9) rfl dX11_addConstructor_146 ?_
                          refine lv_iload_n hx hb dX11_addConstructor_149 rfl (lv_at hl 2 rfl) ?_
                          refine lv_iload_n hx hb dX11_addConstructor_150 rfl (lv_at hl 3 rfl) ?_
                          refine lv_iload_n hx hb dX11_addConstructor_151 rfl (lv_at hl 4 rfl) ?_
                          refine lv_iload hx hb dX11_addConstructor_152 (lv_at hl 5 rfl) ?_
                          refine lv_iload hx hb dX11_addConstructor_154 (lv_at hl 6 rfl) ?_
                          obtain ⟨q_65, hq_65, hm⟩ := bind_some hm
                          have hFc := free_all hD hS hA
                          refine va_calli (va_runV (As := [.int p1, .int p2, .int p3, .int p4, .int p5]) (rest := []) ⟨hx, hb, hml, hown, hts⟩ (K_X7_enterConstructor l hfl G a T F U S D R M N P p1 p2 p3 p4 p5  q_65.1 q_65.2.1 q_65.2.2 hq_65 H.size) (cwV 5 hts (gV wm801 wm802 wm803 wm4 wm804) rfl rfl rfl (by decide +kernel) ⟨Nat.le_of_ble_eq_true rfl, Nat.le_of_ble_eq_true rfl⟩) (pre_v (pre_w hK hP hD hS hE hFc) (va_recv hK hP (ci := 6) (q0 := 13) rfl rfl)) rfl rfl hl.1 rfl (lv_room (Nat.le_of_ble_eq_true rfl)) dX11_addConstructor_156 ⟨Nat.le_of_ble_eq_true rfl, Nat.le_of_ble_eq_true rfl⟩) hS (fun q _ h => hFc q h) hFc (fun r u t H locs ht hvm hw hB hz1 hk1 hS => ?_)
                          rw [show r = q_65.1 from hw]
                          have hP : va_P (DG G) clP3 (wC G a q_65.2.1 F U q_65.2.2 D R M N P) H := by rw [← ht]; exact hB.1
                          have hD : va_D A (wC G a q_65.2.1 F U q_65.2.2 D R M N P) := hB.2.weaken (fun _ p _ h => hFc p.1 h)
                          clear hB hFc hw hk1
                          refine W.widen (k := 0) (n := 0) (Nat.le_of_ble_eq_true rfl) (Nat.le_of_ble_eq_true rfl) ?_
                          simp only [Option.some.injEq, Prod.mk.injEq] at hm
                          obtain ⟨rfl, rfl, rfl, rfl⟩ := hm
                          subst hAe
                          refine W.widen (k := 1) (n := 6) (Nat.le_of_ble_eq_true rfl) (Nat.le_of_ble_eq_true rfl) ?_
                          exact vx_ret (W.iret (v := q_65.1) hx hb hr (fun t ht hW => ⟨⟨q_65.1, (), rfl, ⟨rfl, rfl⟩, ⟨by rw [ht]; exact hP, hD⟩⟩, hS.F ht⟩) hS.2.2 dX11_addConstructor_159 hlocks)
                        · rw [if_neg c_64] at hm
                          simp only [Option.some.injEq, Prod.mk.injEq] at hm
                          obtain ⟨rfl, rfl, rfl, rfl⟩ := hm
                          subst hAe
                          obtain ⟨sa, hsa⟩ := hE.2.1 _ stm14
                          exact vx_throwS (names := ["java/lang/RuntimeException", "java/lang/Exception"]) (A := _) (free := _) hx hb hfl hown (by decide +kernel) (by decide +kernel) (hts _ wm669) (hts _ wm14) hsa (xX11_113_hat hts hE) xX11_113_good (EV.un hE) (EV.su hE) hS (hl.1.trans hml.symm) dX11_addConstructor_135 dX11_addConstructor_138 dX11_addConstructor_139 dX11_addConstructor_141 dX11_addConstructor_144 (fun x hx => (hout0 x hx).elim) (Nat.le_of_ble_eq_true rfl) (Nat.le_of_ble_eq_true rfl) (Nat.le_of_ble_eq_true rfl) (Nat.le_of_ble_eq_true rfl) hlocks (fun t ha hz hk => ⟨(), trivial, ⟨rfl, va_Pgrow hP hk, hD⟩, xF hS hz hk⟩) hS.2.2 (Nat.le_of_ble_eq_true rfl) (Nat.le_of_ble_eq_true rfl)
    · rw [if_neg c_2] at hm
      simp only [Option.some.injEq, Prod.mk.injEq] at hm
      obtain ⟨rfl, rfl, rfl, rfl⟩ := hm
      subst hAe
      obtain ⟨sa, hsa⟩ := hE.2.1 _ stm13
      exact vx_throwS (names := ["java/lang/RuntimeException", "java/lang/Exception"]) (A := _) (free := _) hx hb hfl hown (by decide +kernel) (by decide +kernel) (hts _ wm649) (hts _ wm15) hsa (xX11_74_hat hts hE) xX11_74_good (EV.un hE) (EV.su hE) hS (hl.1.trans hml.symm) dX11_addConstructor_9 dX11_addConstructor_12 dX11_addConstructor_13 dX11_addConstructor_15 dX11_addConstructor_18 (fun x hx => (hout0 x hx).elim) (Nat.le_of_ble_eq_true rfl) (Nat.le_of_ble_eq_true rfl) (Nat.le_of_ble_eq_true rfl) (Nat.le_of_ble_eq_true rfl) hlocks (fun t ha hz hk => ⟨(), trivial, ⟨rfl, va_Pgrow hP hk, hD⟩, xF hS hz hk⟩) hS.2.2 (Nat.le_of_ble_eq_true rfl) (Nat.le_of_ble_eq_true rfl)
def f_X11_size (T : TS) (N : NS) (p1 : Int32) : Option (Int32 × Int32) := (Option.bind (f_X11_termAt N p1) (fun q_1 => (if q_1.1 = 0 then (Option.bind (g_X9_sizeOf T q_1.2) (fun q_3 => some (0, q_3))) else some (q_1.1, 0))))
set_option maxHeartbeats 2000000 in
set_option maxRecDepth 100000 in
theorem k_X11_size (l : Launch) (hfl : l.stackTraces = false) (G : GC) (a : AS) (T : TS) (F : FS) (U : US) (S : SS) (D : DS) (R : RS) (M : MS) (N : NS) (P : PS) (hlk : lkA a D.1.toNatClampNeg D.2.1.toNatClampNeg) (p1 : Int32) (k9 : Int32) (r9 : Int32) (hm : f_X11_size T N p1 = some (k9, r9)) (sz : Nat) : vx_Met l yX11_size (Cond.code yX11_size cX11_size 2 (some .int) :: W0) ({ frames := 7, cells := 1, slots := 6, locals := 103 }) (va_Pc [.ref (a.1 0), .int p1] (WD G (wC G a T F U S D R M N P) sz)) (va_Qi (S := Unit) (fun r _ => k9 = 0 ∧ r = r9) (fun _ t => PW G (va_A (wC G a T F U S D R M N P) sz) (wC G a T F U S D R M N P) t) (va_A (wC G a T F U S D R M N P) sz)) (vx_X (fun _ : Unit => True) (fun (E : String) (_ : Unit) (t : State) => xnm k9 = some E ∧ PW G (va_A (wC G a T F U S D R M N P) sz) (wC G a T F U S D R M N P) t) (va_A (wC G a T F U S D R M N P) sz)) 1 6 (va_A (wC G a T F U S D R M N P) sz) := by
  rw [f_X11_size] at hm
  refine vx_ofW (cc := cX11_size) (maxL := 2) (ret := (some .int)) (by decide) rfl ?_
  intro p e s m args below meth c s₁ B hml hout0 hv
  obtain ⟨rfl, hsz, hP, hK, hD0, hE⟩ := hv
  have hx := B.exec
  have hb := B.bytes
  have hr := B.returns
  have hts := w0_tail B.pre
  have hown : s.vm.findClass RX11 = some m.cls := findClass_of_methodNamed B.named
  have hlocks := B.notSynchronized
  have hD := hD0.self (sz := sz)
  obtain ⟨A, hAe⟩ : ∃ A, (va_A (wC G a T F U S D R M N P) sz) = A := ⟨_, rfl⟩
  rw [hAe] at hD hE
  have hA : ∀ q : Nat, s.heap.size ≤ q → A q := fun q h => by rw [← hAe]; exact Or.inr (by rw [← hsz]; exact h)
  have hS : va_S A s.heap s.heap [] := va_S.rf
  obtain ⟨H, hHe⟩ : ∃ H : Heap, H = s.heap := ⟨_, rfl⟩
  have hP : va_P (DG G) clP3 (wC G a T F U S D R M N P) H := by rw [hHe]; exact hP
  have hS : va_S A s.heap H [] := by rw [hHe]; exact hS
  have hl := lv_entry ([.ref (a.1 0), .int p1]) (n := 2) (Nat.le_of_ble_eq_true rfl)
  rw [lg_entry_eq, ← hHe]
  generalize (lg_sl ([.ref (a.1 0), .int p1]) ++ List.replicate (2 - (lg_sl ([.ref (a.1 0), .int p1])).length) Slot.unset).toArray = ls at hl ⊢
  have hl : lv_has ls 2 [(0, .ref (a.1 0)), (1, .int p1)] := hl
  refine lv_aload_n hx hb dX11_size_0 rfl (lv_at hl 0 rfl) ?_
  refine va_get (D := DG G) (ci := 10) (v := .ref (a.1 1)) (C := RX11) (T := TX11) (N := 10) hx hb hts inW_X11 hown hK hP 0 rfl rfl 0 (by decide) (hts _ wm284) (fun _ h9 => h9) rfl dX11_size_1 ?_
  refine lv_aload_n hx hb dX11_size_4 rfl (lv_at hl 0 rfl) ?_
  refine lv_iload_n hx hb dX11_size_5 rfl (lv_at hl 1 rfl) ?_
  obtain ⟨q_1, hq_1, hm⟩ := bind_some hm
  have hFc := free_all hD hS hA
  refine vx_calli (vx_runV (As := [.int p1]) (rest := [.ref (a.1 1)]) ⟨hx, hb, hml, hown, hts⟩ (k_X11_termAt l hfl G a T F U S D R M N P hlk p1  q_1.1 q_1.2 hq_1 H.size) (cwV 1 hts (gV wm319 wm321 ws_p0 wm1 wm322) rfl rfl rfl (by decide +kernel) ⟨Nat.le_of_ble_eq_true rfl, Nat.le_of_ble_eq_true rfl⟩) (pre_v (pre_w hK hP hD hS hE hFc) (va_recv hK hP (ci := 10) (q0 := 0) rfl rfl)) rfl rfl hl.1 rfl (lv_room (Nat.le_of_ble_eq_true rfl)) dX11_size_6 ⟨Nat.le_of_ble_eq_true rfl, Nat.le_of_ble_eq_true rfl⟩) hS (fun q _ h => hFc q h) hFc (fun q _ h => hFc q h) (fun E ce q9 u_2 t H locs ht hvm hpx hBX hz1 hk1 hS hce hv9 hcl => ?_) (fun r u_2 t H locs ht hvm hw hB hz1 hk1 hS => ?_)
  · have hne : ¬ q_1.1 = 0 := xnm_ne hBX.1
    rw [if_neg hne] at hm
    have hX9 := hBX.1
    have hB := hBX.2
    have hP : va_P (DG G) clP3 (wC G a T F U S D R M N P) H := by rw [← ht]; exact hB.1
    have hD : va_D A (wC G a T F U S D R M N P) := hB.2.weaken (fun _ p _ h => hFc p.1 h)
    simp only [Option.some.injEq, Prod.mk.injEq] at hm
    obtain ⟨rfl, rfl⟩ := hm
    subst hAe
    exact vx_out (fun x hx => (hout0 x hx).elim) hlocks hce hv9 hcl (fun t2 ht2 _ => ⟨(), trivial, ⟨hX9, by rw [ht2]; exact hP, hD⟩, hS.F ht2⟩) hS.2.2 (Nat.le_of_ble_eq_true rfl) (Nat.le_of_ble_eq_true rfl)
  · rw [if_pos hw.1] at hm
    rw [show r = q_1.2 from hw.2]
    have hP : va_P (DG G) clP3 (wC G a T F U S D R M N P) H := by rw [← ht]; exact hB.1
    have hD : va_D A (wC G a T F U S D R M N P) := hB.2.weaken (fun _ p _ h => hFc p.1 h)
    refine W.widen (k := 1) (n := 6) (Nat.le_of_ble_eq_true rfl) (Nat.le_of_ble_eq_true rfl) ?_
    obtain ⟨q_3, hq_3, hm⟩ := bind_some hm
    have hFc := free_all hD hS hA
    refine va_calli (va_runV (As := [.int q_1.2]) (rest := []) ⟨hx, hb, hml, hown, hts⟩ (K_X9_sizeOf l hfl G a T F U S D R M N P q_1.2  q_3 hq_3 H.size) (cwV 1 hts (gV wm394 wm395 wm396 wm2 wm397) rfl rfl rfl (by decide +kernel) ⟨Nat.le_of_ble_eq_true rfl, Nat.le_of_ble_eq_true rfl⟩) (pre_v (pre_w hK hP hD hS hE hFc) (va_recv hK hP (ci := 8) (q0 := 1) rfl rfl)) rfl rfl hl.1 rfl (lv_room (Nat.le_of_ble_eq_true rfl)) dX11_size_9 ⟨Nat.le_of_ble_eq_true rfl, Nat.le_of_ble_eq_true rfl⟩) hS (fun q _ h => hFc q h) hFc (fun r u t H locs ht hvm hw hB hz1 hk1 hS => ?_)
    rw [show r = q_3 from hw]
    have hP : va_P (DG G) clP3 (wC G a T F U S D R M N P) H := by rw [← ht]; exact hB.1
    have hD : va_D A (wC G a T F U S D R M N P) := hB.2.weaken (fun _ p _ h => hFc p.1 h)
    clear hB hFc hw hk1
    refine W.widen (k := 1) (n := 6) (Nat.le_of_ble_eq_true rfl) (Nat.le_of_ble_eq_true rfl) ?_
    simp only [Option.some.injEq, Prod.mk.injEq] at hm
    obtain ⟨rfl, rfl⟩ := hm
    subst hAe
    refine W.widen (k := 1) (n := 6) (Nat.le_of_ble_eq_true rfl) (Nat.le_of_ble_eq_true rfl) ?_
    exact vx_ret (W.iret (v := q_3) hx hb hr (fun t ht hW => ⟨⟨q_3, (), rfl, ⟨rfl, rfl⟩, ⟨by rw [ht]; exact hP, hD⟩⟩, hS.F ht⟩) hS.2.2 dX11_size_12 hlocks)
def f_X11_number (T : TS) (N : NS) (p1 : Int32) : Option (Int32 × Int32) := (Option.bind (f_X11_termAt N p1) (fun q_1 => (if q_1.1 = 0 then (Option.bind (g_X9_numberOf T q_1.2) (fun q_3 => some (0, q_3))) else some (q_1.1, 0))))
set_option maxHeartbeats 2000000 in
set_option maxRecDepth 100000 in
theorem k_X11_number (l : Launch) (hfl : l.stackTraces = false) (G : GC) (a : AS) (T : TS) (F : FS) (U : US) (S : SS) (D : DS) (R : RS) (M : MS) (N : NS) (P : PS) (hlk : lkA a D.1.toNatClampNeg D.2.1.toNatClampNeg) (p1 : Int32) (k9 : Int32) (r9 : Int32) (hm : f_X11_number T N p1 = some (k9, r9)) (sz : Nat) : vx_Met l yX11_number (Cond.code yX11_number cX11_number 2 (some .int) :: W0) ({ frames := 7, cells := 1, slots := 6, locals := 103 }) (va_Pc [.ref (a.1 0), .int p1] (WD G (wC G a T F U S D R M N P) sz)) (va_Qi (S := Unit) (fun r _ => k9 = 0 ∧ r = r9) (fun _ t => PW G (va_A (wC G a T F U S D R M N P) sz) (wC G a T F U S D R M N P) t) (va_A (wC G a T F U S D R M N P) sz)) (vx_X (fun _ : Unit => True) (fun (E : String) (_ : Unit) (t : State) => xnm k9 = some E ∧ PW G (va_A (wC G a T F U S D R M N P) sz) (wC G a T F U S D R M N P) t) (va_A (wC G a T F U S D R M N P) sz)) 1 6 (va_A (wC G a T F U S D R M N P) sz) := by
  rw [f_X11_number] at hm
  refine vx_ofW (cc := cX11_number) (maxL := 2) (ret := (some .int)) (by decide) rfl ?_
  intro p e s m args below meth c s₁ B hml hout0 hv
  obtain ⟨rfl, hsz, hP, hK, hD0, hE⟩ := hv
  have hx := B.exec
  have hb := B.bytes
  have hr := B.returns
  have hts := w0_tail B.pre
  have hown : s.vm.findClass RX11 = some m.cls := findClass_of_methodNamed B.named
  have hlocks := B.notSynchronized
  have hD := hD0.self (sz := sz)
  obtain ⟨A, hAe⟩ : ∃ A, (va_A (wC G a T F U S D R M N P) sz) = A := ⟨_, rfl⟩
  rw [hAe] at hD hE
  have hA : ∀ q : Nat, s.heap.size ≤ q → A q := fun q h => by rw [← hAe]; exact Or.inr (by rw [← hsz]; exact h)
  have hS : va_S A s.heap s.heap [] := va_S.rf
  obtain ⟨H, hHe⟩ : ∃ H : Heap, H = s.heap := ⟨_, rfl⟩
  have hP : va_P (DG G) clP3 (wC G a T F U S D R M N P) H := by rw [hHe]; exact hP
  have hS : va_S A s.heap H [] := by rw [hHe]; exact hS
  have hl := lv_entry ([.ref (a.1 0), .int p1]) (n := 2) (Nat.le_of_ble_eq_true rfl)
  rw [lg_entry_eq, ← hHe]
  generalize (lg_sl ([.ref (a.1 0), .int p1]) ++ List.replicate (2 - (lg_sl ([.ref (a.1 0), .int p1])).length) Slot.unset).toArray = ls at hl ⊢
  have hl : lv_has ls 2 [(0, .ref (a.1 0)), (1, .int p1)] := hl
  refine lv_aload_n hx hb dX11_number_0 rfl (lv_at hl 0 rfl) ?_
  refine va_get (D := DG G) (ci := 10) (v := .ref (a.1 1)) (C := RX11) (T := TX11) (N := 10) hx hb hts inW_X11 hown hK hP 0 rfl rfl 0 (by decide) (hts _ wm284) (fun _ h9 => h9) rfl dX11_number_1 ?_
  refine lv_aload_n hx hb dX11_number_4 rfl (lv_at hl 0 rfl) ?_
  refine lv_iload_n hx hb dX11_number_5 rfl (lv_at hl 1 rfl) ?_
  obtain ⟨q_1, hq_1, hm⟩ := bind_some hm
  have hFc := free_all hD hS hA
  refine vx_calli (vx_runV (As := [.int p1]) (rest := [.ref (a.1 1)]) ⟨hx, hb, hml, hown, hts⟩ (k_X11_termAt l hfl G a T F U S D R M N P hlk p1  q_1.1 q_1.2 hq_1 H.size) (cwV 1 hts (gV wm319 wm321 ws_p0 wm1 wm322) rfl rfl rfl (by decide +kernel) ⟨Nat.le_of_ble_eq_true rfl, Nat.le_of_ble_eq_true rfl⟩) (pre_v (pre_w hK hP hD hS hE hFc) (va_recv hK hP (ci := 10) (q0 := 0) rfl rfl)) rfl rfl hl.1 rfl (lv_room (Nat.le_of_ble_eq_true rfl)) dX11_number_6 ⟨Nat.le_of_ble_eq_true rfl, Nat.le_of_ble_eq_true rfl⟩) hS (fun q _ h => hFc q h) hFc (fun q _ h => hFc q h) (fun E ce q9 u_2 t H locs ht hvm hpx hBX hz1 hk1 hS hce hv9 hcl => ?_) (fun r u_2 t H locs ht hvm hw hB hz1 hk1 hS => ?_)
  · have hne : ¬ q_1.1 = 0 := xnm_ne hBX.1
    rw [if_neg hne] at hm
    have hX9 := hBX.1
    have hB := hBX.2
    have hP : va_P (DG G) clP3 (wC G a T F U S D R M N P) H := by rw [← ht]; exact hB.1
    have hD : va_D A (wC G a T F U S D R M N P) := hB.2.weaken (fun _ p _ h => hFc p.1 h)
    simp only [Option.some.injEq, Prod.mk.injEq] at hm
    obtain ⟨rfl, rfl⟩ := hm
    subst hAe
    exact vx_out (fun x hx => (hout0 x hx).elim) hlocks hce hv9 hcl (fun t2 ht2 _ => ⟨(), trivial, ⟨hX9, by rw [ht2]; exact hP, hD⟩, hS.F ht2⟩) hS.2.2 (Nat.le_of_ble_eq_true rfl) (Nat.le_of_ble_eq_true rfl)
  · rw [if_pos hw.1] at hm
    rw [show r = q_1.2 from hw.2]
    have hP : va_P (DG G) clP3 (wC G a T F U S D R M N P) H := by rw [← ht]; exact hB.1
    have hD : va_D A (wC G a T F U S D R M N P) := hB.2.weaken (fun _ p _ h => hFc p.1 h)
    refine W.widen (k := 1) (n := 6) (Nat.le_of_ble_eq_true rfl) (Nat.le_of_ble_eq_true rfl) ?_
    obtain ⟨q_3, hq_3, hm⟩ := bind_some hm
    have hFc := free_all hD hS hA
    refine va_calli (va_runV (As := [.int q_1.2]) (rest := []) ⟨hx, hb, hml, hown, hts⟩ (K_X9_numberOf l hfl G a T F U S D R M N P q_1.2  q_3 hq_3 H.size) (cwV 1 hts (gV wm402 wm403 wm404 wm2 wm405) rfl rfl rfl (by decide +kernel) ⟨Nat.le_of_ble_eq_true rfl, Nat.le_of_ble_eq_true rfl⟩) (pre_v (pre_w hK hP hD hS hE hFc) (va_recv hK hP (ci := 8) (q0 := 1) rfl rfl)) rfl rfl hl.1 rfl (lv_room (Nat.le_of_ble_eq_true rfl)) dX11_number_9 ⟨Nat.le_of_ble_eq_true rfl, Nat.le_of_ble_eq_true rfl⟩) hS (fun q _ h => hFc q h) hFc (fun r u t H locs ht hvm hw hB hz1 hk1 hS => ?_)
    rw [show r = q_3 from hw]
    have hP : va_P (DG G) clP3 (wC G a T F U S D R M N P) H := by rw [← ht]; exact hB.1
    have hD : va_D A (wC G a T F U S D R M N P) := hB.2.weaken (fun _ p _ h => hFc p.1 h)
    clear hB hFc hw hk1
    refine W.widen (k := 1) (n := 6) (Nat.le_of_ble_eq_true rfl) (Nat.le_of_ble_eq_true rfl) ?_
    simp only [Option.some.injEq, Prod.mk.injEq] at hm
    obtain ⟨rfl, rfl⟩ := hm
    subst hAe
    refine W.widen (k := 1) (n := 6) (Nat.le_of_ble_eq_true rfl) (Nat.le_of_ble_eq_true rfl) ?_
    exact vx_ret (W.iret (v := q_3) hx hb hr (fun t ht hW => ⟨⟨q_3, (), rfl, ⟨rfl, rfl⟩, ⟨by rw [ht]; exact hP, hD⟩⟩, hS.F ht⟩) hS.2.2 dX11_number_12 hlocks)
def f_X11_normal (T : TS) (F : FS) (N : NS) (p1 : Int32) : Option (Int32 × Int32 × TS × FS) := (Option.bind (f_X11_termAt N p1) (fun q_1 => (if q_1.1 = 0 then (Option.bind (g_X9_mark T) (fun q_3 => (Option.bind (g_X1_formOf T F q_1.2) (fun q_4 => (Option.bind (f_X11_numberOfScratch q_4.2.1 q_3 q_4.1) (fun q_5 => (if q_5.1 = 0 then some (0, q_5.2.1, q_5.2.2, q_4.2.2) else some (q_5.1, 0, q_5.2.2, q_4.2.2)))))))) else some (q_1.1, 0, T, F))))
set_option maxHeartbeats 2000000 in
set_option maxRecDepth 100000 in
theorem k_X11_normal (l : Launch) (hfl : l.stackTraces = false) (G : GC) (a : AS) (T : TS) (F : FS) (U : US) (S : SS) (D : DS) (R : RS) (M : MS) (N : NS) (P : PS) (hlk : lkA a D.1.toNatClampNeg D.2.1.toNatClampNeg) (p1 : Int32) (k9 : Int32) (r9 : Int32) (T9 : TS) (F9 : FS) (hm : f_X11_normal T F N p1 = some (k9, r9, T9, F9)) (sz : Nat) : vx_Met l yX11_normal (Cond.code yX11_normal cX11_normal 4 (some .int) :: W0) ({ frames := 405, cells := 2, slots := 12, locals := 10517 }) (va_Pc [.ref (a.1 0), .int p1] (WD G (wC G a T F U S D R M N P) sz)) (va_Qi (S := Unit) (fun r _ => k9 = 0 ∧ r = r9) (fun _ t => PW G (va_A (wC G a T F U S D R M N P) sz) (wC G a T9 F9 U S D R M N P) t) (va_A (wC G a T F U S D R M N P) sz)) (vx_X (fun _ : Unit => True) (fun (E : String) (_ : Unit) (t : State) => xnm k9 = some E ∧ PW G (va_A (wC G a T F U S D R M N P) sz) (wC G a T9 F9 U S D R M N P) t) (va_A (wC G a T F U S D R M N P) sz)) 2 12 (va_A (wC G a T F U S D R M N P) sz) := by
  rw [f_X11_normal] at hm
  refine vx_ofW (cc := cX11_normal) (maxL := 4) (ret := (some .int)) (by decide) rfl ?_
  intro p e s m args below meth c s₁ B hml hout0 hv
  obtain ⟨rfl, hsz, hP, hK, hD0, hE⟩ := hv
  have hx := B.exec
  have hb := B.bytes
  have hr := B.returns
  have hts := w0_tail B.pre
  have hown : s.vm.findClass RX11 = some m.cls := findClass_of_methodNamed B.named
  have hlocks := B.notSynchronized
  have hD := hD0.self (sz := sz)
  obtain ⟨A, hAe⟩ : ∃ A, (va_A (wC G a T F U S D R M N P) sz) = A := ⟨_, rfl⟩
  rw [hAe] at hD hE
  have hA : ∀ q : Nat, s.heap.size ≤ q → A q := fun q h => by rw [← hAe]; exact Or.inr (by rw [← hsz]; exact h)
  have hS : va_S A s.heap s.heap [] := va_S.rf
  obtain ⟨H, hHe⟩ : ∃ H : Heap, H = s.heap := ⟨_, rfl⟩
  have hP : va_P (DG G) clP3 (wC G a T F U S D R M N P) H := by rw [hHe]; exact hP
  have hS : va_S A s.heap H [] := by rw [hHe]; exact hS
  have hl := lv_entry ([.ref (a.1 0), .int p1]) (n := 4) (Nat.le_of_ble_eq_true rfl)
  rw [lg_entry_eq, ← hHe]
  generalize (lg_sl ([.ref (a.1 0), .int p1]) ++ List.replicate (4 - (lg_sl ([.ref (a.1 0), .int p1])).length) Slot.unset).toArray = ls at hl ⊢
  have hl : lv_has ls 4 [(0, .ref (a.1 0)), (1, .int p1)] := hl
  refine lv_aload_n hx hb dX11_normal_0 rfl (lv_at hl 0 rfl) ?_
  refine lv_iload_n hx hb dX11_normal_1 rfl (lv_at hl 1 rfl) ?_
  obtain ⟨q_1, hq_1, hm⟩ := bind_some hm
  have hFc := free_all hD hS hA
  refine vx_calli (vx_runV (As := [.int p1]) (rest := []) ⟨hx, hb, hml, hown, hts⟩ (k_X11_termAt l hfl G a T F U S D R M N P hlk p1  q_1.1 q_1.2 hq_1 H.size) (cwV 1 hts (gV wm319 wm321 ws_p0 wm1 wm322) rfl rfl rfl (by decide +kernel) ⟨Nat.le_of_ble_eq_true rfl, Nat.le_of_ble_eq_true rfl⟩) (pre_v (pre_w hK hP hD hS hE hFc) (va_recv hK hP (ci := 10) (q0 := 0) rfl rfl)) rfl rfl hl.1 rfl (lv_room (Nat.le_of_ble_eq_true rfl)) dX11_normal_2 ⟨Nat.le_of_ble_eq_true rfl, Nat.le_of_ble_eq_true rfl⟩) hS (fun q _ h => hFc q h) hFc (fun q _ h => hFc q h) (fun E ce q9 u_2 t H locs ht hvm hpx hBX hz1 hk1 hS hce hv9 hcl => ?_) (fun r u_2 t H locs ht hvm hw hB hz1 hk1 hS => ?_)
  · have hne : ¬ q_1.1 = 0 := xnm_ne hBX.1
    rw [if_neg hne] at hm
    have hX9 := hBX.1
    have hB := hBX.2
    have hP : va_P (DG G) clP3 (wC G a T F U S D R M N P) H := by rw [← ht]; exact hB.1
    have hD : va_D A (wC G a T F U S D R M N P) := hB.2.weaken (fun _ p _ h => hFc p.1 h)
    simp only [Option.some.injEq, Prod.mk.injEq] at hm
    obtain ⟨rfl, rfl, rfl, rfl⟩ := hm
    subst hAe
    exact vx_out (fun x hx => (hout0 x hx).elim) hlocks hce hv9 hcl (fun t2 ht2 _ => ⟨(), trivial, ⟨hX9, by rw [ht2]; exact hP, hD⟩, hS.F ht2⟩) hS.2.2 (Nat.le_of_ble_eq_true rfl) (Nat.le_of_ble_eq_true rfl)
  · rw [if_pos hw.1] at hm
    rw [show r = q_1.2 from hw.2]
    have hP : va_P (DG G) clP3 (wC G a T F U S D R M N P) H := by rw [← ht]; exact hB.1
    have hD : va_D A (wC G a T F U S D R M N P) := hB.2.weaken (fun _ p _ h => hFc p.1 h)
    refine W.widen (k := 1) (n := 6) (Nat.le_of_ble_eq_true rfl) (Nat.le_of_ble_eq_true rfl) ?_
    refine lv_istore_n (lv' := [(2, .int q_1.2), (0, .ref (a.1 0)), (1, .int p1)]) hx hb dX11_normal_5 rfl hl (by decide) rfl (fun ls hl => ?_)
    refine lv_aload_n hx hb dX11_normal_6 rfl (lv_at hl 1 rfl) ?_
    refine va_get (D := DG G) (ci := 10) (v := .ref (a.1 1)) (C := RX11) (T := TX11) (N := 10) hx hb hts inW_X11 hown hK hP 0 rfl rfl 0 (by decide) (hts _ wm284) (fun _ h9 => h9) rfl dX11_normal_7 ?_
    obtain ⟨q_3, hq_3, hm⟩ := bind_some hm
    have hFc := free_all hD hS hA
    refine va_calli (va_runV (As := []) (rest := []) ⟨hx, hb, hml, hown, hts⟩ (K_X9_mark l hfl G a T F U S D R M N P   q_3 hq_3 H.size) (cwV 0 hts (gV wm410 wm411 wm412 wm2 wm413) rfl rfl rfl (by decide +kernel) ⟨Nat.le_of_ble_eq_true rfl, Nat.le_of_ble_eq_true rfl⟩) (pre_v (pre_w hK hP hD hS hE hFc) (va_recv hK hP (ci := 8) (q0 := 1) rfl rfl)) rfl rfl hl.1 rfl (lv_room (Nat.le_of_ble_eq_true rfl)) dX11_normal_10 ⟨Nat.le_of_ble_eq_true rfl, Nat.le_of_ble_eq_true rfl⟩) hS (fun q _ h => hFc q h) hFc (fun r u t H locs ht hvm hw hB hz1 hk1 hS => ?_)
    rw [show r = q_3 from hw]
    have hP : va_P (DG G) clP3 (wC G a T F U S D R M N P) H := by rw [← ht]; exact hB.1
    have hD : va_D A (wC G a T F U S D R M N P) := hB.2.weaken (fun _ p _ h => hFc p.1 h)
    clear hB hFc hw hk1
    refine W.widen (k := 1) (n := 6) (Nat.le_of_ble_eq_true rfl) (Nat.le_of_ble_eq_true rfl) ?_
    refine lv_istore_n (lv' := [(3, .int q_3), (2, .int q_1.2), (0, .ref (a.1 0)), (1, .int p1)]) hx hb dX11_normal_13 rfl hl (by decide) rfl (fun ls hl => ?_)
    refine lv_aload_n hx hb dX11_normal_14 rfl (lv_at hl 2 rfl) ?_
    refine lv_iload_n hx hb dX11_normal_15 rfl (lv_at hl 0 rfl) ?_
    refine lv_aload_n hx hb dX11_normal_16 rfl (lv_at hl 2 rfl) ?_
    refine va_get (D := DG G) (ci := 10) (v := .ref (a.1 11)) (C := RX11) (T := TX11) (N := 10) hx hb hts inW_X11 hown hK hP 0 rfl rfl 1 (by decide) (hts _ wm285) (fun _ h9 => h9) rfl dX11_normal_17 ?_
    refine lv_iload_n hx hb dX11_normal_20 rfl (lv_at hl 1 rfl) ?_
    obtain ⟨q_4, hq_4, hm⟩ := bind_some hm
    have hFc := free_all hD hS hA
    refine va_calli (va_runV (As := [.int q_1.2]) (rest := [.int q_3, .ref (a.1 0)]) ⟨hx, hb, hml, hown, hts⟩ (K_X1_formOf l hfl G a T F U S D R M N P q_1.2  q_4.1 q_4.2.1 q_4.2.2 hq_4 H.size) (cwV 1 hts (gV wm564 wm495 wm496 wm3 wm497) rfl rfl rfl (by decide +kernel) ⟨Nat.le_of_ble_eq_true rfl, Nat.le_of_ble_eq_true rfl⟩) (pre_v (pre_w hK hP hD hS hE hFc) (va_recv hK hP (ci := 1) (q0 := 11) rfl rfl)) rfl rfl hl.1 rfl (lv_room (Nat.le_of_ble_eq_true rfl)) dX11_normal_21 ⟨Nat.le_of_ble_eq_true rfl, Nat.le_of_ble_eq_true rfl⟩) hS (fun q _ h => hFc q h) hFc (fun r u t H locs ht hvm hw hB hz1 hk1 hS => ?_)
    rw [show r = q_4.1 from hw]
    have hP : va_P (DG G) clP3 (wC G a q_4.2.1 q_4.2.2 U S D R M N P) H := by rw [← ht]; exact hB.1
    have hD : va_D A (wC G a q_4.2.1 q_4.2.2 U S D R M N P) := hB.2.weaken (fun _ p _ h => hFc p.1 h)
    clear hB hFc hw hk1
    refine W.widen (k := 1) (n := 6) (Nat.le_of_ble_eq_true rfl) (Nat.le_of_ble_eq_true rfl) ?_
    obtain ⟨q_5, hq_5, hm⟩ := bind_some hm
    have hFc := free_all hD hS hA
    refine vx_calli (vx_runV (As := [.int q_3, .int q_4.1]) (rest := []) ⟨hx, hb, hml, hown, hts⟩ (k_X11_numberOfScratch l hfl G a q_4.2.1 q_4.2.2 U S D R M N P hlk q_3 q_4.1  q_5.1 q_5.2.1 q_5.2.2 hq_5 H.size) (cwV 2 hts (gV wm815 wm817 ws_p11 wm1 wm818) rfl rfl rfl (by decide +kernel) ⟨Nat.le_of_ble_eq_true rfl, Nat.le_of_ble_eq_true rfl⟩) (pre_v (pre_w hK hP hD hS hE hFc) (va_recv hK hP (ci := 10) (q0 := 0) rfl rfl)) rfl rfl hl.1 rfl (lv_room (Nat.le_of_ble_eq_true rfl)) dX11_normal_24 ⟨Nat.le_of_ble_eq_true rfl, Nat.le_of_ble_eq_true rfl⟩) hS (fun q _ h => hFc q h) hFc (fun q _ h => hFc q h) (fun E ce q9 u_6 t H locs ht hvm hpx hBX hz1 hk1 hS hce hv9 hcl => ?_) (fun r u_6 t H locs ht hvm hw hB hz1 hk1 hS => ?_)
    · have hne : ¬ q_5.1 = 0 := xnm_ne hBX.1
      rw [if_neg hne] at hm
      have hX9 := hBX.1
      have hB := hBX.2
      have hP : va_P (DG G) clP3 (wC G a q_5.2.2 q_4.2.2 U S D R M N P) H := by rw [← ht]; exact hB.1
      have hD : va_D A (wC G a q_5.2.2 q_4.2.2 U S D R M N P) := hB.2.weaken (fun _ p _ h => hFc p.1 h)
      simp only [Option.some.injEq, Prod.mk.injEq] at hm
      obtain ⟨rfl, rfl, rfl, rfl⟩ := hm
      subst hAe
      exact vx_out (fun x hx => (hout0 x hx).elim) hlocks hce hv9 hcl (fun t2 ht2 _ => ⟨(), trivial, ⟨hX9, by rw [ht2]; exact hP, hD⟩, hS.F ht2⟩) hS.2.2 (Nat.le_of_ble_eq_true rfl) (Nat.le_of_ble_eq_true rfl)
    · rw [if_pos hw.1] at hm
      rw [show r = q_5.2.1 from hw.2]
      have hP : va_P (DG G) clP3 (wC G a q_5.2.2 q_4.2.2 U S D R M N P) H := by rw [← ht]; exact hB.1
      have hD : va_D A (wC G a q_5.2.2 q_4.2.2 U S D R M N P) := hB.2.weaken (fun _ p _ h => hFc p.1 h)
      refine W.widen (k := 2) (n := 12) (Nat.le_of_ble_eq_true rfl) (Nat.le_of_ble_eq_true rfl) ?_
      simp only [Option.some.injEq, Prod.mk.injEq] at hm
      obtain ⟨rfl, rfl, rfl, rfl⟩ := hm
      subst hAe
      refine W.widen (k := 2) (n := 12) (Nat.le_of_ble_eq_true rfl) (Nat.le_of_ble_eq_true rfl) ?_
      exact vx_ret (W.iret (v := q_5.2.1) hx hb hr (fun t ht hW => ⟨⟨q_5.2.1, (), rfl, ⟨rfl, rfl⟩, ⟨by rw [ht]; exact hP, hD⟩⟩, hS.F ht⟩) hS.2.2 dX11_normal_27 hlocks)
