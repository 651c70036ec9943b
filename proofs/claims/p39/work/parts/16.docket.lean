def f_X0_function (D : DS) (p1 : Int32) : Option (Int32) := (if p1 < 0 then some (-1) else (if D.1 ≤ p1 then some (-1) else (if fix D p1 = true then (if inb p1 8 = true then some p1 else none) else none)))
set_option maxHeartbeats 2000000 in
set_option maxRecDepth 100000 in
theorem k_X0_function (l : Launch) (hfl : l.stackTraces = false) (G : GC) (a : AS) (T : TS) (F : FS) (U : US) (S : SS) (D : DS) (R : RS) (M : MS) (N : NS) (P : PS) (hlk : lkA a D.1.toNatClampNeg D.2.1.toNatClampNeg) (p1 : Int32) (r9 : Int32) (hm : f_X0_function D p1 = some r9) (sz : Nat) : Met l yX0_function (Cond.code yX0_function cX0_function 2 (some (.object "TelescopeCourt$Function")) :: W0) ({ frames := 0, cells := 0, slots := 0, locals := 0 }) (va_Pc [.ref (a.1 21), .int p1] (WD G (wC G a T F U S D R M N P) sz)) (va_Qq (fun (r : Option Nat) (_ : Unit) => r = rfF a r9) (fun _ t => PW G (va_A (wC G a T F U S D R M N P) sz) (wC G a T F U S D R M N P) t) (va_A (wC G a T F U S D R M N P) sz)) 0 0 (va_A (wC G a T F U S D R M N P) sz) := by
  rw [f_X0_function] at hm
  refine Met.ofW (cc := cX0_function) (maxL := 2) (ret := (some (.object "TelescopeCourt$Function"))) (by decide) rfl ?_
  intro p e s m args below meth c s₁ B hml hv
  obtain ⟨rfl, hsz, hP, hK, hD0, hE⟩ := hv
  have hx := B.exec
  have hb := B.bytes
  have hr := B.returns
  have hts := w0_tail B.pre
  have hown : s.vm.findClass RX0 = some m.cls := findClass_of_methodNamed B.named
  have hlocks := B.notSynchronized
  have hD := hD0.self (sz := sz)
  obtain ⟨A, hAe⟩ : ∃ A, (va_A (wC G a T F U S D R M N P) sz) = A := ⟨_, rfl⟩
  rw [hAe] at hD hE
  have hA : ∀ q : Nat, s.heap.size ≤ q → A q := fun q h => by rw [← hAe]; exact Or.inr (by rw [← hsz]; exact h)
  have hS : va_S A s.heap s.heap [] := va_S.rf
  obtain ⟨H, hHe⟩ : ∃ H : Heap, H = s.heap := ⟨_, rfl⟩
  have hP : va_P (DG G) clP3 (wC G a T F U S D R M N P) H := by rw [hHe]; exact hP
  have hS : va_S A s.heap H [] := by rw [hHe]; exact hS
  have hl := lv_entry ([.ref (a.1 21), .int p1]) (n := 2) (Nat.le_of_ble_eq_true rfl)
  rw [lg_entry_eq, ← hHe]
  generalize (lg_sl ([.ref (a.1 21), .int p1]) ++ List.replicate (2 - (lg_sl ([.ref (a.1 21), .int p1])).length) Slot.unset).toArray = ls at hl ⊢
  have hl : lv_has ls 2 [(0, .ref (a.1 21)), (1, .int p1)] := hl
  refine lv_iload_n hx hb dX0_function_0 rfl (lv_at hl 1 rfl) ?_
  refine lv_if_lt (tgt := 21) hx hb dX0_function_1 (by decide) (fun c_1 => ?_) (fun c_1 => ?_)
  · rw [if_pos c_1] at hm
    refine lv_null hx hb dX0_function_21 ?_
    obtain rfl := Option.some.inj hm
    refine W.widen (k := 0) (n := 0) (Nat.le_of_ble_eq_true rfl) (Nat.le_of_ble_eq_true rfl) ?_
    exact W.aret (v := .null) hx hb hr (Or.inl ⟨_, rfl⟩) (Or.inl rfl) (fun t ht hW => ⟨⟨none, (), rfl, rfl, ⟨by rw [ht]; exact hP, by rw [hAe]; exact hD⟩⟩, by rw [hAe]; exact hS.F ht⟩) (by rw [hAe]; exact hS.2.2) dX0_function_22 hlocks
  · rw [if_neg c_1] at hm
    refine lv_iload_n hx hb dX0_function_4 rfl (lv_at hl 1 rfl) ?_
    refine lv_aload_n hx hb dX0_function_5 rfl (lv_at hl 0 rfl) ?_
    refine va_get (D := DG G) (ci := 0) (v := .int D.1) (C := RX0) (T := TX0) (N := 8) hx hb hts inW_X0 hown hK hP 21 rfl rfl 5 (by decide) (hts _ wm144) (fun _ h9 => h9) rfl dX0_function_6 ?_
    refine lv_icmp_ge (tgt := 21) hx hb dX0_function_9 (by decide) (fun c_2 => ?_) (fun c_2 => ?_)
    · rw [if_pos c_2] at hm
      refine lv_null hx hb dX0_function_21 ?_
      obtain rfl := Option.some.inj hm
      refine W.widen (k := 0) (n := 0) (Nat.le_of_ble_eq_true rfl) (Nat.le_of_ble_eq_true rfl) ?_
      exact W.aret (v := .null) hx hb hr (Or.inl ⟨_, rfl⟩) (Or.inl rfl) (fun t ht hW => ⟨⟨none, (), rfl, rfl, ⟨by rw [ht]; exact hP, by rw [hAe]; exact hD⟩⟩, by rw [hAe]; exact hS.F ht⟩) (by rw [hAe]; exact hS.2.2) dX0_function_22 hlocks
    · rw [if_neg c_2] at hm
      refine lv_aload_n hx hb dX0_function_12 rfl (lv_at hl 0 rfl) ?_
      refine va_get (D := DG G) (ci := 0) (v := .ref (a.1 22)) (C := RX0) (T := TX0) (N := 8) hx hb hts inW_X0 hown hK hP 21 rfl rfl 3 (by decide) (hts _ wm142) (fun _ h9 => h9) rfl dX0_function_13 ?_
      refine lv_iload_n hx hb dX0_function_16 rfl (lv_at hl 1 rfl) ?_
      obtain ⟨g_4, hm⟩ := ite_some hm
      obtain ⟨b_3, hm⟩ := ite_some hm
      refine va_aldq hx hb hK hP 22 2 rfl rfl (inb_vp b_3) dX0_function_17 ?_
      rw [hlk.1 _ (fix_lt g_4)]
      refine W.eq (g2 := F0 m 18 ls [.ref (a.2.1 (Int32.toNatClampNeg p1))]) rfl ?_
      refine lv_goto (tgt := 22) hx hb dX0_function_18 (by decide) ?_
      obtain rfl := Option.some.inj hm
      refine W.widen (k := 0) (n := 0) (Nat.le_of_ble_eq_true rfl) (Nat.le_of_ble_eq_true rfl) ?_
      exact W.aret (v := .ref (a.2.1 (Int32.toNatClampNeg p1))) hx hb hr (Or.inl ⟨_, rfl⟩) (Or.inr ⟨_, rfl⟩) (fun t ht hW => ⟨⟨(some (a.2.1 (Int32.toNatClampNeg p1))), (), rfl, (rfF_pos g_4).symm, ⟨by rw [ht]; exact hP, by rw [hAe]; exact hD⟩⟩, by rw [hAe]; exact hS.F ht⟩) (by rw [hAe]; exact hS.2.2) dX0_function_22 hlocks
def f_X0_goal (D : DS) (p1 : Int32) : Option (Int32) := (if p1 < 0 then some (-1) else (if D.2.1 ≤ p1 then some (-1) else (if gix D p1 = true then (if inb p1 40 = true then some p1 else none) else none)))
set_option maxHeartbeats 2000000 in
set_option maxRecDepth 100000 in
theorem k_X0_goal (l : Launch) (hfl : l.stackTraces = false) (G : GC) (a : AS) (T : TS) (F : FS) (U : US) (S : SS) (D : DS) (R : RS) (M : MS) (N : NS) (P : PS) (hlk : lkA a D.1.toNatClampNeg D.2.1.toNatClampNeg) (p1 : Int32) (r9 : Int32) (hm : f_X0_goal D p1 = some r9) (sz : Nat) : Met l yX0_goal (Cond.code yX0_goal cX0_goal 2 (some (.object "TelescopeCourt$Goal")) :: W0) ({ frames := 0, cells := 0, slots := 0, locals := 0 }) (va_Pc [.ref (a.1 21), .int p1] (WD G (wC G a T F U S D R M N P) sz)) (va_Qq (fun (r : Option Nat) (_ : Unit) => r = rfG a r9) (fun _ t => PW G (va_A (wC G a T F U S D R M N P) sz) (wC G a T F U S D R M N P) t) (va_A (wC G a T F U S D R M N P) sz)) 0 0 (va_A (wC G a T F U S D R M N P) sz) := by
  rw [f_X0_goal] at hm
  refine Met.ofW (cc := cX0_goal) (maxL := 2) (ret := (some (.object "TelescopeCourt$Goal"))) (by decide) rfl ?_
  intro p e s m args below meth c s₁ B hml hv
  obtain ⟨rfl, hsz, hP, hK, hD0, hE⟩ := hv
  have hx := B.exec
  have hb := B.bytes
  have hr := B.returns
  have hts := w0_tail B.pre
  have hown : s.vm.findClass RX0 = some m.cls := findClass_of_methodNamed B.named
  have hlocks := B.notSynchronized
  have hD := hD0.self (sz := sz)
  obtain ⟨A, hAe⟩ : ∃ A, (va_A (wC G a T F U S D R M N P) sz) = A := ⟨_, rfl⟩
  rw [hAe] at hD hE
  have hA : ∀ q : Nat, s.heap.size ≤ q → A q := fun q h => by rw [← hAe]; exact Or.inr (by rw [← hsz]; exact h)
  have hS : va_S A s.heap s.heap [] := va_S.rf
  obtain ⟨H, hHe⟩ : ∃ H : Heap, H = s.heap := ⟨_, rfl⟩
  have hP : va_P (DG G) clP3 (wC G a T F U S D R M N P) H := by rw [hHe]; exact hP
  have hS : va_S A s.heap H [] := by rw [hHe]; exact hS
  have hl := lv_entry ([.ref (a.1 21), .int p1]) (n := 2) (Nat.le_of_ble_eq_true rfl)
  rw [lg_entry_eq, ← hHe]
  generalize (lg_sl ([.ref (a.1 21), .int p1]) ++ List.replicate (2 - (lg_sl ([.ref (a.1 21), .int p1])).length) Slot.unset).toArray = ls at hl ⊢
  have hl : lv_has ls 2 [(0, .ref (a.1 21)), (1, .int p1)] := hl
  refine lv_iload_n hx hb dX0_goal_0 rfl (lv_at hl 1 rfl) ?_
  refine lv_if_lt (tgt := 21) hx hb dX0_goal_1 (by decide) (fun c_1 => ?_) (fun c_1 => ?_)
  · rw [if_pos c_1] at hm
    refine lv_null hx hb dX0_goal_21 ?_
    obtain rfl := Option.some.inj hm
    refine W.widen (k := 0) (n := 0) (Nat.le_of_ble_eq_true rfl) (Nat.le_of_ble_eq_true rfl) ?_
    exact W.aret (v := .null) hx hb hr (Or.inl ⟨_, rfl⟩) (Or.inl rfl) (fun t ht hW => ⟨⟨none, (), rfl, rfl, ⟨by rw [ht]; exact hP, by rw [hAe]; exact hD⟩⟩, by rw [hAe]; exact hS.F ht⟩) (by rw [hAe]; exact hS.2.2) dX0_goal_22 hlocks
  · rw [if_neg c_1] at hm
    refine lv_iload_n hx hb dX0_goal_4 rfl (lv_at hl 1 rfl) ?_
    refine lv_aload_n hx hb dX0_goal_5 rfl (lv_at hl 0 rfl) ?_
    refine va_get (D := DG G) (ci := 0) (v := .int D.2.1) (C := RX0) (T := TX0) (N := 8) hx hb hts inW_X0 hown hK hP 21 rfl rfl 6 (by decide) (hts _ wm146) (fun _ h9 => h9) rfl dX0_goal_6 ?_
    refine lv_icmp_ge (tgt := 21) hx hb dX0_goal_9 (by decide) (fun c_2 => ?_) (fun c_2 => ?_)
    · rw [if_pos c_2] at hm
      refine lv_null hx hb dX0_goal_21 ?_
      obtain rfl := Option.some.inj hm
      refine W.widen (k := 0) (n := 0) (Nat.le_of_ble_eq_true rfl) (Nat.le_of_ble_eq_true rfl) ?_
      exact W.aret (v := .null) hx hb hr (Or.inl ⟨_, rfl⟩) (Or.inl rfl) (fun t ht hW => ⟨⟨none, (), rfl, rfl, ⟨by rw [ht]; exact hP, by rw [hAe]; exact hD⟩⟩, by rw [hAe]; exact hS.F ht⟩) (by rw [hAe]; exact hS.2.2) dX0_goal_22 hlocks
    · rw [if_neg c_2] at hm
      refine lv_aload_n hx hb dX0_goal_12 rfl (lv_at hl 0 rfl) ?_
      refine va_get (D := DG G) (ci := 0) (v := .ref (a.1 23)) (C := RX0) (T := TX0) (N := 8) hx hb hts inW_X0 hown hK hP 21 rfl rfl 4 (by decide) (hts _ wm143) (fun _ h9 => h9) rfl dX0_goal_13 ?_
      refine lv_iload_n hx hb dX0_goal_16 rfl (lv_at hl 1 rfl) ?_
      obtain ⟨g_4, hm⟩ := ite_some hm
      obtain ⟨b_3, hm⟩ := ite_some hm
      refine va_aldq hx hb hK hP 23 3 rfl rfl (inb_vp b_3) dX0_goal_17 ?_
      rw [hlk.2 _ (gix_lt g_4)]
      refine W.eq (g2 := F0 m 18 ls [.ref (a.2.2.1 (Int32.toNatClampNeg p1) 0)]) rfl ?_
      refine lv_goto (tgt := 22) hx hb dX0_goal_18 (by decide) ?_
      obtain rfl := Option.some.inj hm
      refine W.widen (k := 0) (n := 0) (Nat.le_of_ble_eq_true rfl) (Nat.le_of_ble_eq_true rfl) ?_
      exact W.aret (v := .ref (a.2.2.1 (Int32.toNatClampNeg p1) 0)) hx hb hr (Or.inl ⟨_, rfl⟩) (Or.inr ⟨_, rfl⟩) (fun t ht hW => ⟨⟨(some (a.2.2.1 (Int32.toNatClampNeg p1) 0)), (), rfl, (rfG_pos g_4).symm, ⟨by rw [ht]; exact hP, by rw [hAe]; exact hD⟩⟩, by rw [hAe]; exact hS.F ht⟩) (by rw [hAe]; exact hS.2.2) dX0_goal_22 hlocks
def f_X0_typeOfFunction (D : DS) (P : PS) (p1 : Int32) : Option (Int32) := (Option.bind (f_X0_function D p1) (fun q_1 => (if q_1 < 0 then some (-1) else (if fix D q_1 = true then some (P.1 (Int32.toNatClampNeg q_1)) else none))))
set_option maxHeartbeats 2000000 in
set_option maxRecDepth 100000 in
theorem k_X0_typeOfFunction (l : Launch) (hfl : l.stackTraces = false) (G : GC) (a : AS) (T : TS) (F : FS) (U : US) (S : SS) (D : DS) (R : RS) (M : MS) (N : NS) (P : PS) (hlk : lkA a D.1.toNatClampNeg D.2.1.toNatClampNeg) (p1 : Int32) (r9 : Int32) (hm : f_X0_typeOfFunction D P p1 = some r9) (sz : Nat) : Met l yX0_typeOfFunction (Cond.code yX0_typeOfFunction cX0_typeOfFunction 3 (some .int) :: W0) ({ frames := 1, cells := 0, slots := 0, locals := 21 }) (va_Pc [.ref (a.1 21), .int p1] (WD G (wC G a T F U S D R M N P) sz)) (va_Qi (fun (r : Int32) (_ : Unit) => r = r9) (fun _ t => PW G (va_A (wC G a T F U S D R M N P) sz) (wC G a T F U S D R M N P) t) (va_A (wC G a T F U S D R M N P) sz)) 0 0 (va_A (wC G a T F U S D R M N P) sz) := by
  rw [f_X0_typeOfFunction] at hm
  refine Met.ofW (cc := cX0_typeOfFunction) (maxL := 3) (ret := (some .int)) (by decide) rfl ?_
  intro p e s m args below meth c s₁ B hml hv
  obtain ⟨rfl, hsz, hP, hK, hD0, hE⟩ := hv
  have hx := B.exec
  have hb := B.bytes
  have hr := B.returns
  have hts := w0_tail B.pre
  have hown : s.vm.findClass RX0 = some m.cls := findClass_of_methodNamed B.named
  have hlocks := B.notSynchronized
  have hD := hD0.self (sz := sz)
  obtain ⟨A, hAe⟩ : ∃ A, (va_A (wC G a T F U S D R M N P) sz) = A := ⟨_, rfl⟩
  rw [hAe] at hD hE
  have hA : ∀ q : Nat, s.heap.size ≤ q → A q := fun q h => by rw [← hAe]; exact Or.inr (by rw [← hsz]; exact h)
  have hS : va_S A s.heap s.heap [] := va_S.rf
  obtain ⟨H, hHe⟩ : ∃ H : Heap, H = s.heap := ⟨_, rfl⟩
  have hP : va_P (DG G) clP3 (wC G a T F U S D R M N P) H := by rw [hHe]; exact hP
  have hS : va_S A s.heap H [] := by rw [hHe]; exact hS
  have hl := lv_entry ([.ref (a.1 21), .int p1]) (n := 3) (Nat.le_of_ble_eq_true rfl)
  rw [lg_entry_eq, ← hHe]
  generalize (lg_sl ([.ref (a.1 21), .int p1]) ++ List.replicate (3 - (lg_sl ([.ref (a.1 21), .int p1])).length) Slot.unset).toArray = ls at hl ⊢
  have hl : lv_has ls 3 [(0, .ref (a.1 21)), (1, .int p1)] := hl
  refine lv_aload_n hx hb dX0_typeOfFunction_0 rfl (lv_at hl 0 rfl) ?_
  refine lv_iload_n hx hb dX0_typeOfFunction_1 rfl (lv_at hl 1 rfl) ?_
  obtain ⟨q_1, hq_1, hm⟩ := bind_some hm
  have hFc := free_all hD hS hA
  refine va_callq (va_runV (As := [.int p1]) (rest := []) ⟨hx, hb, hml, hown, hts⟩ (k_X0_function l hfl G a T F U S D R M N P hlk p1  q_1 hq_1 H.size) (cwV 1 hts (gV wm487 wm488 wm489 wm5 wm490) rfl rfl rfl (by decide +kernel) ⟨Nat.le_of_ble_eq_true rfl, Nat.le_of_ble_eq_true rfl⟩) (pre_v (pre_w hK hP hD hS hE hFc) (va_recv hK hP (ci := 0) (q0 := 21) rfl rfl)) rfl rfl hl.1 rfl (lv_room (Nat.le_of_ble_eq_true rfl)) dX0_typeOfFunction_2 ⟨Nat.le_of_ble_eq_true rfl, Nat.le_of_ble_eq_true rfl⟩) hS (fun q _ h => hFc q h) hFc (fun r u t H locs ht hvm hw hB hz1 hk1 hS => ?_)
  rw [show r = rfF a q_1 from hw]
  have hP : va_P (DG G) clP3 (wC G a T F U S D R M N P) H := by rw [← ht]; exact hB.1
  have hD : va_D A (wC G a T F U S D R M N P) := hB.2.weaken (fun _ p _ h => hFc p.1 h)
  clear hB hFc hw hk1
  refine W.widen (k := 0) (n := 0) (Nat.le_of_ble_eq_true rfl) (Nat.le_of_ble_eq_true rfl) ?_
  by_cases c_2 : q_1 < 0
  · rw [if_pos c_2] at hm
    rw [show rfF a q_1 = none from if_pos c_2]
    refine W.eq (g2 := F0 m 5 ls [.null]) rfl ?_
    refine lv_astore_nN (lv' := [(2, .null), (0, .ref (a.1 21)), (1, .int p1)]) hx hb dX0_typeOfFunction_5 rfl hl (by decide) rfl (fun ls hl => ?_)
    refine lv_aload_nN hx hb dX0_typeOfFunction_6 rfl (lv_at hl 0 rfl) ?_
    refine lv_ifnonnullN hx hb dX0_typeOfFunction_7 ?_
    refine lv_iconst (v := (-1)) hx hb dX0_typeOfFunction_10 (by decide) ?_
    refine lv_goto (tgt := 18) hx hb dX0_typeOfFunction_11 (by decide) ?_
    obtain rfl := Option.some.inj hm
    refine W.widen (k := 0) (n := 0) (Nat.le_of_ble_eq_true rfl) (Nat.le_of_ble_eq_true rfl) ?_
    exact W.iret (v := (-1)) hx hb hr (fun t ht hW => ⟨⟨(-1), (), rfl, rfl, ⟨by rw [ht]; exact hP, by rw [hAe]; exact hD⟩⟩, by rw [hAe]; exact hS.F ht⟩) (by rw [hAe]; exact hS.2.2) dX0_typeOfFunction_18 hlocks
  · rw [if_neg c_2] at hm
    obtain ⟨g_3, hm⟩ := ite_some hm
    rw [show rfF a q_1 = some _ from if_neg c_2]
    refine W.eq (g2 := F0 m 5 ls [.ref (a.2.1 (Int32.toNatClampNeg q_1))]) rfl ?_
    refine lv_astore_n (lv' := [(2, .ref (a.2.1 (Int32.toNatClampNeg q_1))), (0, .ref (a.1 21)), (1, .int p1)]) hx hb dX0_typeOfFunction_5 rfl hl (by decide) rfl (fun ls hl => ?_)
    refine lv_aload_n hx hb dX0_typeOfFunction_6 rfl (lv_at hl 0 rfl) ?_
    refine lv_ifnonnull (tgt := 14) hx hb dX0_typeOfFunction_7 (by decide) ?_
    refine lv_aload_n hx hb dX0_typeOfFunction_14 rfl (lv_at hl 0 rfl) ?_
    refine va_getN (D := DG G) (ci := 2) (v := .int (P.1 (Int32.toNatClampNeg q_1))) (C := RX2) (T := TX2) (N := 3) hx hb hts inW_X2 hown hK hP _ ((at_funC (fix_lt g_3)).trans rfl) rfl 0 (by decide) (va_Nw.use rfl (hE.1 _ nw885)) (fun _ h9 => h9) rfl dX0_typeOfFunction_15 ?_
    obtain rfl := Option.some.inj hm
    refine W.widen (k := 0) (n := 0) (Nat.le_of_ble_eq_true rfl) (Nat.le_of_ble_eq_true rfl) ?_
    exact W.iret (v := (P.1 (Int32.toNatClampNeg q_1))) hx hb hr (fun t ht hW => ⟨⟨(P.1 (Int32.toNatClampNeg q_1)), (), rfl, rfl, ⟨by rw [ht]; exact hP, by rw [hAe]; exact hD⟩⟩, by rw [hAe]; exact hS.F ht⟩) (by rw [hAe]; exact hS.2.2) dX0_typeOfFunction_18 hlocks
def f_X0_hasAccepted (D : DS) (p1 : Int32) : Option (Int32) := (if ((D.2.2 >>> (p1 &&& 31)) &&& (1 : Int32)) = 0 then some 0 else some 1)
set_option maxHeartbeats 2000000 in
set_option maxRecDepth 100000 in
theorem k_X0_hasAccepted (l : Launch) (hfl : l.stackTraces = false) (G : GC) (a : AS) (T : TS) (F : FS) (U : US) (S : SS) (D : DS) (R : RS) (M : MS) (N : NS) (P : PS) (hlk : lkA a D.1.toNatClampNeg D.2.1.toNatClampNeg) (p1 : Int32) (r9 : Int32) (hm : f_X0_hasAccepted D p1 = some r9) (sz : Nat) : Met l yX0_hasAccepted (Cond.code yX0_hasAccepted cX0_hasAccepted 2 (some .boolean) :: W0) ({ frames := 0, cells := 0, slots := 0, locals := 0 }) (va_Pc [.ref (a.1 21), .int p1] (WD G (wC G a T F U S D R M N P) sz)) (va_Qi (fun (r : Int32) (_ : Unit) => r = r9) (fun _ t => PW G (va_A (wC G a T F U S D R M N P) sz) (wC G a T F U S D R M N P) t) (va_A (wC G a T F U S D R M N P) sz)) 0 0 (va_A (wC G a T F U S D R M N P) sz) := by
  rw [f_X0_hasAccepted] at hm
  refine Met.ofW (cc := cX0_hasAccepted) (maxL := 2) (ret := (some .boolean)) (by decide) rfl ?_
  intro p e s m args below meth c s₁ B hml hv
  obtain ⟨rfl, hsz, hP, hK, hD0, hE⟩ := hv
  have hx := B.exec
  have hb := B.bytes
  have hr := B.returns
  have hts := w0_tail B.pre
  have hown : s.vm.findClass RX0 = some m.cls := findClass_of_methodNamed B.named
  have hlocks := B.notSynchronized
  have hD := hD0.self (sz := sz)
  obtain ⟨A, hAe⟩ : ∃ A, (va_A (wC G a T F U S D R M N P) sz) = A := ⟨_, rfl⟩
  rw [hAe] at hD hE
  have hA : ∀ q : Nat, s.heap.size ≤ q → A q := fun q h => by rw [← hAe]; exact Or.inr (by rw [← hsz]; exact h)
  have hS : va_S A s.heap s.heap [] := va_S.rf
  obtain ⟨H, hHe⟩ : ∃ H : Heap, H = s.heap := ⟨_, rfl⟩
  have hP : va_P (DG G) clP3 (wC G a T F U S D R M N P) H := by rw [hHe]; exact hP
  have hS : va_S A s.heap H [] := by rw [hHe]; exact hS
  have hl := lv_entry ([.ref (a.1 21), .int p1]) (n := 2) (Nat.le_of_ble_eq_true rfl)
  rw [lg_entry_eq, ← hHe]
  generalize (lg_sl ([.ref (a.1 21), .int p1]) ++ List.replicate (2 - (lg_sl ([.ref (a.1 21), .int p1])).length) Slot.unset).toArray = ls at hl ⊢
  have hl : lv_has ls 2 [(0, .ref (a.1 21)), (1, .int p1)] := hl
  refine lv_aload_n hx hb dX0_hasAccepted_0 rfl (lv_at hl 0 rfl) ?_
  refine va_get (D := DG G) (ci := 0) (v := .int D.2.2) (C := RX0) (T := TX0) (N := 8) hx hb hts inW_X0 hown hK hP 21 rfl rfl 7 (by decide) (hts _ wm150) (fun _ h9 => h9) rfl dX0_hasAccepted_1 ?_
  refine lv_iload_n hx hb dX0_hasAccepted_4 rfl (lv_at hl 1 rfl) ?_
  refine lv_ishr hx hb dX0_hasAccepted_5 ?_
  refine lv_iconst (v := 1) hx hb dX0_hasAccepted_6 (by decide) ?_
  refine lv_iand hx hb dX0_hasAccepted_7 ?_
  refine lv_if_eq (tgt := 15) hx hb dX0_hasAccepted_8 (by decide) (fun c_1 => ?_) (fun c_1 => ?_)
  · rw [if_pos c_1] at hm
    refine lv_iconst (v := 0) hx hb dX0_hasAccepted_15 (by decide) ?_
    obtain rfl := Option.some.inj hm
    refine W.widen (k := 0) (n := 0) (Nat.le_of_ble_eq_true rfl) (Nat.le_of_ble_eq_true rfl) ?_
    exact W.zret (v := 0) (ty := .boolean) hx hb hr (by decide) (fun t ht hW => ⟨⟨0, (), rfl, rfl, ⟨by rw [ht]; exact hP, by rw [hAe]; exact hD⟩⟩, by rw [hAe]; exact hS.F ht⟩) (by rw [hAe]; exact hS.2.2) dX0_hasAccepted_16 hlocks
  · rw [if_neg c_1] at hm
    refine lv_iconst (v := 1) hx hb dX0_hasAccepted_11 (by decide) ?_
    refine lv_goto (tgt := 16) hx hb dX0_hasAccepted_12 (by decide) ?_
    obtain rfl := Option.some.inj hm
    refine W.widen (k := 0) (n := 0) (Nat.le_of_ble_eq_true rfl) (Nat.le_of_ble_eq_true rfl) ?_
    exact W.zret (v := 1) (ty := .boolean) hx hb hr (by decide) (fun t ht hW => ⟨⟨1, (), rfl, rfl, ⟨by rw [ht]; exact hP, by rw [hAe]; exact hD⟩⟩, by rw [hAe]; exact hS.F ht⟩) (by rw [hAe]; exact hS.2.2) dX0_hasAccepted_16 hlocks
def f_X0_domainsOf_L4 : Nat → TS → Int32 → Int32 → Option (Int32)
  | 0, _, _, _ => none
  | n + 1, T, v2, v3 => (Option.bind (g_X9_kindOf T v2) (fun q_1 => (if q_1 = 5 then (if 4 < v3 then some v3 else (Option.bind (g_X9_secondOf T v2) (fun q_4 => (f_X0_domainsOf_L4 n T q_4 (v3 + 1))))) else some v3)))
def f_X0_domainsOf (T : TS) (p1 : Int32) : Option (Int32) := (f_X0_domainsOf_L4 100000 T p1 0)
set_option maxHeartbeats 2000000 in
set_option maxRecDepth 100000 in
theorem kl_X0_domainsOf_4 {l : Launch} (hfl : l.stackTraces = false) {G : GC} {a : AS} {T : TS} {F : FS} {U : US} {S : SS} {D : DS} {R : RS} {M : MS} {N : NS} {P : PS} {A : Nat → Prop} {sz : Nat} {p : Program} {e : Env} {s : State} {m : MethodId} {args : Array Value} {below : List Frame} {meth : Method} {c : Code} (hx : p.tables.exec = Jvm.exec) (hb : c.code = cX0_domainsOf) (hr : meth.sig.returnType = (some .int)) (hml : c.maxLocals = 4) (hown : s.vm.findClass RX0 = some m.cls) (hts : ∀ w ∈ W0, w.before args s = true) (hlocks : meth.locks = false) (hlk : lkA a D.1.toNatClampNeg D.2.1.toNatClampNeg) (hAe : (va_A (wC G a T F U S D R M N P) sz) = A) (hA : ∀ q : Nat, s.heap.size ≤ q → A q) (hE : EV G A s s.heap) (hK : va_K (DG G) clP3 (TY G) s) (r9 : Int32) : ∀ (n : Nat), ∀ (v2 : Int32) (v3 : Int32) (H : Heap) (locs : List Loc), va_P (DG G) clP3 (wC G a T F U S D R M N P) H → va_D A (wC G a T F U S D R M N P) → va_S A s.heap H locs → ∀ (ls : Array Slot), lv_has ls 4 [(0, .ref (a.1 21)), (2, .int v2), (3, .int v3)] → f_X0_domainsOf_L4 n T v2 v3 = some r9 → W p l e ({ frames := 1, cells := 0, slots := 0, locals := 21 }) s m args below meth c H locs 0 0 (MQ below (va_Qi (fun (r : Int32) (_ : Unit) => r = r9) (fun _ t => PW G (va_A (wC G a T F U S D R M N P) sz) (wC G a T F U S D R M N P) t) (va_A (wC G a T F U S D R M N P) sz)) args s 0 0 (va_A (wC G a T F U S D R M N P) sz)) (F0 m 4 ls []) := by
  intro n
  induction n with
  | zero =>
    intro v2 v3 H locs hP hD hS ls hl hm
    rw [f_X0_domainsOf_L4] at hm
    cases hm
  | succ n ih =>
    intro v2 v3 H locs hP hD hS ls hl hm
    rw [f_X0_domainsOf_L4] at hm
    refine lv_aload_n hx hb dX0_domainsOf_4 rfl (lv_at hl 0 rfl) ?_
    refine va_get (D := DG G) (ci := 0) (v := .ref (a.1 1)) (C := RX0) (T := TX0) (N := 8) hx hb hts inW_X0 hown hK hP 21 rfl rfl 0 (by decide) (hts _ wm139) (fun _ h9 => h9) rfl dX0_domainsOf_5 ?_
    refine lv_iload_n hx hb dX0_domainsOf_8 rfl (lv_at hl 1 rfl) ?_
    obtain ⟨q_1, hq_1, hm⟩ := bind_some hm
    have hFc := free_all hD hS hA
    refine va_calli (va_runV (As := [.int v2]) (rest := []) ⟨hx, hb, hml, hown, hts⟩ (K_X9_kindOf l hfl G a T F U S D R M N P v2  q_1 hq_1 H.size) (cwV 1 hts (gV wm866 wm435 wm436 wm2 wm437) rfl rfl rfl (by decide +kernel) ⟨Nat.le_of_ble_eq_true rfl, Nat.le_of_ble_eq_true rfl⟩) (pre_v (pre_w hK hP hD hS hE hFc) (va_recv hK hP (ci := 8) (q0 := 1) rfl rfl)) rfl rfl hl.1 rfl (lv_room (Nat.le_of_ble_eq_true rfl)) dX0_domainsOf_9 ⟨Nat.le_of_ble_eq_true rfl, Nat.le_of_ble_eq_true rfl⟩) hS (fun q _ h => hFc q h) hFc (fun r u t H locs ht hvm hw hB hz1 hk1 hS => ?_)
    rw [show r = q_1 from hw]
    have hP : va_P (DG G) clP3 (wC G a T F U S D R M N P) H := by rw [← ht]; exact hB.1
    have hD : va_D A (wC G a T F U S D R M N P) := hB.2.weaken (fun _ p _ h => hFc p.1 h)
    clear hB hFc hw hk1
    refine W.widen (k := 0) (n := 0) (Nat.le_of_ble_eq_true rfl) (Nat.le_of_ble_eq_true rfl) ?_
    refine lv_iconst (v := 5) hx hb dX0_domainsOf_12 (by decide) ?_
    refine lv_icmp_ne (tgt := 36) hx hb dX0_domainsOf_13 (by decide) (fun c_2 => ?_) (fun c_2 => ?_)
    · rw [if_neg c_2] at hm
      refine lv_iload_n hx hb dX0_domainsOf_36 rfl (lv_at hl 2 rfl) ?_
      obtain rfl := Option.some.inj hm
      refine W.widen (k := 0) (n := 0) (Nat.le_of_ble_eq_true rfl) (Nat.le_of_ble_eq_true rfl) ?_
      exact W.iret (v := v3) hx hb hr (fun t ht hW => ⟨⟨v3, (), rfl, rfl, ⟨by rw [ht]; exact hP, by rw [hAe]; exact hD⟩⟩, by rw [hAe]; exact hS.F ht⟩) (by rw [hAe]; exact hS.2.2) dX0_domainsOf_37 hlocks
    · rw [if_pos c_2] at hm
      refine lv_iload_n hx hb dX0_domainsOf_16 rfl (lv_at hl 2 rfl) ?_
      refine lv_iconst (v := 4) hx hb dX0_domainsOf_17 (by decide) ?_
      refine lv_icmp_gt (tgt := 36) hx hb dX0_domainsOf_18 (by decide) (fun c_3 => ?_) (fun c_3 => ?_)
      · rw [if_pos c_3] at hm
        refine lv_iload_n hx hb dX0_domainsOf_36 rfl (lv_at hl 2 rfl) ?_
        obtain rfl := Option.some.inj hm
        refine W.widen (k := 0) (n := 0) (Nat.le_of_ble_eq_true rfl) (Nat.le_of_ble_eq_true rfl) ?_
        exact W.iret (v := v3) hx hb hr (fun t ht hW => ⟨⟨v3, (), rfl, rfl, ⟨by rw [ht]; exact hP, by rw [hAe]; exact hD⟩⟩, by rw [hAe]; exact hS.F ht⟩) (by rw [hAe]; exact hS.2.2) dX0_domainsOf_37 hlocks
      · rw [if_neg c_3] at hm
        refine lv_aload_n hx hb dX0_domainsOf_21 rfl (lv_at hl 0 rfl) ?_
        refine va_get (D := DG G) (ci := 0) (v := .ref (a.1 1)) (C := RX0) (T := TX0) (N := 8) hx hb hts inW_X0 hown hK hP 21 rfl rfl 0 (by decide) (hts _ wm139) (fun _ h9 => h9) rfl dX0_domainsOf_22 ?_
        refine lv_iload_n hx hb dX0_domainsOf_25 rfl (lv_at hl 1 rfl) ?_
        obtain ⟨q_4, hq_4, hm⟩ := bind_some hm
        have hFc := free_all hD hS hA
        refine va_calli (va_runV (As := [.int v2]) (rest := []) ⟨hx, hb, hml, hown, hts⟩ (K_X9_secondOf l hfl G a T F U S D R M N P v2  q_4 hq_4 H.size) (cwV 1 hts (gV wm867 wm460 wm461 wm2 wm462) rfl rfl rfl (by decide +kernel) ⟨Nat.le_of_ble_eq_true rfl, Nat.le_of_ble_eq_true rfl⟩) (pre_v (pre_w hK hP hD hS hE hFc) (va_recv hK hP (ci := 8) (q0 := 1) rfl rfl)) rfl rfl hl.1 rfl (lv_room (Nat.le_of_ble_eq_true rfl)) dX0_domainsOf_26 ⟨Nat.le_of_ble_eq_true rfl, Nat.le_of_ble_eq_true rfl⟩) hS (fun q _ h => hFc q h) hFc (fun r u t H locs ht hvm hw hB hz1 hk1 hS => ?_)
        rw [show r = q_4 from hw]
        have hP : va_P (DG G) clP3 (wC G a T F U S D R M N P) H := by rw [← ht]; exact hB.1
        have hD : va_D A (wC G a T F U S D R M N P) := hB.2.weaken (fun _ p _ h => hFc p.1 h)
        clear hB hFc hw hk1
        refine W.widen (k := 0) (n := 0) (Nat.le_of_ble_eq_true rfl) (Nat.le_of_ble_eq_true rfl) ?_
        refine lv_istore_n (lv' := [(2, .int q_4), (0, .ref (a.1 21)), (3, .int v3)]) hx hb dX0_domainsOf_29 rfl hl (by decide) rfl (fun ls hl => ?_)
        refine lv_iinc (v := (v3 + 1)) (lv' := [(3, .int (v3 + 1)), (2, .int q_4), (0, .ref (a.1 21))]) hx hb dX0_domainsOf_30 hl (k := 2) rfl rfl (by decide) rfl (fun ls hl => ?_)
        refine lv_goto (tgt := 4) hx hb dX0_domainsOf_33 (by decide) ?_
        refine W.widen (k := 0) (n := 0) (Nat.le_of_ble_eq_true rfl) (Nat.le_of_ble_eq_true rfl) ?_
        exact ih  q_4 (v3 + 1)  _ _ hP hD hS _ (lv_sub hl [2, 1, 0] rfl) hm
set_option maxHeartbeats 2000000 in
set_option maxRecDepth 100000 in
theorem k_X0_domainsOf (l : Launch) (hfl : l.stackTraces = false) (G : GC) (a : AS) (T : TS) (F : FS) (U : US) (S : SS) (D : DS) (R : RS) (M : MS) (N : NS) (P : PS) (hlk : lkA a D.1.toNatClampNeg D.2.1.toNatClampNeg) (p1 : Int32) (r9 : Int32) (hm : f_X0_domainsOf T p1 = some r9) (sz : Nat) : Met l yX0_domainsOf (Cond.code yX0_domainsOf cX0_domainsOf 4 (some .int) :: W0) ({ frames := 1, cells := 0, slots := 0, locals := 21 }) (va_Pc [.ref (a.1 21), .int p1] (WD G (wC G a T F U S D R M N P) sz)) (va_Qi (fun (r : Int32) (_ : Unit) => r = r9) (fun _ t => PW G (va_A (wC G a T F U S D R M N P) sz) (wC G a T F U S D R M N P) t) (va_A (wC G a T F U S D R M N P) sz)) 0 0 (va_A (wC G a T F U S D R M N P) sz) := by
  rw [f_X0_domainsOf] at hm
  refine Met.ofW (cc := cX0_domainsOf) (maxL := 4) (ret := (some .int)) (by decide) rfl ?_
  intro p e s m args below meth c s₁ B hml hv
  obtain ⟨rfl, hsz, hP, hK, hD0, hE⟩ := hv
  have hx := B.exec
  have hb := B.bytes
  have hr := B.returns
  have hts := w0_tail B.pre
  have hown : s.vm.findClass RX0 = some m.cls := findClass_of_methodNamed B.named
  have hlocks := B.notSynchronized
  have hD := hD0.self (sz := sz)
  obtain ⟨A, hAe⟩ : ∃ A, (va_A (wC G a T F U S D R M N P) sz) = A := ⟨_, rfl⟩
  rw [hAe] at hD hE
  have hA : ∀ q : Nat, s.heap.size ≤ q → A q := fun q h => by rw [← hAe]; exact Or.inr (by rw [← hsz]; exact h)
  have hS : va_S A s.heap s.heap [] := va_S.rf
  obtain ⟨H, hHe⟩ : ∃ H : Heap, H = s.heap := ⟨_, rfl⟩
  have hP : va_P (DG G) clP3 (wC G a T F U S D R M N P) H := by rw [hHe]; exact hP
  have hS : va_S A s.heap H [] := by rw [hHe]; exact hS
  have hl := lv_entry ([.ref (a.1 21), .int p1]) (n := 4) (Nat.le_of_ble_eq_true rfl)
  rw [lg_entry_eq, ← hHe]
  generalize (lg_sl ([.ref (a.1 21), .int p1]) ++ List.replicate (4 - (lg_sl ([.ref (a.1 21), .int p1])).length) Slot.unset).toArray = ls at hl ⊢
  have hl : lv_has ls 4 [(0, .ref (a.1 21)), (1, .int p1)] := hl
  refine lv_iload_n hx hb dX0_domainsOf_0 rfl (lv_at hl 1 rfl) ?_
  refine lv_istore_n (lv' := [(2, .int p1), (0, .ref (a.1 21)), (1, .int p1)]) hx hb dX0_domainsOf_1 rfl hl (by decide) rfl (fun ls hl => ?_)
  refine lv_iconst (v := 0) hx hb dX0_domainsOf_2 (by decide) ?_
  refine lv_istore_n (lv' := [(3, .int 0), (2, .int p1), (0, .ref (a.1 21)), (1, .int p1)]) hx hb dX0_domainsOf_3 rfl hl (by decide) rfl (fun ls hl => ?_)
  refine W.widen (k := 0) (n := 0) (Nat.le_of_ble_eq_true rfl) (Nat.le_of_ble_eq_true rfl) ?_
  exact kl_X0_domainsOf_4 hfl hx hb hr hml hown hts hlocks hlk hAe hA hE hK r9 100000  p1 0  _ _ hP hD hS _ (lv_sub hl [2, 1, 0] rfl) hm
def f_X0_openOnesOf_L4 : Nat → DS → PS → Int32 → Int32 → Int32 → Option (Int32)
  | 0, _, _, _, _, _ => none
  | n + 1, D, P, v1, v2, v3 => (if D.2.1 ≤ v3 then some v2 else (Option.bind (f_X0_goal D v3) (fun q_2 => (if q_2 < 0 then (f_X0_openOnesOf_L4 n D P v1 v2 (v3 + 1)) else (if gix D q_2 = true then (if (P.2.2.2.1 (Int32.toNatClampNeg q_2)) = v1 then (if (P.2.2.2.2.2.1 (Int32.toNatClampNeg q_2)) = 111 then (f_X0_openOnesOf_L4 n D P v1 (v2 + 1) (v3 + 1)) else (f_X0_openOnesOf_L4 n D P v1 v2 (v3 + 1))) else (f_X0_openOnesOf_L4 n D P v1 v2 (v3 + 1))) else none)))))
def f_X0_openOnesOf (D : DS) (P : PS) (p1 : Int32) : Option (Int32) := (f_X0_openOnesOf_L4 100000 D P p1 0 0)
set_option maxHeartbeats 2000000 in
set_option maxRecDepth 100000 in
theorem kl_X0_openOnesOf_4 {l : Launch} (hfl : l.stackTraces = false) {G : GC} {a : AS} {T : TS} {F : FS} {U : US} {S : SS} {D : DS} {R : RS} {M : MS} {N : NS} {P : PS} {A : Nat → Prop} {sz : Nat} {p : Program} {e : Env} {s : State} {m : MethodId} {args : Array Value} {below : List Frame} {meth : Method} {c : Code} (hx : p.tables.exec = Jvm.exec) (hb : c.code = cX0_openOnesOf) (hr : meth.sig.returnType = (some .int)) (hml : c.maxLocals = 5) (hown : s.vm.findClass RX0 = some m.cls) (hts : ∀ w ∈ W0, w.before args s = true) (hlocks : meth.locks = false) (hlk : lkA a D.1.toNatClampNeg D.2.1.toNatClampNeg) (hAe : (va_A (wC G a T F U S D R M N P) sz) = A) (hA : ∀ q : Nat, s.heap.size ≤ q → A q) (hE : EV G A s s.heap) (hK : va_K (DG G) clP3 (TY G) s) (r9 : Int32) : ∀ (n : Nat), ∀ (v1 : Int32) (v2 : Int32) (v3 : Int32) (H : Heap) (locs : List Loc), va_P (DG G) clP3 (wC G a T F U S D R M N P) H → va_D A (wC G a T F U S D R M N P) → va_S A s.heap H locs → ∀ (ls : Array Slot), lv_has ls 5 [(0, .ref (a.1 21)), (1, .int v1), (2, .int v2), (3, .int v3)] → f_X0_openOnesOf_L4 n D P v1 v2 v3 = some r9 → W p l e ({ frames := 1, cells := 0, slots := 0, locals := 21 }) s m args below meth c H locs 0 0 (MQ below (va_Qi (fun (r : Int32) (_ : Unit) => r = r9) (fun _ t => PW G (va_A (wC G a T F U S D R M N P) sz) (wC G a T F U S D R M N P) t) (va_A (wC G a T F U S D R M N P) sz)) args s 0 0 (va_A (wC G a T F U S D R M N P) sz)) (F0 m 4 ls []) := by
  intro n
  induction n with
  | zero =>
    intro v1 v2 v3 H locs hP hD hS ls hl hm
    rw [f_X0_openOnesOf_L4] at hm
    cases hm
  | succ n ih =>
    intro v1 v2 v3 H locs hP hD hS ls hl hm
    rw [f_X0_openOnesOf_L4] at hm
    refine lv_iload_n hx hb dX0_openOnesOf_4 rfl (lv_at hl 3 rfl) ?_
    refine lv_aload_n hx hb dX0_openOnesOf_5 rfl (lv_at hl 0 rfl) ?_
    refine va_get (D := DG G) (ci := 0) (v := .int D.2.1) (C := RX0) (T := TX0) (N := 8) hx hb hts inW_X0 hown hK hP 21 rfl rfl 6 (by decide) (hts _ wm146) (fun _ h9 => h9) rfl dX0_openOnesOf_6 ?_
    refine lv_icmp_ge (tgt := 52) hx hb dX0_openOnesOf_9 (by decide) (fun c_1 => ?_) (fun c_1 => ?_)
    · rw [if_pos c_1] at hm
      refine lv_iload_n hx hb dX0_openOnesOf_52 rfl (lv_at hl 2 rfl) ?_
      obtain rfl := Option.some.inj hm
      refine W.widen (k := 0) (n := 0) (Nat.le_of_ble_eq_true rfl) (Nat.le_of_ble_eq_true rfl) ?_
      exact W.iret (v := v2) hx hb hr (fun t ht hW => ⟨⟨v2, (), rfl, rfl, ⟨by rw [ht]; exact hP, by rw [hAe]; exact hD⟩⟩, by rw [hAe]; exact hS.F ht⟩) (by rw [hAe]; exact hS.2.2) dX0_openOnesOf_53 hlocks
    · rw [if_neg c_1] at hm
      refine lv_aload_n hx hb dX0_openOnesOf_12 rfl (lv_at hl 0 rfl) ?_
      refine lv_iload_n hx hb dX0_openOnesOf_13 rfl (lv_at hl 3 rfl) ?_
      obtain ⟨q_2, hq_2, hm⟩ := bind_some hm
      have hFc := free_all hD hS hA
      refine va_callq (va_runV (As := [.int v3]) (rest := []) ⟨hx, hb, hml, hown, hts⟩ (k_X0_goal l hfl G a T F U S D R M N P hlk v3  q_2 hq_2 H.size) (cwV 1 hts (gV wm621 wm605 wm606 wm5 wm607) rfl rfl rfl (by decide +kernel) ⟨Nat.le_of_ble_eq_true rfl, Nat.le_of_ble_eq_true rfl⟩) (pre_v (pre_w hK hP hD hS hE hFc) (va_recv hK hP (ci := 0) (q0 := 21) rfl rfl)) rfl rfl hl.1 rfl (lv_room (Nat.le_of_ble_eq_true rfl)) dX0_openOnesOf_14 ⟨Nat.le_of_ble_eq_true rfl, Nat.le_of_ble_eq_true rfl⟩) hS (fun q _ h => hFc q h) hFc (fun r u t H locs ht hvm hw hB hz1 hk1 hS => ?_)
      rw [show r = rfG a q_2 from hw]
      have hP : va_P (DG G) clP3 (wC G a T F U S D R M N P) H := by rw [← ht]; exact hB.1
      have hD : va_D A (wC G a T F U S D R M N P) := hB.2.weaken (fun _ p _ h => hFc p.1 h)
      clear hB hFc hw hk1
      refine W.widen (k := 0) (n := 0) (Nat.le_of_ble_eq_true rfl) (Nat.le_of_ble_eq_true rfl) ?_
      by_cases c_3 : q_2 < 0
      · rw [if_pos c_3] at hm
        rw [show rfG a q_2 = none from if_pos c_3]
        refine W.eq (g2 := F0 m 17 ls [.null]) rfl ?_
        refine lv_astoreN (lv' := [(4, .null), (0, .ref (a.1 21)), (1, .int v1), (2, .int v2), (3, .int v3)]) hx hb dX0_openOnesOf_17 hl (by decide) rfl (fun ls hl => ?_)
        refine lv_aloadN hx hb dX0_openOnesOf_19 (lv_at hl 0 rfl) ?_
        refine lv_ifnullN (tgt := 46) hx hb dX0_openOnesOf_21 (by decide) ?_
        refine lv_iinc (v := (v3 + 1)) (lv' := [(3, .int (v3 + 1)), (4, .null), (0, .ref (a.1 21)), (1, .int v1), (2, .int v2)]) hx hb dX0_openOnesOf_46 hl (k := 4) rfl rfl (by decide) rfl (fun ls hl => ?_)
        refine lv_goto (tgt := 4) hx hb dX0_openOnesOf_49 (by decide) ?_
        refine W.widen (k := 0) (n := 0) (Nat.le_of_ble_eq_true rfl) (Nat.le_of_ble_eq_true rfl) ?_
        exact ih  v1 v2 (v3 + 1)  _ _ hP hD hS _ (lv_sub hl [2, 3, 4, 0] rfl) hm
      · rw [if_neg c_3] at hm
        obtain ⟨g_4, hm⟩ := ite_some hm
        rw [show rfG a q_2 = some _ from if_neg c_3]
        refine W.eq (g2 := F0 m 17 ls [.ref (a.2.2.1 (Int32.toNatClampNeg q_2) 0)]) rfl ?_
        refine lv_astore (lv' := [(4, .ref (a.2.2.1 (Int32.toNatClampNeg q_2) 0)), (0, .ref (a.1 21)), (1, .int v1), (2, .int v2), (3, .int v3)]) hx hb dX0_openOnesOf_17 hl (by decide) rfl (fun ls hl => ?_)
        refine lv_aload hx hb dX0_openOnesOf_19 (lv_at hl 0 rfl) ?_
        refine lv_ifnull hx hb dX0_openOnesOf_21 ?_
        refine lv_aload hx hb dX0_openOnesOf_24 (lv_at hl 0 rfl) ?_
        refine va_getN (D := DG G) (ci := 3) (v := .int (P.2.2.2.1 (Int32.toNatClampNeg q_2))) (C := RX3) (T := TX3) (N := 8) hx hb hts inW_X3 hown hK hP _ ((at_goalC (c := 0) (gix_lt g_4) (by decide)).trans rfl) rfl 0 (by decide) (va_Nw.use rfl (hE.1 _ nw906)) (fun _ h9 => h9) rfl dX0_openOnesOf_26 ?_
        refine lv_iload_n hx hb dX0_openOnesOf_29 rfl (lv_at hl 2 rfl) ?_
        refine lv_icmp_ne (tgt := 46) hx hb dX0_openOnesOf_30 (by decide) (fun c_5 => ?_) (fun c_5 => ?_)
        · rw [if_neg c_5] at hm
          refine lv_iinc (v := (v3 + 1)) (lv' := [(3, .int (v3 + 1)), (4, .ref (a.2.2.1 (Int32.toNatClampNeg q_2) 0)), (0, .ref (a.1 21)), (1, .int v1), (2, .int v2)]) hx hb dX0_openOnesOf_46 hl (k := 4) rfl rfl (by decide) rfl (fun ls hl => ?_)
          refine lv_goto (tgt := 4) hx hb dX0_openOnesOf_49 (by decide) ?_
          refine W.widen (k := 0) (n := 0) (Nat.le_of_ble_eq_true rfl) (Nat.le_of_ble_eq_true rfl) ?_
          exact ih  v1 v2 (v3 + 1)  _ _ hP hD hS _ (lv_sub hl [2, 3, 4, 0] rfl) hm
        · rw [if_pos c_5] at hm
          refine lv_aload hx hb dX0_openOnesOf_33 (lv_at hl 0 rfl) ?_
          refine va_getN (D := DG G) (ci := 3) (v := .int (P.2.2.2.2.2.1 (Int32.toNatClampNeg q_2))) (C := RX3) (T := TX3) (N := 8) hx hb hts inW_X3 hown hK hP _ ((at_goalC (c := 0) (gix_lt g_4) (by decide)).trans rfl) rfl 4 (by decide) (va_Nw.use rfl (hE.1 _ nw922)) (fun _ h9 => h9) rfl dX0_openOnesOf_35 ?_
          refine lv_bipush (v := 111) hx hb dX0_openOnesOf_38 (by decide) ?_
          refine lv_icmp_ne (tgt := 46) hx hb dX0_openOnesOf_40 (by decide) (fun c_6 => ?_) (fun c_6 => ?_)
          · rw [if_neg c_6] at hm
            refine lv_iinc (v := (v3 + 1)) (lv' := [(3, .int (v3 + 1)), (4, .ref (a.2.2.1 (Int32.toNatClampNeg q_2) 0)), (0, .ref (a.1 21)), (1, .int v1), (2, .int v2)]) hx hb dX0_openOnesOf_46 hl (k := 4) rfl rfl (by decide) rfl (fun ls hl => ?_)
            refine lv_goto (tgt := 4) hx hb dX0_openOnesOf_49 (by decide) ?_
            refine W.widen (k := 0) (n := 0) (Nat.le_of_ble_eq_true rfl) (Nat.le_of_ble_eq_true rfl) ?_
            exact ih  v1 v2 (v3 + 1)  _ _ hP hD hS _ (lv_sub hl [2, 3, 4, 0] rfl) hm
          · rw [if_pos c_6] at hm
            refine lv_iinc (v := (v2 + 1)) (lv' := [(2, .int (v2 + 1)), (4, .ref (a.2.2.1 (Int32.toNatClampNeg q_2) 0)), (0, .ref (a.1 21)), (1, .int v1), (3, .int v3)]) hx hb dX0_openOnesOf_43 hl (k := 3) rfl rfl (by decide) rfl (fun ls hl => ?_)
            refine lv_iinc (v := (v3 + 1)) (lv' := [(3, .int (v3 + 1)), (2, .int (v2 + 1)), (4, .ref (a.2.2.1 (Int32.toNatClampNeg q_2) 0)), (0, .ref (a.1 21)), (1, .int v1)]) hx hb dX0_openOnesOf_46 hl (k := 4) rfl rfl (by decide) rfl (fun ls hl => ?_)
            refine lv_goto (tgt := 4) hx hb dX0_openOnesOf_49 (by decide) ?_
            refine W.widen (k := 0) (n := 0) (Nat.le_of_ble_eq_true rfl) (Nat.le_of_ble_eq_true rfl) ?_
            exact ih  v1 (v2 + 1) (v3 + 1)  _ _ hP hD hS _ (lv_sub hl [3, 4, 1, 0] rfl) hm
set_option maxHeartbeats 2000000 in
set_option maxRecDepth 100000 in
theorem k_X0_openOnesOf (l : Launch) (hfl : l.stackTraces = false) (G : GC) (a : AS) (T : TS) (F : FS) (U : US) (S : SS) (D : DS) (R : RS) (M : MS) (N : NS) (P : PS) (hlk : lkA a D.1.toNatClampNeg D.2.1.toNatClampNeg) (p1 : Int32) (r9 : Int32) (hm : f_X0_openOnesOf D P p1 = some r9) (sz : Nat) : Met l yX0_openOnesOf (Cond.code yX0_openOnesOf cX0_openOnesOf 5 (some .int) :: W0) ({ frames := 1, cells := 0, slots := 0, locals := 21 }) (va_Pc [.ref (a.1 21), .int p1] (WD G (wC G a T F U S D R M N P) sz)) (va_Qi (fun (r : Int32) (_ : Unit) => r = r9) (fun _ t => PW G (va_A (wC G a T F U S D R M N P) sz) (wC G a T F U S D R M N P) t) (va_A (wC G a T F U S D R M N P) sz)) 0 0 (va_A (wC G a T F U S D R M N P) sz) := by
  rw [f_X0_openOnesOf] at hm
  refine Met.ofW (cc := cX0_openOnesOf) (maxL := 5) (ret := (some .int)) (by decide) rfl ?_
  intro p e s m args below meth c s₁ B hml hv
  obtain ⟨rfl, hsz, hP, hK, hD0, hE⟩ := hv
  have hx := B.exec
  have hb := B.bytes
  have hr := B.returns
  have hts := w0_tail B.pre
  have hown : s.vm.findClass RX0 = some m.cls := findClass_of_methodNamed B.named
  have hlocks := B.notSynchronized
  have hD := hD0.self (sz := sz)
  obtain ⟨A, hAe⟩ : ∃ A, (va_A (wC G a T F U S D R M N P) sz) = A := ⟨_, rfl⟩
  rw [hAe] at hD hE
  have hA : ∀ q : Nat, s.heap.size ≤ q → A q := fun q h => by rw [← hAe]; exact Or.inr (by rw [← hsz]; exact h)
  have hS : va_S A s.heap s.heap [] := va_S.rf
  obtain ⟨H, hHe⟩ : ∃ H : Heap, H = s.heap := ⟨_, rfl⟩
  have hP : va_P (DG G) clP3 (wC G a T F U S D R M N P) H := by rw [hHe]; exact hP
  have hS : va_S A s.heap H [] := by rw [hHe]; exact hS
  have hl := lv_entry ([.ref (a.1 21), .int p1]) (n := 5) (Nat.le_of_ble_eq_true rfl)
  rw [lg_entry_eq, ← hHe]
  generalize (lg_sl ([.ref (a.1 21), .int p1]) ++ List.replicate (5 - (lg_sl ([.ref (a.1 21), .int p1])).length) Slot.unset).toArray = ls at hl ⊢
  have hl : lv_has ls 5 [(0, .ref (a.1 21)), (1, .int p1)] := hl
  refine lv_iconst (v := 0) hx hb dX0_openOnesOf_0 (by decide) ?_
  refine lv_istore_n (lv' := [(2, .int 0), (0, .ref (a.1 21)), (1, .int p1)]) hx hb dX0_openOnesOf_1 rfl hl (by decide) rfl (fun ls hl => ?_)
  refine lv_iconst (v := 0) hx hb dX0_openOnesOf_2 (by decide) ?_
  refine lv_istore_n (lv' := [(3, .int 0), (2, .int 0), (0, .ref (a.1 21)), (1, .int p1)]) hx hb dX0_openOnesOf_3 rfl hl (by decide) rfl (fun ls hl => ?_)
  refine W.widen (k := 0) (n := 0) (Nat.le_of_ble_eq_true rfl) (Nat.le_of_ble_eq_true rfl) ?_
  exact kl_X0_openOnesOf_4 hfl hx hb hr hml hown hts hlocks hlk hAe hA hE hK r9 100000  p1 0 0  _ _ hP hD hS _ (lv_sub hl [2, 3, 1, 0] rfl) hm
def f_X0_withValue (T : TS) (p1 : Int32) (p2 : Int32) (p3 : Int32) (p4 : Int32) : Option (Int32 × TS) := (Option.bind (g_X6_lift T p1 p3 (p4 + (1 : Int32))) (fun q_1 => (Option.bind (g_X6_put q_1.2 q_1.1 p2 p4) (fun q_2 => some (q_2.1, q_2.2)))))
set_option maxHeartbeats 2000000 in
set_option maxRecDepth 100000 in
theorem k_X0_withValue (l : Launch) (hfl : l.stackTraces = false) (G : GC) (a : AS) (T : TS) (F : FS) (U : US) (S : SS) (D : DS) (R : RS) (M : MS) (N : NS) (P : PS) (hlk : lkA a D.1.toNatClampNeg D.2.1.toNatClampNeg) (p1 : Int32) (p2 : Int32) (p3 : Int32) (p4 : Int32) (r9 : Int32) (T9 : TS) (hm : f_X0_withValue T p1 p2 p3 p4 = some (r9, T9)) (sz : Nat) : Met l yX0_withValue (Cond.code yX0_withValue cX0_withValue 5 (some .int) :: W0) ({ frames := 404, cells := 0, slots := 0, locals := 10492 }) (va_Pc [.ref (a.1 21), .int p1, .int p2, .int p3, .int p4] (WD G (wC G a T F U S D R M N P) sz)) (va_Qi (fun (r : Int32) (_ : Unit) => r = r9) (fun _ t => PW G (va_A (wC G a T F U S D R M N P) sz) (wC G a T9 F U S D R M N P) t) (va_A (wC G a T F U S D R M N P) sz)) 0 0 (va_A (wC G a T F U S D R M N P) sz) := by
  rw [f_X0_withValue] at hm
  refine Met.ofW (cc := cX0_withValue) (maxL := 5) (ret := (some .int)) (by decide) rfl ?_
  intro p e s m args below meth c s₁ B hml hv
  obtain ⟨rfl, hsz, hP, hK, hD0, hE⟩ := hv
  have hx := B.exec
  have hb := B.bytes
  have hr := B.returns
  have hts := w0_tail B.pre
  have hown : s.vm.findClass RX0 = some m.cls := findClass_of_methodNamed B.named
  have hlocks := B.notSynchronized
  have hD := hD0.self (sz := sz)
  obtain ⟨A, hAe⟩ : ∃ A, (va_A (wC G a T F U S D R M N P) sz) = A := ⟨_, rfl⟩
  rw [hAe] at hD hE
  have hA : ∀ q : Nat, s.heap.size ≤ q → A q := fun q h => by rw [← hAe]; exact Or.inr (by rw [← hsz]; exact h)
  have hS : va_S A s.heap s.heap [] := va_S.rf
  obtain ⟨H, hHe⟩ : ∃ H : Heap, H = s.heap := ⟨_, rfl⟩
  have hP : va_P (DG G) clP3 (wC G a T F U S D R M N P) H := by rw [hHe]; exact hP
  have hS : va_S A s.heap H [] := by rw [hHe]; exact hS
  have hl := lv_entry ([.ref (a.1 21), .int p1, .int p2, .int p3, .int p4]) (n := 5) (Nat.le_of_ble_eq_true rfl)
  rw [lg_entry_eq, ← hHe]
  generalize (lg_sl ([.ref (a.1 21), .int p1, .int p2, .int p3, .int p4]) ++ List.replicate (5 - (lg_sl ([.ref (a.1 21), .int p1, .int p2, .int p3, .int p4])).length) Slot.unset).toArray = ls at hl ⊢
  have hl : lv_has ls 5 [(0, .ref (a.1 21)), (1, .int p1), (2, .int p2), (3, .int p3), (4, .int p4)] := hl
  refine lv_aload_n hx hb dX0_withValue_0 rfl (lv_at hl 0 rfl) ?_
  refine va_get (D := DG G) (ci := 0) (v := .ref (a.1 1)) (C := RX0) (T := TX0) (N := 8) hx hb hts inW_X0 hown hK hP 21 rfl rfl 0 (by decide) (hts _ wm139) (fun _ h9 => h9) rfl dX0_withValue_1 ?_
  refine lv_aload_n hx hb dX0_withValue_4 rfl (lv_at hl 0 rfl) ?_
  refine va_get (D := DG G) (ci := 0) (v := .ref (a.1 1)) (C := RX0) (T := TX0) (N := 8) hx hb hts inW_X0 hown hK hP 21 rfl rfl 0 (by decide) (hts _ wm139) (fun _ h9 => h9) rfl dX0_withValue_5 ?_
  refine lv_iload_n hx hb dX0_withValue_8 rfl (lv_at hl 1 rfl) ?_
  refine lv_iload_n hx hb dX0_withValue_9 rfl (lv_at hl 3 rfl) ?_
  refine lv_iload hx hb dX0_withValue_10 (lv_at hl 4 rfl) ?_
  refine lv_iconst (v := 1) hx hb dX0_withValue_12 (by decide) ?_
  refine lv_iadd hx hb dX0_withValue_13 ?_
  obtain ⟨q_1, hq_1, hm⟩ := bind_some hm
  have hFc := free_all hD hS hA
  refine va_calli (va_runSN (As := [.ref (a.1 1), .int p1, .int p3, .int (p4 + (1 : Int32))]) (rest := [.ref (a.1 1)]) ⟨hx, hb, hml, hown, hts⟩ (K_X6_lift l hfl G a T F U S D R M N P p1 p3 (p4 + (1 : Int32))  q_1.1 q_1.2 hq_1 H.size) ⟨va_cnB 4 hts (gC wm450) rfl rfl rfl (hE.1 _ nw1005) (hts _ wm20) (by decide +kernel) ⟨Nat.le_of_ble_eq_true rfl, Nat.le_of_ble_eq_true rfl⟩, hts _ wm449, trivial⟩ (pre_w hK hP hD hS hE hFc) rfl rfl hl.1 rfl (lv_room (Nat.le_of_ble_eq_true rfl)) dX0_withValue_14 ⟨Nat.le_of_ble_eq_true rfl, Nat.le_of_ble_eq_true rfl⟩) hS (fun q _ h => hFc q h) hFc (fun r u t H locs ht hvm hw hB hz1 hk1 hS => ?_)
  rw [show r = q_1.1 from hw]
  have hP : va_P (DG G) clP3 (wC G a q_1.2 F U S D R M N P) H := by rw [← ht]; exact hB.1
  have hD : va_D A (wC G a q_1.2 F U S D R M N P) := hB.2.weaken (fun _ p _ h => hFc p.1 h)
  clear hB hFc hw hk1
  refine W.widen (k := 0) (n := 0) (Nat.le_of_ble_eq_true rfl) (Nat.le_of_ble_eq_true rfl) ?_
  refine lv_iload_n hx hb dX0_withValue_17 rfl (lv_at hl 2 rfl) ?_
  refine lv_iload hx hb dX0_withValue_18 (lv_at hl 4 rfl) ?_
  obtain ⟨q_2, hq_2, hm⟩ := bind_some hm
  have hFc := free_all hD hS hA
  refine va_calli (va_runSN (As := [.ref (a.1 1), .int q_1.1, .int p2, .int p4]) (rest := []) ⟨hx, hb, hml, hown, hts⟩ (K_X6_put l hfl G a q_1.2 F U S D R M N P q_1.1 p2 p4  q_2.1 q_2.2 hq_2 H.size) ⟨va_cnB 4 hts (gC wm533) rfl rfl rfl (hE.1 _ nw1006) (hts _ wm20) (by decide +kernel) ⟨Nat.le_of_ble_eq_true rfl, Nat.le_of_ble_eq_true rfl⟩, hts _ wm532, trivial⟩ (pre_w hK hP hD hS hE hFc) rfl rfl hl.1 rfl (lv_room (Nat.le_of_ble_eq_true rfl)) dX0_withValue_20 ⟨Nat.le_of_ble_eq_true rfl, Nat.le_of_ble_eq_true rfl⟩) hS (fun q _ h => hFc q h) hFc (fun r u t H locs ht hvm hw hB hz1 hk1 hS => ?_)
  rw [show r = q_2.1 from hw]
  have hP : va_P (DG G) clP3 (wC G a q_2.2 F U S D R M N P) H := by rw [← ht]; exact hB.1
  have hD : va_D A (wC G a q_2.2 F U S D R M N P) := hB.2.weaken (fun _ p _ h => hFc p.1 h)
  clear hB hFc hw hk1
  refine W.widen (k := 0) (n := 0) (Nat.le_of_ble_eq_true rfl) (Nat.le_of_ble_eq_true rfl) ?_
  simp only [Option.some.injEq, Prod.mk.injEq] at hm
  obtain ⟨rfl, rfl⟩ := hm
  refine W.widen (k := 0) (n := 0) (Nat.le_of_ble_eq_true rfl) (Nat.le_of_ble_eq_true rfl) ?_
  exact W.iret (v := q_2.1) hx hb hr (fun t ht hW => ⟨⟨q_2.1, (), rfl, rfl, ⟨by rw [ht]; exact hP, by rw [hAe]; exact hD⟩⟩, by rw [hAe]; exact hS.F ht⟩) (by rw [hAe]; exact hS.2.2) dX0_withValue_23 hlocks
def f_X0_formWithValue (T : TS) (F : FS) (p1 : Int32) (p2 : Int32) (p3 : Int32) (p4 : Int32) : Option (Int32 × TS × FS) := (Option.bind (g_X9_mark T) (fun q_1 => (Option.bind (f_X0_withValue T p1 p2 p3 p4) (fun q_2 => (Option.bind (g_X1_formOf q_2.2 F q_2.1) (fun q_3 => (Option.bind (g_X9_keep q_3.2.1 q_3.2.2 q_1 q_3.1) (fun q_4 => some (q_4.1, q_4.2.1, q_4.2.2)))))))))
set_option maxHeartbeats 2000000 in
set_option maxRecDepth 100000 in
theorem k_X0_formWithValue (l : Launch) (hfl : l.stackTraces = false) (G : GC) (a : AS) (T : TS) (F : FS) (U : US) (S : SS) (D : DS) (R : RS) (M : MS) (N : NS) (P : PS) (hlk : lkA a D.1.toNatClampNeg D.2.1.toNatClampNeg) (p1 : Int32) (p2 : Int32) (p3 : Int32) (p4 : Int32) (r9 : Int32) (T9 : TS) (F9 : FS) (hm : f_X0_formWithValue T F p1 p2 p3 p4 = some (r9, T9, F9)) (sz : Nat) : Met l yX0_formWithValue (Cond.code yX0_formWithValue cX0_formWithValue 6 (some .int) :: W0) ({ frames := 405, cells := 0, slots := 0, locals := 10517 }) (va_Pc [.ref (a.1 21), .int p1, .int p2, .int p3, .int p4] (WD G (wC G a T F U S D R M N P) sz)) (va_Qi (fun (r : Int32) (_ : Unit) => r = r9) (fun _ t => PW G (va_A (wC G a T F U S D R M N P) sz) (wC G a T9 F9 U S D R M N P) t) (va_A (wC G a T F U S D R M N P) sz)) 0 0 (va_A (wC G a T F U S D R M N P) sz) := by
  rw [f_X0_formWithValue] at hm
  refine Met.ofW (cc := cX0_formWithValue) (maxL := 6) (ret := (some .int)) (by decide) rfl ?_
  intro p e s m args below meth c s₁ B hml hv
  obtain ⟨rfl, hsz, hP, hK, hD0, hE⟩ := hv
  have hx := B.exec
  have hb := B.bytes
  have hr := B.returns
  have hts := w0_tail B.pre
  have hown : s.vm.findClass RX0 = some m.cls := findClass_of_methodNamed B.named
  have hlocks := B.notSynchronized
  have hD := hD0.self (sz := sz)
  obtain ⟨A, hAe⟩ : ∃ A, (va_A (wC G a T F U S D R M N P) sz) = A := ⟨_, rfl⟩
  rw [hAe] at hD hE
  have hA : ∀ q : Nat, s.heap.size ≤ q → A q := fun q h => by rw [← hAe]; exact Or.inr (by rw [← hsz]; exact h)
  have hS : va_S A s.heap s.heap [] := va_S.rf
  obtain ⟨H, hHe⟩ : ∃ H : Heap, H = s.heap := ⟨_, rfl⟩
  have hP : va_P (DG G) clP3 (wC G a T F U S D R M N P) H := by rw [hHe]; exact hP
  have hS : va_S A s.heap H [] := by rw [hHe]; exact hS
  have hl := lv_entry ([.ref (a.1 21), .int p1, .int p2, .int p3, .int p4]) (n := 6) (Nat.le_of_ble_eq_true rfl)
  rw [lg_entry_eq, ← hHe]
  generalize (lg_sl ([.ref (a.1 21), .int p1, .int p2, .int p3, .int p4]) ++ List.replicate (6 - (lg_sl ([.ref (a.1 21), .int p1, .int p2, .int p3, .int p4])).length) Slot.unset).toArray = ls at hl ⊢
  have hl : lv_has ls 6 [(0, .ref (a.1 21)), (1, .int p1), (2, .int p2), (3, .int p3), (4, .int p4)] := hl
  refine lv_aload_n hx hb dX0_formWithValue_0 rfl (lv_at hl 0 rfl) ?_
  refine va_get (D := DG G) (ci := 0) (v := .ref (a.1 1)) (C := RX0) (T := TX0) (N := 8) hx hb hts inW_X0 hown hK hP 21 rfl rfl 0 (by decide) (hts _ wm139) (fun _ h9 => h9) rfl dX0_formWithValue_1 ?_
  obtain ⟨q_1, hq_1, hm⟩ := bind_some hm
  have hFc := free_all hD hS hA
  refine va_calli (va_runV (As := []) (rest := []) ⟨hx, hb, hml, hown, hts⟩ (K_X9_mark l hfl G a T F U S D R M N P   q_1 hq_1 H.size) (cwV 0 hts (gV wm987 wm411 wm412 wm2 wm413) rfl rfl rfl (by decide +kernel) ⟨Nat.le_of_ble_eq_true rfl, Nat.le_of_ble_eq_true rfl⟩) (pre_v (pre_w hK hP hD hS hE hFc) (va_recv hK hP (ci := 8) (q0 := 1) rfl rfl)) rfl rfl hl.1 rfl (lv_room (Nat.le_of_ble_eq_true rfl)) dX0_formWithValue_4 ⟨Nat.le_of_ble_eq_true rfl, Nat.le_of_ble_eq_true rfl⟩) hS (fun q _ h => hFc q h) hFc (fun r u t H locs ht hvm hw hB hz1 hk1 hS => ?_)
  rw [show r = q_1 from hw]
  have hP : va_P (DG G) clP3 (wC G a T F U S D R M N P) H := by rw [← ht]; exact hB.1
  have hD : va_D A (wC G a T F U S D R M N P) := hB.2.weaken (fun _ p _ h => hFc p.1 h)
  clear hB hFc hw hk1
  refine W.widen (k := 0) (n := 0) (Nat.le_of_ble_eq_true rfl) (Nat.le_of_ble_eq_true rfl) ?_
  refine lv_istore (lv' := [(5, .int q_1), (0, .ref (a.1 21)), (1, .int p1), (2, .int p2), (3, .int p3), (4, .int p4)]) hx hb dX0_formWithValue_7 hl (by decide) rfl (fun ls hl => ?_)
  refine lv_aload_n hx hb dX0_formWithValue_9 rfl (lv_at hl 1 rfl) ?_
  refine va_get (D := DG G) (ci := 0) (v := .ref (a.1 1)) (C := RX0) (T := TX0) (N := 8) hx hb hts inW_X0 hown hK hP 21 rfl rfl 0 (by decide) (hts _ wm139) (fun _ h9 => h9) rfl dX0_formWithValue_10 ?_
  refine lv_iload hx hb dX0_formWithValue_13 (lv_at hl 0 rfl) ?_
  refine lv_aload_n hx hb dX0_formWithValue_15 rfl (lv_at hl 1 rfl) ?_
  refine va_get (D := DG G) (ci := 0) (v := .ref (a.1 11)) (C := RX0) (T := TX0) (N := 8) hx hb hts inW_X0 hown hK hP 21 rfl rfl 1 (by decide) (hts _ wm140) (fun _ h9 => h9) rfl dX0_formWithValue_16 ?_
  refine lv_aload_n hx hb dX0_formWithValue_19 rfl (lv_at hl 1 rfl) ?_
  refine lv_iload_n hx hb dX0_formWithValue_20 rfl (lv_at hl 2 rfl) ?_
  refine lv_iload_n hx hb dX0_formWithValue_21 rfl (lv_at hl 3 rfl) ?_
  refine lv_iload_n hx hb dX0_formWithValue_22 rfl (lv_at hl 4 rfl) ?_
  refine lv_iload hx hb dX0_formWithValue_23 (lv_at hl 5 rfl) ?_
  obtain ⟨q_2, hq_2, hm⟩ := bind_some hm
  have hFc := free_all hD hS hA
  refine va_calli (va_runV (As := [.int p1, .int p2, .int p3, .int p4]) (rest := [.ref (a.1 11), .int q_1, .ref (a.1 1)]) ⟨hx, hb, hml, hown, hts⟩ (k_X0_withValue l hfl G a T F U S D R M N P hlk p1 p2 p3 p4  q_2.1 q_2.2 hq_2 H.size) (cwV 4 hts (gV wm1001 wm1003 ws_p15 wm5 wm1004) rfl rfl rfl (by decide +kernel) ⟨Nat.le_of_ble_eq_true rfl, Nat.le_of_ble_eq_true rfl⟩) (pre_v (pre_w hK hP hD hS hE hFc) (va_recv hK hP (ci := 0) (q0 := 21) rfl rfl)) rfl rfl hl.1 rfl (lv_room (Nat.le_of_ble_eq_true rfl)) dX0_formWithValue_25 ⟨Nat.le_of_ble_eq_true rfl, Nat.le_of_ble_eq_true rfl⟩) hS (fun q _ h => hFc q h) hFc (fun r u t H locs ht hvm hw hB hz1 hk1 hS => ?_)
  rw [show r = q_2.1 from hw]
  have hP : va_P (DG G) clP3 (wC G a q_2.2 F U S D R M N P) H := by rw [← ht]; exact hB.1
  have hD : va_D A (wC G a q_2.2 F U S D R M N P) := hB.2.weaken (fun _ p _ h => hFc p.1 h)
  clear hB hFc hw hk1
  refine W.widen (k := 0) (n := 0) (Nat.le_of_ble_eq_true rfl) (Nat.le_of_ble_eq_true rfl) ?_
  obtain ⟨q_3, hq_3, hm⟩ := bind_some hm
  have hFc := free_all hD hS hA
  refine va_calli (va_runV (As := [.int q_2.1]) (rest := [.int q_1, .ref (a.1 1)]) ⟨hx, hb, hml, hown, hts⟩ (K_X1_formOf l hfl G a q_2.2 F U S D R M N P q_2.1  q_3.1 q_3.2.1 q_3.2.2 hq_3 H.size) (cwV 1 hts (gV wm1007 wm495 wm496 wm3 wm497) rfl rfl rfl (by decide +kernel) ⟨Nat.le_of_ble_eq_true rfl, Nat.le_of_ble_eq_true rfl⟩) (pre_v (pre_w hK hP hD hS hE hFc) (va_recv hK hP (ci := 1) (q0 := 11) rfl rfl)) rfl rfl hl.1 rfl (lv_room (Nat.le_of_ble_eq_true rfl)) dX0_formWithValue_28 ⟨Nat.le_of_ble_eq_true rfl, Nat.le_of_ble_eq_true rfl⟩) hS (fun q _ h => hFc q h) hFc (fun r u t H locs ht hvm hw hB hz1 hk1 hS => ?_)
  rw [show r = q_3.1 from hw]
  have hP : va_P (DG G) clP3 (wC G a q_3.2.1 q_3.2.2 U S D R M N P) H := by rw [← ht]; exact hB.1
  have hD : va_D A (wC G a q_3.2.1 q_3.2.2 U S D R M N P) := hB.2.weaken (fun _ p _ h => hFc p.1 h)
  clear hB hFc hw hk1
  refine W.widen (k := 0) (n := 0) (Nat.le_of_ble_eq_true rfl) (Nat.le_of_ble_eq_true rfl) ?_
  obtain ⟨q_4, hq_4, hm⟩ := bind_some hm
  have hFc := free_all hD hS hA
  refine va_calli (va_runV (As := [.int q_1, .int q_3.1]) (rest := []) ⟨hx, hb, hml, hown, hts⟩ (K_X9_keep l hfl G a q_3.2.1 q_3.2.2 U S D R M N P q_1 q_3.1  q_4.1 q_4.2.1 q_4.2.2 hq_4 H.size) (cwV 2 hts (gV wm1008 wm505 wm506 wm2 wm507) rfl rfl rfl (by decide +kernel) ⟨Nat.le_of_ble_eq_true rfl, Nat.le_of_ble_eq_true rfl⟩) (pre_v (pre_w hK hP hD hS hE hFc) (va_recv hK hP (ci := 8) (q0 := 1) rfl rfl)) rfl rfl hl.1 rfl (lv_room (Nat.le_of_ble_eq_true rfl)) dX0_formWithValue_31 ⟨Nat.le_of_ble_eq_true rfl, Nat.le_of_ble_eq_true rfl⟩) hS (fun q _ h => hFc q h) hFc (fun r u t H locs ht hvm hw hB hz1 hk1 hS => ?_)
  rw [show r = q_4.1 from hw]
  have hP : va_P (DG G) clP3 (wC G a q_4.2.1 q_4.2.2 U S D R M N P) H := by rw [← ht]; exact hB.1
  have hD : va_D A (wC G a q_4.2.1 q_4.2.2 U S D R M N P) := hB.2.weaken (fun _ p _ h => hFc p.1 h)
  clear hB hFc hw hk1
  refine W.widen (k := 0) (n := 0) (Nat.le_of_ble_eq_true rfl) (Nat.le_of_ble_eq_true rfl) ?_
  simp only [Option.some.injEq, Prod.mk.injEq] at hm
  obtain ⟨rfl, rfl, rfl⟩ := hm
  refine W.widen (k := 0) (n := 0) (Nat.le_of_ble_eq_true rfl) (Nat.le_of_ble_eq_true rfl) ?_
  exact W.iret (v := q_4.1) hx hb hr (fun t ht hW => ⟨⟨q_4.1, (), rfl, rfl, ⟨by rw [ht]; exact hP, by rw [hAe]; exact hD⟩⟩, by rw [hAe]; exact hS.F ht⟩) (by rw [hAe]; exact hS.2.2) dX0_formWithValue_34 hlocks
def f_X0_splitIsTooMuch_L36 : Nat → TS → SS → DS → PS → Int32 → Int32 → Int32 → Option (Int32)
  | 0, _, _, _, _, _, _, _ => none
  | n + 1, T, S, D, P, v1, v4, v5 => (if S.2.1 ≤ v5 then (Option.bind (g_X7_constructorsOf S v4) (fun q_6 => (if (D.2.1 + q_6) ≤ 40 then some 0 else some 1))) else (Option.bind (g_X7_ownerOf S v5) (fun q_8 => (if q_8 = v4 then (Option.bind (g_X7_partsOf S v5) (fun q_10 => (if (((P.2.2.2.2.2.2.2.2.2.2.1 (Int32.toNatClampNeg v1)) - (1 : Int32)) + q_10) ≤ 12 then (f_X0_splitIsTooMuch_L36 n T S D P v1 v4 (v5 + 1)) else some 1))) else (f_X0_splitIsTooMuch_L36 n T S D P v1 v4 (v5 + 1))))))
def f_X0_splitIsTooMuch (T : TS) (S : SS) (D : DS) (P : PS) (p1 : Int32) (p2 : Int32) : Option (Int32) := (Option.bind (g_X8_typeAt_g P p1 p2) (fun q_1 => (Option.bind (g_X9_kindOf T q_1) (fun q_2 => (if q_2 = 2 then (Option.bind (g_X9_firstOf T q_1) (fun q_4 => (f_X0_splitIsTooMuch_L36 100000 T S D P p1 q_4 0))) else some 0)))))
set_option maxHeartbeats 2000000 in
set_option maxRecDepth 100000 in
theorem kl_X0_splitIsTooMuch_36 {l : Launch} (hfl : l.stackTraces = false) {G : GC} {a : AS} {T : TS} {F : FS} {U : US} {S : SS} {D : DS} {R : RS} {M : MS} {N : NS} {P : PS} {A : Nat → Prop} {sz : Nat} {p : Program} {e : Env} {s : State} {m : MethodId} {args : Array Value} {below : List Frame} {meth : Method} {c : Code} (hx : p.tables.exec = Jvm.exec) (hb : c.code = cX0_splitIsTooMuch) (hr : meth.sig.returnType = (some .boolean)) (hml : c.maxLocals = 6) (hown : s.vm.findClass RX0 = some m.cls) (hts : ∀ w ∈ W0, w.before args s = true) (hlocks : meth.locks = false) (hlk : lkA a D.1.toNatClampNeg D.2.1.toNatClampNeg) (hAe : (va_A (wC G a T F U S D R M N P) sz) = A) (hA : ∀ q : Nat, s.heap.size ≤ q → A q) (hE : EV G A s s.heap) (hK : va_K (DG G) clP3 (TY G) s) (r9 : Int32) : ∀ (n : Nat), ∀ (v1 : Int32) (v4 : Int32) (v5 : Int32) (hv1 : gix D v1 = true) (H : Heap) (locs : List Loc), va_P (DG G) clP3 (wC G a T F U S D R M N P) H → va_D A (wC G a T F U S D R M N P) → va_S A s.heap H locs → ∀ (ls : Array Slot), lv_has ls 6 [(0, .ref (a.1 21)), (1, .ref (a.2.2.1 (Int32.toNatClampNeg v1) 0)), (4, .int v4), (5, .int v5)] → f_X0_splitIsTooMuch_L36 n T S D P v1 v4 v5 = some r9 → W p l e ({ frames := 2, cells := 0, slots := 0, locals := 42 }) s m args below meth c H locs 0 0 (MQ below (va_Qi (fun (r : Int32) (_ : Unit) => r = r9) (fun _ t => PW G (va_A (wC G a T F U S D R M N P) sz) (wC G a T F U S D R M N P) t) (va_A (wC G a T F U S D R M N P) sz)) args s 0 0 (va_A (wC G a T F U S D R M N P) sz)) (F0 m 36 ls []) := by
  intro n
  induction n with
  | zero =>
    intro v1 v4 v5 hv1 H locs hP hD hS ls hl hm
    rw [f_X0_splitIsTooMuch_L36] at hm
    cases hm
  | succ n ih =>
    intro v1 v4 v5 hv1 H locs hP hD hS ls hl hm
    rw [f_X0_splitIsTooMuch_L36] at hm
    refine lv_iload hx hb dX0_splitIsTooMuch_36 (lv_at hl 3 rfl) ?_
    refine lv_aload_n hx hb dX0_splitIsTooMuch_38 rfl (lv_at hl 0 rfl) ?_
    refine va_get (D := DG G) (ci := 0) (v := .ref (a.1 13)) (C := RX0) (T := TX0) (N := 8) hx hb hts inW_X0 hown hK hP 21 rfl rfl 2 (by decide) (hts _ wm141) (fun _ h9 => h9) rfl dX0_splitIsTooMuch_39 ?_
    refine va_getN (D := DG G) (ci := 6) (v := .int S.2.1) (C := RX7) (T := TX7) (N := 10) hx hb hts inW_X7 hown hK hP 13 rfl rfl 9 (by decide) (va_Nw.use rfl (hE.1 _ nw106)) (fun _ h9 => h9) rfl dX0_splitIsTooMuch_42 ?_
    refine lv_icmp_ge (tgt := 94) hx hb dX0_splitIsTooMuch_45 (by decide) (fun c_5 => ?_) (fun c_5 => ?_)
    · rw [if_pos c_5] at hm
      refine lv_aload_n hx hb dX0_splitIsTooMuch_94 rfl (lv_at hl 0 rfl) ?_
      refine va_get (D := DG G) (ci := 0) (v := .int D.2.1) (C := RX0) (T := TX0) (N := 8) hx hb hts inW_X0 hown hK hP 21 rfl rfl 6 (by decide) (hts _ wm146) (fun _ h9 => h9) rfl dX0_splitIsTooMuch_95 ?_
      refine lv_aload_n hx hb dX0_splitIsTooMuch_98 rfl (lv_at hl 0 rfl) ?_
      refine va_get (D := DG G) (ci := 0) (v := .ref (a.1 13)) (C := RX0) (T := TX0) (N := 8) hx hb hts inW_X0 hown hK hP 21 rfl rfl 2 (by decide) (hts _ wm141) (fun _ h9 => h9) rfl dX0_splitIsTooMuch_99 ?_
      refine lv_iload hx hb dX0_splitIsTooMuch_102 (lv_at hl 2 rfl) ?_
      obtain ⟨q_6, hq_6, hm⟩ := bind_some hm
      have hFc := free_all hD hS hA
      refine va_calli (va_runV (As := [.int v4]) (rest := [.int D.2.1]) ⟨hx, hb, hml, hown, hts⟩ (K_X7_constructorsOf l hfl G a T F U S D R M N P v4  q_6 hq_6 H.size) (cwV 1 hts (gV wm978 wm979 wm980 wm4 wm981) rfl rfl rfl (by decide +kernel) ⟨Nat.le_of_ble_eq_true rfl, Nat.le_of_ble_eq_true rfl⟩) (pre_v (pre_w hK hP hD hS hE hFc) (va_recv hK hP (ci := 6) (q0 := 13) rfl rfl)) rfl rfl hl.1 rfl (lv_room (Nat.le_of_ble_eq_true rfl)) dX0_splitIsTooMuch_104 ⟨Nat.le_of_ble_eq_true rfl, Nat.le_of_ble_eq_true rfl⟩) hS (fun q _ h => hFc q h) hFc (fun r u t H locs ht hvm hw hB hz1 hk1 hS => ?_)
      rw [show r = q_6 from hw]
      have hP : va_P (DG G) clP3 (wC G a T F U S D R M N P) H := by rw [← ht]; exact hB.1
      have hD : va_D A (wC G a T F U S D R M N P) := hB.2.weaken (fun _ p _ h => hFc p.1 h)
      clear hB hFc hw hk1
      refine W.widen (k := 0) (n := 0) (Nat.le_of_ble_eq_true rfl) (Nat.le_of_ble_eq_true rfl) ?_
      refine lv_iadd hx hb dX0_splitIsTooMuch_107 ?_
      refine lv_bipush (v := 40) hx hb dX0_splitIsTooMuch_108 (by decide) ?_
      refine lv_icmp_le (tgt := 117) hx hb dX0_splitIsTooMuch_110 (by decide) (fun c_7 => ?_) (fun c_7 => ?_)
      · rw [if_pos c_7] at hm
        refine lv_iconst (v := 0) hx hb dX0_splitIsTooMuch_117 (by decide) ?_
        obtain rfl := Option.some.inj hm
        refine W.widen (k := 0) (n := 0) (Nat.le_of_ble_eq_true rfl) (Nat.le_of_ble_eq_true rfl) ?_
        exact W.zret (v := 0) (ty := .boolean) hx hb hr (by decide) (fun t ht hW => ⟨⟨0, (), rfl, rfl, ⟨by rw [ht]; exact hP, by rw [hAe]; exact hD⟩⟩, by rw [hAe]; exact hS.F ht⟩) (by rw [hAe]; exact hS.2.2) dX0_splitIsTooMuch_118 hlocks
      · rw [if_neg c_7] at hm
        refine lv_iconst (v := 1) hx hb dX0_splitIsTooMuch_113 (by decide) ?_
        refine lv_goto (tgt := 118) hx hb dX0_splitIsTooMuch_114 (by decide) ?_
        obtain rfl := Option.some.inj hm
        refine W.widen (k := 0) (n := 0) (Nat.le_of_ble_eq_true rfl) (Nat.le_of_ble_eq_true rfl) ?_
        exact W.zret (v := 1) (ty := .boolean) hx hb hr (by decide) (fun t ht hW => ⟨⟨1, (), rfl, rfl, ⟨by rw [ht]; exact hP, by rw [hAe]; exact hD⟩⟩, by rw [hAe]; exact hS.F ht⟩) (by rw [hAe]; exact hS.2.2) dX0_splitIsTooMuch_118 hlocks
    · rw [if_neg c_5] at hm
      refine lv_aload_n hx hb dX0_splitIsTooMuch_48 rfl (lv_at hl 0 rfl) ?_
      refine va_get (D := DG G) (ci := 0) (v := .ref (a.1 13)) (C := RX0) (T := TX0) (N := 8) hx hb hts inW_X0 hown hK hP 21 rfl rfl 2 (by decide) (hts _ wm141) (fun _ h9 => h9) rfl dX0_splitIsTooMuch_49 ?_
      refine lv_iload hx hb dX0_splitIsTooMuch_52 (lv_at hl 3 rfl) ?_
      obtain ⟨q_8, hq_8, hm⟩ := bind_some hm
      have hFc := free_all hD hS hA
      refine va_calli (va_runV (As := [.int v5]) (rest := []) ⟨hx, hb, hml, hown, hts⟩ (K_X7_ownerOf l hfl G a T F U S D R M N P v5  q_8 hq_8 H.size) (cwV 1 hts (gV wm970 wm971 wm972 wm4 wm973) rfl rfl rfl (by decide +kernel) ⟨Nat.le_of_ble_eq_true rfl, Nat.le_of_ble_eq_true rfl⟩) (pre_v (pre_w hK hP hD hS hE hFc) (va_recv hK hP (ci := 6) (q0 := 13) rfl rfl)) rfl rfl hl.1 rfl (lv_room (Nat.le_of_ble_eq_true rfl)) dX0_splitIsTooMuch_54 ⟨Nat.le_of_ble_eq_true rfl, Nat.le_of_ble_eq_true rfl⟩) hS (fun q _ h => hFc q h) hFc (fun r u t H locs ht hvm hw hB hz1 hk1 hS => ?_)
      rw [show r = q_8 from hw]
      have hP : va_P (DG G) clP3 (wC G a T F U S D R M N P) H := by rw [← ht]; exact hB.1
      have hD : va_D A (wC G a T F U S D R M N P) := hB.2.weaken (fun _ p _ h => hFc p.1 h)
      clear hB hFc hw hk1
      refine W.widen (k := 0) (n := 0) (Nat.le_of_ble_eq_true rfl) (Nat.le_of_ble_eq_true rfl) ?_
      refine lv_iload hx hb dX0_splitIsTooMuch_57 (lv_at hl 2 rfl) ?_
      refine lv_icmp_ne (tgt := 88) hx hb dX0_splitIsTooMuch_59 (by decide) (fun c_9 => ?_) (fun c_9 => ?_)
      · rw [if_neg c_9] at hm
        refine lv_iinc (v := (v5 + 1)) (lv' := [(5, .int (v5 + 1)), (0, .ref (a.1 21)), (1, .ref (a.2.2.1 (Int32.toNatClampNeg v1) 0)), (4, .int v4)]) hx hb dX0_splitIsTooMuch_88 hl (k := 3) rfl rfl (by decide) rfl (fun ls hl => ?_)
        refine lv_goto (tgt := 36) hx hb dX0_splitIsTooMuch_91 (by decide) ?_
        refine W.widen (k := 0) (n := 0) (Nat.le_of_ble_eq_true rfl) (Nat.le_of_ble_eq_true rfl) ?_
        exact ih  v1 v4 (v5 + 1) hv1 _ _ hP hD hS _ (lv_sub hl [1, 2, 3, 0] rfl) hm
      · rw [if_pos c_9] at hm
        refine lv_aload_n hx hb dX0_splitIsTooMuch_62 rfl (lv_at hl 1 rfl) ?_
        refine va_getN (D := DG G) (ci := 3) (v := .ref (a.2.2.1 (Int32.toNatClampNeg v1) 1)) (C := RX3) (T := TX3) (N := 8) hx hb hts inW_X3 hown hK hP _ ((at_goalC (c := 0) (gix_lt hv1) (by decide)).trans rfl) rfl 1 (by decide) (va_Nw.use rfl (hE.1 _ nw909)) (fun _ h9 => h9) rfl dX0_splitIsTooMuch_63 ?_
        refine va_getN (D := DG G) (ci := 7) (v := .int (P.2.2.2.2.2.2.2.2.2.2.1 (Int32.toNatClampNeg v1))) (C := RX8) (T := TX8) (N := 2) hx hb hts inW_X8 hown hK hP _ ((at_goalC (c := 1) (gix_lt hv1) (by decide)).trans rfl) rfl 1 (by decide) (va_Nw.use rfl (hE.1 _ nw187)) (fun _ h9 => h9) rfl dX0_splitIsTooMuch_66 ?_
        refine lv_iconst (v := 1) hx hb dX0_splitIsTooMuch_69 (by decide) ?_
        refine lv_isub hx hb dX0_splitIsTooMuch_70 ?_
        refine lv_aload_n hx hb dX0_splitIsTooMuch_71 rfl (lv_at hl 0 rfl) ?_
        refine va_get (D := DG G) (ci := 0) (v := .ref (a.1 13)) (C := RX0) (T := TX0) (N := 8) hx hb hts inW_X0 hown hK hP 21 rfl rfl 2 (by decide) (hts _ wm141) (fun _ h9 => h9) rfl dX0_splitIsTooMuch_72 ?_
        refine lv_iload hx hb dX0_splitIsTooMuch_75 (lv_at hl 3 rfl) ?_
        obtain ⟨q_10, hq_10, hm⟩ := bind_some hm
        have hFc := free_all hD hS hA
        refine va_calli (va_runV (As := [.int v5]) (rest := [.int ((P.2.2.2.2.2.2.2.2.2.2.1 (Int32.toNatClampNeg v1)) - (1 : Int32))]) ⟨hx, hb, hml, hown, hts⟩ (K_X7_partsOf l hfl G a T F U S D R M N P v5  q_10 hq_10 H.size) (cwV 1 hts (gV wm974 wm975 wm976 wm4 wm977) rfl rfl rfl (by decide +kernel) ⟨Nat.le_of_ble_eq_true rfl, Nat.le_of_ble_eq_true rfl⟩) (pre_v (pre_w hK hP hD hS hE hFc) (va_recv hK hP (ci := 6) (q0 := 13) rfl rfl)) rfl rfl hl.1 rfl (lv_room (Nat.le_of_ble_eq_true rfl)) dX0_splitIsTooMuch_77 ⟨Nat.le_of_ble_eq_true rfl, Nat.le_of_ble_eq_true rfl⟩) hS (fun q _ h => hFc q h) hFc (fun r u t H locs ht hvm hw hB hz1 hk1 hS => ?_)
        rw [show r = q_10 from hw]
        have hP : va_P (DG G) clP3 (wC G a T F U S D R M N P) H := by rw [← ht]; exact hB.1
        have hD : va_D A (wC G a T F U S D R M N P) := hB.2.weaken (fun _ p _ h => hFc p.1 h)
        clear hB hFc hw hk1
        refine W.widen (k := 0) (n := 0) (Nat.le_of_ble_eq_true rfl) (Nat.le_of_ble_eq_true rfl) ?_
        refine lv_iadd hx hb dX0_splitIsTooMuch_80 ?_
        refine lv_bipush (v := 12) hx hb dX0_splitIsTooMuch_81 (by decide) ?_
        refine lv_icmp_le (tgt := 88) hx hb dX0_splitIsTooMuch_83 (by decide) (fun c_11 => ?_) (fun c_11 => ?_)
        · rw [if_pos c_11] at hm
          refine lv_iinc (v := (v5 + 1)) (lv' := [(5, .int (v5 + 1)), (0, .ref (a.1 21)), (1, .ref (a.2.2.1 (Int32.toNatClampNeg v1) 0)), (4, .int v4)]) hx hb dX0_splitIsTooMuch_88 hl (k := 3) rfl rfl (by decide) rfl (fun ls hl => ?_)
          refine lv_goto (tgt := 36) hx hb dX0_splitIsTooMuch_91 (by decide) ?_
          refine W.widen (k := 0) (n := 0) (Nat.le_of_ble_eq_true rfl) (Nat.le_of_ble_eq_true rfl) ?_
          exact ih  v1 v4 (v5 + 1) hv1 _ _ hP hD hS _ (lv_sub hl [1, 2, 3, 0] rfl) hm
        · rw [if_neg c_11] at hm
          refine lv_iconst (v := 1) hx hb dX0_splitIsTooMuch_86 (by decide) ?_
          obtain rfl := Option.some.inj hm
          refine W.widen (k := 0) (n := 0) (Nat.le_of_ble_eq_true rfl) (Nat.le_of_ble_eq_true rfl) ?_
          exact W.zret (v := 1) (ty := .boolean) hx hb hr (by decide) (fun t ht hW => ⟨⟨1, (), rfl, rfl, ⟨by rw [ht]; exact hP, by rw [hAe]; exact hD⟩⟩, by rw [hAe]; exact hS.F ht⟩) (by rw [hAe]; exact hS.2.2) dX0_splitIsTooMuch_87 hlocks
set_option maxHeartbeats 2000000 in
set_option maxRecDepth 100000 in
theorem k_X0_splitIsTooMuch (l : Launch) (hfl : l.stackTraces = false) (G : GC) (a : AS) (T : TS) (F : FS) (U : US) (S : SS) (D : DS) (R : RS) (M : MS) (N : NS) (P : PS) (hlk : lkA a D.1.toNatClampNeg D.2.1.toNatClampNeg) (p1 : Int32) (p2 : Int32) (hg_p1 : gix D p1 = true) (r9 : Int32) (hm : f_X0_splitIsTooMuch T S D P p1 p2 = some r9) (sz : Nat) : Met l yX0_splitIsTooMuch (Cond.code yX0_splitIsTooMuch cX0_splitIsTooMuch 6 (some .boolean) :: W0) ({ frames := 2, cells := 0, slots := 0, locals := 42 }) (va_Pc [.ref (a.1 21), .ref (a.2.2.1 (Int32.toNatClampNeg p1) 0), .int p2] (WD G (wC G a T F U S D R M N P) sz)) (va_Qi (fun (r : Int32) (_ : Unit) => r = r9) (fun _ t => PW G (va_A (wC G a T F U S D R M N P) sz) (wC G a T F U S D R M N P) t) (va_A (wC G a T F U S D R M N P) sz)) 0 0 (va_A (wC G a T F U S D R M N P) sz) := by
  rw [f_X0_splitIsTooMuch] at hm
  refine Met.ofW (cc := cX0_splitIsTooMuch) (maxL := 6) (ret := (some .boolean)) (by decide) rfl ?_
  intro p e s m args below meth c s₁ B hml hv
  obtain ⟨rfl, hsz, hP, hK, hD0, hE⟩ := hv
  have hx := B.exec
  have hb := B.bytes
  have hr := B.returns
  have hts := w0_tail B.pre
  have hown : s.vm.findClass RX0 = some m.cls := findClass_of_methodNamed B.named
  have hlocks := B.notSynchronized
  have hD := hD0.self (sz := sz)
  obtain ⟨A, hAe⟩ : ∃ A, (va_A (wC G a T F U S D R M N P) sz) = A := ⟨_, rfl⟩
  rw [hAe] at hD hE
  have hA : ∀ q : Nat, s.heap.size ≤ q → A q := fun q h => by rw [← hAe]; exact Or.inr (by rw [← hsz]; exact h)
  have hS : va_S A s.heap s.heap [] := va_S.rf
  obtain ⟨H, hHe⟩ : ∃ H : Heap, H = s.heap := ⟨_, rfl⟩
  have hP : va_P (DG G) clP3 (wC G a T F U S D R M N P) H := by rw [hHe]; exact hP
  have hS : va_S A s.heap H [] := by rw [hHe]; exact hS
  have hl := lv_entry ([.ref (a.1 21), .ref (a.2.2.1 (Int32.toNatClampNeg p1) 0), .int p2]) (n := 6) (Nat.le_of_ble_eq_true rfl)
  rw [lg_entry_eq, ← hHe]
  generalize (lg_sl ([.ref (a.1 21), .ref (a.2.2.1 (Int32.toNatClampNeg p1) 0), .int p2]) ++ List.replicate (6 - (lg_sl ([.ref (a.1 21), .ref (a.2.2.1 (Int32.toNatClampNeg p1) 0), .int p2])).length) Slot.unset).toArray = ls at hl ⊢
  have hl : lv_has ls 6 [(0, .ref (a.1 21)), (1, .ref (a.2.2.1 (Int32.toNatClampNeg p1) 0)), (2, .int p2)] := hl
  refine lv_aload_n hx hb dX0_splitIsTooMuch_0 rfl (lv_at hl 1 rfl) ?_
  refine va_getN (D := DG G) (ci := 3) (v := .ref (a.2.2.1 (Int32.toNatClampNeg p1) 1)) (C := RX3) (T := TX3) (N := 8) hx hb hts inW_X3 hown hK hP _ ((at_goalC (c := 0) (gix_lt hg_p1) (by decide)).trans rfl) rfl 1 (by decide) (va_Nw.use rfl (hE.1 _ nw909)) (fun _ h9 => h9) rfl dX0_splitIsTooMuch_1 ?_
  refine lv_iload_n hx hb dX0_splitIsTooMuch_4 rfl (lv_at hl 2 rfl) ?_
  obtain ⟨q_1, hq_1, hm⟩ := bind_some hm
  have hFc := free_all hD hS hA
  refine va_calli (va_runV (As := [.int p2]) (rest := []) ⟨hx, hb, hml, hown, hts⟩ (K_X8_typeAt_g l hfl G a T F U S D R M N P p1 p2 hg_p1 q_1 hq_1 H.size) (cwV 1 hts (gV wm969 wm445 wm446 wm7 wm447) rfl rfl rfl (by decide +kernel) ⟨Nat.le_of_ble_eq_true rfl, Nat.le_of_ble_eq_true rfl⟩) (pre_v (pre_w hK hP hD hS hE hFc) (va_recv hK hP (ci := 7) (q0 := _) rfl ((at_goalC (c := 1) (gix_lt hg_p1) (by decide)).trans rfl))) rfl rfl hl.1 rfl (lv_room (Nat.le_of_ble_eq_true rfl)) dX0_splitIsTooMuch_5 ⟨Nat.le_of_ble_eq_true rfl, Nat.le_of_ble_eq_true rfl⟩) hS (fun q _ h => hFc q h) hFc (fun r u t H locs ht hvm hw hB hz1 hk1 hS => ?_)
  rw [show r = q_1 from hw]
  have hP : va_P (DG G) clP3 (wC G a T F U S D R M N P) H := by rw [← ht]; exact hB.1
  have hD : va_D A (wC G a T F U S D R M N P) := hB.2.weaken (fun _ p _ h => hFc p.1 h)
  clear hB hFc hw hk1
  refine W.widen (k := 0) (n := 0) (Nat.le_of_ble_eq_true rfl) (Nat.le_of_ble_eq_true rfl) ?_
  refine lv_istore_n (lv' := [(3, .int q_1), (0, .ref (a.1 21)), (1, .ref (a.2.2.1 (Int32.toNatClampNeg p1) 0)), (2, .int p2)]) hx hb dX0_splitIsTooMuch_8 rfl hl (by decide) rfl (fun ls hl => ?_)
  refine lv_aload_n hx hb dX0_splitIsTooMuch_9 rfl (lv_at hl 1 rfl) ?_
  refine va_get (D := DG G) (ci := 0) (v := .ref (a.1 1)) (C := RX0) (T := TX0) (N := 8) hx hb hts inW_X0 hown hK hP 21 rfl rfl 0 (by decide) (hts _ wm139) (fun _ h9 => h9) rfl dX0_splitIsTooMuch_10 ?_
  refine lv_iload_n hx hb dX0_splitIsTooMuch_13 rfl (lv_at hl 0 rfl) ?_
  obtain ⟨q_2, hq_2, hm⟩ := bind_some hm
  have hFc := free_all hD hS hA
  refine va_calli (va_runV (As := [.int q_1]) (rest := []) ⟨hx, hb, hml, hown, hts⟩ (K_X9_kindOf l hfl G a T F U S D R M N P q_1  q_2 hq_2 H.size) (cwV 1 hts (gV wm866 wm435 wm436 wm2 wm437) rfl rfl rfl (by decide +kernel) ⟨Nat.le_of_ble_eq_true rfl, Nat.le_of_ble_eq_true rfl⟩) (pre_v (pre_w hK hP hD hS hE hFc) (va_recv hK hP (ci := 8) (q0 := 1) rfl rfl)) rfl rfl hl.1 rfl (lv_room (Nat.le_of_ble_eq_true rfl)) dX0_splitIsTooMuch_14 ⟨Nat.le_of_ble_eq_true rfl, Nat.le_of_ble_eq_true rfl⟩) hS (fun q _ h => hFc q h) hFc (fun r u t H locs ht hvm hw hB hz1 hk1 hS => ?_)
  rw [show r = q_2 from hw]
  have hP : va_P (DG G) clP3 (wC G a T F U S D R M N P) H := by rw [← ht]; exact hB.1
  have hD : va_D A (wC G a T F U S D R M N P) := hB.2.weaken (fun _ p _ h => hFc p.1 h)
  clear hB hFc hw hk1
  refine W.widen (k := 0) (n := 0) (Nat.le_of_ble_eq_true rfl) (Nat.le_of_ble_eq_true rfl) ?_
  refine lv_iconst (v := 2) hx hb dX0_splitIsTooMuch_17 (by decide) ?_
  refine lv_icmp_eq (tgt := 23) hx hb dX0_splitIsTooMuch_18 (by decide) (fun c_3 => ?_) (fun c_3 => ?_)
  · rw [if_pos c_3] at hm
    refine lv_aload_n hx hb dX0_splitIsTooMuch_23 rfl (lv_at hl 1 rfl) ?_
    refine va_get (D := DG G) (ci := 0) (v := .ref (a.1 1)) (C := RX0) (T := TX0) (N := 8) hx hb hts inW_X0 hown hK hP 21 rfl rfl 0 (by decide) (hts _ wm139) (fun _ h9 => h9) rfl dX0_splitIsTooMuch_24 ?_
    refine lv_iload_n hx hb dX0_splitIsTooMuch_27 rfl (lv_at hl 0 rfl) ?_
    obtain ⟨q_4, hq_4, hm⟩ := bind_some hm
    have hFc := free_all hD hS hA
    refine va_calli (va_runV (As := [.int q_1]) (rest := []) ⟨hx, hb, hml, hown, hts⟩ (K_X9_firstOf l hfl G a T F U S D R M N P q_1  q_4 hq_4 H.size) (cwV 1 hts (gV wm876 wm431 wm432 wm2 wm433) rfl rfl rfl (by decide +kernel) ⟨Nat.le_of_ble_eq_true rfl, Nat.le_of_ble_eq_true rfl⟩) (pre_v (pre_w hK hP hD hS hE hFc) (va_recv hK hP (ci := 8) (q0 := 1) rfl rfl)) rfl rfl hl.1 rfl (lv_room (Nat.le_of_ble_eq_true rfl)) dX0_splitIsTooMuch_28 ⟨Nat.le_of_ble_eq_true rfl, Nat.le_of_ble_eq_true rfl⟩) hS (fun q _ h => hFc q h) hFc (fun r u t H locs ht hvm hw hB hz1 hk1 hS => ?_)
    rw [show r = q_4 from hw]
    have hP : va_P (DG G) clP3 (wC G a T F U S D R M N P) H := by rw [← ht]; exact hB.1
    have hD : va_D A (wC G a T F U S D R M N P) := hB.2.weaken (fun _ p _ h => hFc p.1 h)
    clear hB hFc hw hk1
    refine W.widen (k := 0) (n := 0) (Nat.le_of_ble_eq_true rfl) (Nat.le_of_ble_eq_true rfl) ?_
    refine lv_istore (lv' := [(4, .int q_4), (3, .int q_1), (0, .ref (a.1 21)), (1, .ref (a.2.2.1 (Int32.toNatClampNeg p1) 0)), (2, .int p2)]) hx hb dX0_splitIsTooMuch_31 hl (by decide) rfl (fun ls hl => ?_)
    refine lv_iconst (v := 0) hx hb dX0_splitIsTooMuch_33 (by decide) ?_
    refine lv_istore (lv' := [(5, .int 0), (4, .int q_4), (3, .int q_1), (0, .ref (a.1 21)), (1, .ref (a.2.2.1 (Int32.toNatClampNeg p1) 0)), (2, .int p2)]) hx hb dX0_splitIsTooMuch_34 hl (by decide) rfl (fun ls hl => ?_)
    refine W.widen (k := 0) (n := 0) (Nat.le_of_ble_eq_true rfl) (Nat.le_of_ble_eq_true rfl) ?_
    exact kl_X0_splitIsTooMuch_36 hfl hx hb hr hml hown hts hlocks hlk hAe hA hE hK r9 100000  p1 q_4 0 hg_p1 _ _ hP hD hS _ (lv_sub hl [3, 4, 1, 0] rfl) hm
  · rw [if_neg c_3] at hm
    refine lv_iconst (v := 0) hx hb dX0_splitIsTooMuch_21 (by decide) ?_
    obtain rfl := Option.some.inj hm
    refine W.widen (k := 0) (n := 0) (Nat.le_of_ble_eq_true rfl) (Nat.le_of_ble_eq_true rfl) ?_
    exact W.zret (v := 0) (ty := .boolean) hx hb hr (by decide) (fun t ht hW => ⟨⟨0, (), rfl, rfl, ⟨by rw [ht]; exact hP, by rw [hAe]; exact hD⟩⟩, by rw [hAe]; exact hS.F ht⟩) (by rw [hAe]; exact hS.2.2) dX0_splitIsTooMuch_22 hlocks
def f_X0_innermostThatFits_L24 : Nat → TS → DS → PS → Int32 → Int32 → Int32 → Int32 → Int32 → Option (Int32 × TS)
  | 0, _, _, _, _, _, _, _, _ => none
  | n + 1, T, D, P, v1, v2, v3, v4, v5 => (if v5 < 0 then (Option.bind (g_X9_release T v3) (fun q_4 => some (v4, q_4))) else (if v4 = (-1) then (Option.bind (g_X8_typeAt_g P v1 v5) (fun q_7 => (Option.bind (g_X6_lift T q_7 (v2 - v5) 0) (fun q_8 => (Option.bind (g_X6_same q_8.2 q_8.1 (P.2.2.2.2.1 (Int32.toNatClampNeg v1))) (fun q_9 => (if q_9 = 0 then (f_X0_innermostThatFits_L24 n q_8.2 D P v1 v2 v3 v4 (v5 + (-1))) else (f_X0_innermostThatFits_L24 n q_8.2 D P v1 v2 v3 v5 (v5 + (-1)))))))))) else (Option.bind (g_X9_release T v3) (fun q_6 => some (v4, q_6)))))
def f_X0_innermostThatFits (T : TS) (D : DS) (P : PS) (p1 : Int32) : Option (Int32 × TS) := (Option.bind (g_X9_mark T) (fun q_1 => (Option.bind (some ((P.2.2.2.2.2.2.2.2.2.2.1 (Int32.toNatClampNeg p1)) - (1 : Int32))) (fun yz_2 => (f_X0_innermostThatFits_L24 100000 T D P p1 (P.2.2.2.2.2.2.2.2.2.2.1 (Int32.toNatClampNeg p1)) q_1 (-1) yz_2)))))
set_option maxHeartbeats 2000000 in
set_option maxRecDepth 100000 in
theorem kl_X0_innermostThatFits_24 {l : Launch} (hfl : l.stackTraces = false) {G : GC} {a : AS} {T : TS} {F : FS} {U : US} {S : SS} {D : DS} {R : RS} {M : MS} {N : NS} {P : PS} {A : Nat → Prop} {sz : Nat} {p : Program} {e : Env} {s : State} {m : MethodId} {args : Array Value} {below : List Frame} {meth : Method} {c : Code} (hx : p.tables.exec = Jvm.exec) (hb : c.code = cX0_innermostThatFits) (hr : meth.sig.returnType = (some .int)) (hml : c.maxLocals = 6) (hown : s.vm.findClass RX0 = some m.cls) (hts : ∀ w ∈ W0, w.before args s = true) (hlocks : meth.locks = false) (hlk : lkA a D.1.toNatClampNeg D.2.1.toNatClampNeg) (hAe : (va_A (wC G a T F U S D R M N P) sz) = A) (hA : ∀ q : Nat, s.heap.size ≤ q → A q) (hE : EV G A s s.heap) (hK : va_K (DG G) clP3 (TY G) s) (r9 : Int32) (T9 : TS) : ∀ (n : Nat), ∀ (T8 : TS) (v1 : Int32) (v2 : Int32) (v3 : Int32) (v4 : Int32) (v5 : Int32) (hv1 : gix D v1 = true) (H : Heap) (locs : List Loc), va_P (DG G) clP3 (wC G a T8 F U S D R M N P) H → va_D A (wC G a T8 F U S D R M N P) → va_S A s.heap H locs → ∀ (ls : Array Slot), lv_has ls 6 [(0, .ref (a.1 21)), (1, .ref (a.2.2.1 (Int32.toNatClampNeg v1) 0)), (2, .int v2), (3, .int v3), (4, .int v4), (5, .int v5)] → f_X0_innermostThatFits_L24 n T8 D P v1 v2 v3 v4 v5 = some (r9, T9) → W p l e ({ frames := 203, cells := 0, slots := 0, locals := 5266 }) s m args below meth c H locs 0 0 (MQ below (va_Qi (fun (r : Int32) (_ : Unit) => r = r9) (fun _ t => PW G (va_A (wC G a T F U S D R M N P) sz) (wC G a T9 F U S D R M N P) t) (va_A (wC G a T F U S D R M N P) sz)) args s 0 0 (va_A (wC G a T F U S D R M N P) sz)) (F0 m 24 ls []) := by
  intro n
  induction n with
  | zero =>
    intro T8 v1 v2 v3 v4 v5 hv1 H locs hP hD hS ls hl hm
    rw [f_X0_innermostThatFits_L24] at hm
    cases hm
  | succ n ih =>
    intro T8 v1 v2 v3 v4 v5 hv1 H locs hP hD hS ls hl hm
    rw [f_X0_innermostThatFits_L24] at hm
    refine lv_iload hx hb dX0_innermostThatFits_24 (lv_at hl 5 rfl) ?_
    refine lv_if_lt (tgt := 80) hx hb dX0_innermostThatFits_26 (by decide) (fun c_3 => ?_) (fun c_3 => ?_)
    · rw [if_pos c_3] at hm
      refine lv_aload_n hx hb dX0_innermostThatFits_80 rfl (lv_at hl 0 rfl) ?_
      refine va_get (D := DG G) (ci := 0) (v := .ref (a.1 1)) (C := RX0) (T := TX0) (N := 8) hx hb hts inW_X0 hown hK hP 21 rfl rfl 0 (by decide) (hts _ wm139) (fun _ h9 => h9) rfl dX0_innermostThatFits_81 ?_
      refine lv_iload_n hx hb dX0_innermostThatFits_84 rfl (lv_at hl 3 rfl) ?_
      obtain ⟨q_4, hq_4, hm⟩ := bind_some hm
      have hFc := free_all hD hS hA
      refine va_callv (va_runV (As := [.int v3]) (rest := []) ⟨hx, hb, hml, hown, hts⟩ (K_X9_release l hfl G a T8 F U S D R M N P v3  q_4 hq_4 H.size) (cwV 1 hts (gV wm1009 wm509 wm510 wm2 wm511) rfl rfl rfl (by decide +kernel) ⟨Nat.le_of_ble_eq_true rfl, Nat.le_of_ble_eq_true rfl⟩) (pre_v (pre_w hK hP hD hS hE hFc) (va_recv hK hP (ci := 8) (q0 := 1) rfl rfl)) rfl rfl hl.1 rfl (lv_room (Nat.le_of_ble_eq_true rfl)) dX0_innermostThatFits_85 ⟨Nat.le_of_ble_eq_true rfl, Nat.le_of_ble_eq_true rfl⟩) hS (fun q _ h => hFc q h) hFc (fun u t H locs ht hvm hw hB hz1 hk1 hS => ?_)
      have hP : va_P (DG G) clP3 (wC G a q_4 F U S D R M N P) H := by rw [← ht]; exact hB.1
      have hD : va_D A (wC G a q_4 F U S D R M N P) := hB.2.weaken (fun _ p _ h => hFc p.1 h)
      clear hB hFc hk1
      refine W.widen (k := 0) (n := 0) (Nat.le_of_ble_eq_true rfl) (Nat.le_of_ble_eq_true rfl) ?_
      refine lv_iload hx hb dX0_innermostThatFits_88 (lv_at hl 4 rfl) ?_
      simp only [Option.some.injEq, Prod.mk.injEq] at hm
      obtain ⟨rfl, rfl⟩ := hm
      refine W.widen (k := 0) (n := 0) (Nat.le_of_ble_eq_true rfl) (Nat.le_of_ble_eq_true rfl) ?_
      exact W.iret (v := v4) hx hb hr (fun t ht hW => ⟨⟨v4, (), rfl, rfl, ⟨by rw [ht]; exact hP, by rw [hAe]; exact hD⟩⟩, by rw [hAe]; exact hS.F ht⟩) (by rw [hAe]; exact hS.2.2) dX0_innermostThatFits_90 hlocks
    · rw [if_neg c_3] at hm
      refine lv_iload hx hb dX0_innermostThatFits_29 (lv_at hl 4 rfl) ?_
      refine lv_iconst (v := (-1)) hx hb dX0_innermostThatFits_31 (by decide) ?_
      refine lv_icmp_ne (tgt := 80) hx hb dX0_innermostThatFits_32 (by decide) (fun c_5 => ?_) (fun c_5 => ?_)
      · rw [if_neg c_5] at hm
        refine lv_aload_n hx hb dX0_innermostThatFits_80 rfl (lv_at hl 0 rfl) ?_
        refine va_get (D := DG G) (ci := 0) (v := .ref (a.1 1)) (C := RX0) (T := TX0) (N := 8) hx hb hts inW_X0 hown hK hP 21 rfl rfl 0 (by decide) (hts _ wm139) (fun _ h9 => h9) rfl dX0_innermostThatFits_81 ?_
        refine lv_iload_n hx hb dX0_innermostThatFits_84 rfl (lv_at hl 3 rfl) ?_
        obtain ⟨q_6, hq_6, hm⟩ := bind_some hm
        have hFc := free_all hD hS hA
        refine va_callv (va_runV (As := [.int v3]) (rest := []) ⟨hx, hb, hml, hown, hts⟩ (K_X9_release l hfl G a T8 F U S D R M N P v3  q_6 hq_6 H.size) (cwV 1 hts (gV wm1009 wm509 wm510 wm2 wm511) rfl rfl rfl (by decide +kernel) ⟨Nat.le_of_ble_eq_true rfl, Nat.le_of_ble_eq_true rfl⟩) (pre_v (pre_w hK hP hD hS hE hFc) (va_recv hK hP (ci := 8) (q0 := 1) rfl rfl)) rfl rfl hl.1 rfl (lv_room (Nat.le_of_ble_eq_true rfl)) dX0_innermostThatFits_85 ⟨Nat.le_of_ble_eq_true rfl, Nat.le_of_ble_eq_true rfl⟩) hS (fun q _ h => hFc q h) hFc (fun u t H locs ht hvm hw hB hz1 hk1 hS => ?_)
        have hP : va_P (DG G) clP3 (wC G a q_6 F U S D R M N P) H := by rw [← ht]; exact hB.1
        have hD : va_D A (wC G a q_6 F U S D R M N P) := hB.2.weaken (fun _ p _ h => hFc p.1 h)
        clear hB hFc hk1
        refine W.widen (k := 0) (n := 0) (Nat.le_of_ble_eq_true rfl) (Nat.le_of_ble_eq_true rfl) ?_
        refine lv_iload hx hb dX0_innermostThatFits_88 (lv_at hl 4 rfl) ?_
        simp only [Option.some.injEq, Prod.mk.injEq] at hm
        obtain ⟨rfl, rfl⟩ := hm
        refine W.widen (k := 0) (n := 0) (Nat.le_of_ble_eq_true rfl) (Nat.le_of_ble_eq_true rfl) ?_
        exact W.iret (v := v4) hx hb hr (fun t ht hW => ⟨⟨v4, (), rfl, rfl, ⟨by rw [ht]; exact hP, by rw [hAe]; exact hD⟩⟩, by rw [hAe]; exact hS.F ht⟩) (by rw [hAe]; exact hS.2.2) dX0_innermostThatFits_90 hlocks
      · rw [if_pos c_5] at hm
        refine lv_aload_n hx hb dX0_innermostThatFits_35 rfl (lv_at hl 0 rfl) ?_
        refine va_get (D := DG G) (ci := 0) (v := .ref (a.1 1)) (C := RX0) (T := TX0) (N := 8) hx hb hts inW_X0 hown hK hP 21 rfl rfl 0 (by decide) (hts _ wm139) (fun _ h9 => h9) rfl dX0_innermostThatFits_36 ?_
        refine lv_aload_n hx hb dX0_innermostThatFits_39 rfl (lv_at hl 0 rfl) ?_
        refine va_get (D := DG G) (ci := 0) (v := .ref (a.1 1)) (C := RX0) (T := TX0) (N := 8) hx hb hts inW_X0 hown hK hP 21 rfl rfl 0 (by decide) (hts _ wm139) (fun _ h9 => h9) rfl dX0_innermostThatFits_40 ?_
        refine lv_aload_n hx hb dX0_innermostThatFits_43 rfl (lv_at hl 1 rfl) ?_
        refine va_getN (D := DG G) (ci := 3) (v := .ref (a.2.2.1 (Int32.toNatClampNeg v1) 1)) (C := RX3) (T := TX3) (N := 8) hx hb hts inW_X3 hown hK hP _ ((at_goalC (c := 0) (gix_lt hv1) (by decide)).trans rfl) rfl 1 (by decide) (va_Nw.use rfl (hE.1 _ nw909)) (fun _ h9 => h9) rfl dX0_innermostThatFits_44 ?_
        refine lv_iload hx hb dX0_innermostThatFits_47 (lv_at hl 5 rfl) ?_
        obtain ⟨q_7, hq_7, hm⟩ := bind_some hm
        have hFc := free_all hD hS hA
        refine va_calli (va_runV (As := [.int v5]) (rest := [.ref (a.1 1), .ref (a.1 1)]) ⟨hx, hb, hml, hown, hts⟩ (K_X8_typeAt_g l hfl G a T8 F U S D R M N P v1 v5 hv1 q_7 hq_7 H.size) (cwV 1 hts (gV wm969 wm445 wm446 wm7 wm447) rfl rfl rfl (by decide +kernel) ⟨Nat.le_of_ble_eq_true rfl, Nat.le_of_ble_eq_true rfl⟩) (pre_v (pre_w hK hP hD hS hE hFc) (va_recv hK hP (ci := 7) (q0 := _) rfl ((at_goalC (c := 1) (gix_lt hv1) (by decide)).trans rfl))) rfl rfl hl.1 rfl (lv_room (Nat.le_of_ble_eq_true rfl)) dX0_innermostThatFits_49 ⟨Nat.le_of_ble_eq_true rfl, Nat.le_of_ble_eq_true rfl⟩) hS (fun q _ h => hFc q h) hFc (fun r u t H locs ht hvm hw hB hz1 hk1 hS => ?_)
        rw [show r = q_7 from hw]
        have hP : va_P (DG G) clP3 (wC G a T8 F U S D R M N P) H := by rw [← ht]; exact hB.1
        have hD : va_D A (wC G a T8 F U S D R M N P) := hB.2.weaken (fun _ p _ h => hFc p.1 h)
        clear hB hFc hw hk1
        refine W.widen (k := 0) (n := 0) (Nat.le_of_ble_eq_true rfl) (Nat.le_of_ble_eq_true rfl) ?_
        refine lv_iload_n hx hb dX0_innermostThatFits_52 rfl (lv_at hl 2 rfl) ?_
        refine lv_iload hx hb dX0_innermostThatFits_53 (lv_at hl 5 rfl) ?_
        refine lv_isub hx hb dX0_innermostThatFits_55 ?_
        refine lv_iconst (v := 0) hx hb dX0_innermostThatFits_56 (by decide) ?_
        obtain ⟨q_8, hq_8, hm⟩ := bind_some hm
        have hFc := free_all hD hS hA
        refine va_calli (va_runSN (As := [.ref (a.1 1), .int q_7, .int (v2 - v5), .int 0]) (rest := [.ref (a.1 1)]) ⟨hx, hb, hml, hown, hts⟩ (K_X6_lift l hfl G a T8 F U S D R M N P q_7 (v2 - v5) 0  q_8.1 q_8.2 hq_8 H.size) ⟨va_cnB 4 hts (gC wm450) rfl rfl rfl (hE.1 _ nw1005) (hts _ wm20) (by decide +kernel) ⟨Nat.le_of_ble_eq_true rfl, Nat.le_of_ble_eq_true rfl⟩, hts _ wm449, trivial⟩ (pre_w hK hP hD hS hE hFc) rfl rfl hl.1 rfl (lv_room (Nat.le_of_ble_eq_true rfl)) dX0_innermostThatFits_57 ⟨Nat.le_of_ble_eq_true rfl, Nat.le_of_ble_eq_true rfl⟩) hS (fun q _ h => hFc q h) hFc (fun r u t H locs ht hvm hw hB hz1 hk1 hS => ?_)
        rw [show r = q_8.1 from hw]
        have hP : va_P (DG G) clP3 (wC G a q_8.2 F U S D R M N P) H := by rw [← ht]; exact hB.1
        have hD : va_D A (wC G a q_8.2 F U S D R M N P) := hB.2.weaken (fun _ p _ h => hFc p.1 h)
        clear hB hFc hw hk1
        refine W.widen (k := 0) (n := 0) (Nat.le_of_ble_eq_true rfl) (Nat.le_of_ble_eq_true rfl) ?_
        refine lv_aload_n hx hb dX0_innermostThatFits_60 rfl (lv_at hl 1 rfl) ?_
        refine va_getN (D := DG G) (ci := 3) (v := .int (P.2.2.2.2.1 (Int32.toNatClampNeg v1))) (C := RX3) (T := TX3) (N := 8) hx hb hts inW_X3 hown hK hP _ ((at_goalC (c := 0) (gix_lt hv1) (by decide)).trans rfl) rfl 2 (by decide) (va_Nw.use rfl (hE.1 _ nw913)) (fun _ h9 => h9) rfl dX0_innermostThatFits_61 ?_
        obtain ⟨q_9, hq_9, hm⟩ := bind_some hm
        have hFc := free_all hD hS hA
        refine va_calli (va_runSN (As := [.ref (a.1 1), .int q_8.1, .int (P.2.2.2.2.1 (Int32.toNatClampNeg v1))]) (rest := []) ⟨hx, hb, hml, hown, hts⟩ (K_X6_same l hfl G a q_8.2 F U S D R M N P q_8.1 (P.2.2.2.2.1 (Int32.toNatClampNeg v1))  q_9 hq_9 H.size) ⟨va_cnB 3 hts (gC wm557) rfl rfl rfl (hE.1 _ nw1051) (hts _ wm20) (by decide +kernel) ⟨Nat.le_of_ble_eq_true rfl, Nat.le_of_ble_eq_true rfl⟩, hts _ wm556, trivial⟩ (pre_w hK hP hD hS hE hFc) rfl rfl hl.1 rfl (lv_room (Nat.le_of_ble_eq_true rfl)) dX0_innermostThatFits_64 ⟨Nat.le_of_ble_eq_true rfl, Nat.le_of_ble_eq_true rfl⟩) hS (fun q _ h => hFc q h) hFc (fun r u t H locs ht hvm hw hB hz1 hk1 hS => ?_)
        rw [show r = q_9 from hw]
        have hP : va_P (DG G) clP3 (wC G a q_8.2 F U S D R M N P) H := by rw [← ht]; exact hB.1
        have hD : va_D A (wC G a q_8.2 F U S D R M N P) := hB.2.weaken (fun _ p _ h => hFc p.1 h)
        clear hB hFc hw hk1
        refine W.widen (k := 0) (n := 0) (Nat.le_of_ble_eq_true rfl) (Nat.le_of_ble_eq_true rfl) ?_
        refine lv_if_eq (tgt := 74) hx hb dX0_innermostThatFits_67 (by decide) (fun c_10 => ?_) (fun c_10 => ?_)
        · rw [if_pos c_10] at hm
          refine lv_iinc (v := (v5 + (-1))) (lv' := [(5, .int (v5 + (-1))), (0, .ref (a.1 21)), (1, .ref (a.2.2.1 (Int32.toNatClampNeg v1) 0)), (2, .int v2), (3, .int v3), (4, .int v4)]) hx hb dX0_innermostThatFits_74 hl (k := 5) rfl rfl (by decide) rfl (fun ls hl => ?_)
          refine lv_goto (tgt := 24) hx hb dX0_innermostThatFits_77 (by decide) ?_
          refine W.widen (k := 0) (n := 0) (Nat.le_of_ble_eq_true rfl) (Nat.le_of_ble_eq_true rfl) ?_
          exact ih q_8.2 v1 v2 v3 v4 (v5 + (-1)) hv1 _ _ hP hD hS _ (lv_sub hl [1, 2, 3, 4, 5, 0] rfl) hm
        · rw [if_neg c_10] at hm
          refine lv_iload hx hb dX0_innermostThatFits_70 (lv_at hl 5 rfl) ?_
          refine lv_istore (lv' := [(4, .int v5), (0, .ref (a.1 21)), (1, .ref (a.2.2.1 (Int32.toNatClampNeg v1) 0)), (2, .int v2), (3, .int v3), (5, .int v5)]) hx hb dX0_innermostThatFits_72 hl (by decide) rfl (fun ls hl => ?_)
          refine lv_iinc (v := (v5 + (-1))) (lv' := [(5, .int (v5 + (-1))), (4, .int v5), (0, .ref (a.1 21)), (1, .ref (a.2.2.1 (Int32.toNatClampNeg v1) 0)), (2, .int v2), (3, .int v3)]) hx hb dX0_innermostThatFits_74 hl (k := 5) rfl rfl (by decide) rfl (fun ls hl => ?_)
          refine lv_goto (tgt := 24) hx hb dX0_innermostThatFits_77 (by decide) ?_
          refine W.widen (k := 0) (n := 0) (Nat.le_of_ble_eq_true rfl) (Nat.le_of_ble_eq_true rfl) ?_
          exact ih q_8.2 v1 v2 v3 v5 (v5 + (-1)) hv1 _ _ hP hD hS _ (lv_sub hl [2, 3, 4, 5, 1, 0] rfl) hm
set_option maxHeartbeats 2000000 in
set_option maxRecDepth 100000 in
theorem k_X0_innermostThatFits (l : Launch) (hfl : l.stackTraces = false) (G : GC) (a : AS) (T : TS) (F : FS) (U : US) (S : SS) (D : DS) (R : RS) (M : MS) (N : NS) (P : PS) (hlk : lkA a D.1.toNatClampNeg D.2.1.toNatClampNeg) (p1 : Int32) (hg_p1 : gix D p1 = true) (r9 : Int32) (T9 : TS) (hm : f_X0_innermostThatFits T D P p1 = some (r9, T9)) (sz : Nat) : Met l yX0_innermostThatFits (Cond.code yX0_innermostThatFits cX0_innermostThatFits 6 (some .int) :: W0) ({ frames := 203, cells := 0, slots := 0, locals := 5266 }) (va_Pc [.ref (a.1 21), .ref (a.2.2.1 (Int32.toNatClampNeg p1) 0)] (WD G (wC G a T F U S D R M N P) sz)) (va_Qi (fun (r : Int32) (_ : Unit) => r = r9) (fun _ t => PW G (va_A (wC G a T F U S D R M N P) sz) (wC G a T9 F U S D R M N P) t) (va_A (wC G a T F U S D R M N P) sz)) 0 0 (va_A (wC G a T F U S D R M N P) sz) := by
  rw [f_X0_innermostThatFits] at hm
  refine Met.ofW (cc := cX0_innermostThatFits) (maxL := 6) (ret := (some .int)) (by decide) rfl ?_
  intro p e s m args below meth c s₁ B hml hv
  obtain ⟨rfl, hsz, hP, hK, hD0, hE⟩ := hv
  have hx := B.exec
  have hb := B.bytes
  have hr := B.returns
  have hts := w0_tail B.pre
  have hown : s.vm.findClass RX0 = some m.cls := findClass_of_methodNamed B.named
  have hlocks := B.notSynchronized
  have hD := hD0.self (sz := sz)
  obtain ⟨A, hAe⟩ : ∃ A, (va_A (wC G a T F U S D R M N P) sz) = A := ⟨_, rfl⟩
  rw [hAe] at hD hE
  have hA : ∀ q : Nat, s.heap.size ≤ q → A q := fun q h => by rw [← hAe]; exact Or.inr (by rw [← hsz]; exact h)
  have hS : va_S A s.heap s.heap [] := va_S.rf
  obtain ⟨H, hHe⟩ : ∃ H : Heap, H = s.heap := ⟨_, rfl⟩
  have hP : va_P (DG G) clP3 (wC G a T F U S D R M N P) H := by rw [hHe]; exact hP
  have hS : va_S A s.heap H [] := by rw [hHe]; exact hS
  have hl := lv_entry ([.ref (a.1 21), .ref (a.2.2.1 (Int32.toNatClampNeg p1) 0)]) (n := 6) (Nat.le_of_ble_eq_true rfl)
  rw [lg_entry_eq, ← hHe]
  generalize (lg_sl ([.ref (a.1 21), .ref (a.2.2.1 (Int32.toNatClampNeg p1) 0)]) ++ List.replicate (6 - (lg_sl ([.ref (a.1 21), .ref (a.2.2.1 (Int32.toNatClampNeg p1) 0)])).length) Slot.unset).toArray = ls at hl ⊢
  have hl : lv_has ls 6 [(0, .ref (a.1 21)), (1, .ref (a.2.2.1 (Int32.toNatClampNeg p1) 0))] := hl
  refine lv_aload_n hx hb dX0_innermostThatFits_0 rfl (lv_at hl 1 rfl) ?_
  refine va_getN (D := DG G) (ci := 3) (v := .ref (a.2.2.1 (Int32.toNatClampNeg p1) 1)) (C := RX3) (T := TX3) (N := 8) hx hb hts inW_X3 hown hK hP _ ((at_goalC (c := 0) (gix_lt hg_p1) (by decide)).trans rfl) rfl 1 (by decide) (va_Nw.use rfl (hE.1 _ nw909)) (fun _ h9 => h9) rfl dX0_innermostThatFits_1 ?_
  refine va_getN (D := DG G) (ci := 7) (v := .int (P.2.2.2.2.2.2.2.2.2.2.1 (Int32.toNatClampNeg p1))) (C := RX8) (T := TX8) (N := 2) hx hb hts inW_X8 hown hK hP _ ((at_goalC (c := 1) (gix_lt hg_p1) (by decide)).trans rfl) rfl 1 (by decide) (va_Nw.use rfl (hE.1 _ nw187)) (fun _ h9 => h9) rfl dX0_innermostThatFits_4 ?_
  refine lv_istore_n (lv' := [(2, .int (P.2.2.2.2.2.2.2.2.2.2.1 (Int32.toNatClampNeg p1))), (0, .ref (a.1 21)), (1, .ref (a.2.2.1 (Int32.toNatClampNeg p1) 0))]) hx hb dX0_innermostThatFits_7 rfl hl (by decide) rfl (fun ls hl => ?_)
  refine lv_aload_n hx hb dX0_innermostThatFits_8 rfl (lv_at hl 1 rfl) ?_
  refine va_get (D := DG G) (ci := 0) (v := .ref (a.1 1)) (C := RX0) (T := TX0) (N := 8) hx hb hts inW_X0 hown hK hP 21 rfl rfl 0 (by decide) (hts _ wm139) (fun _ h9 => h9) rfl dX0_innermostThatFits_9 ?_
  obtain ⟨q_1, hq_1, hm⟩ := bind_some hm
  have hFc := free_all hD hS hA
  refine va_calli (va_runV (As := []) (rest := []) ⟨hx, hb, hml, hown, hts⟩ (K_X9_mark l hfl G a T F U S D R M N P   q_1 hq_1 H.size) (cwV 0 hts (gV wm987 wm411 wm412 wm2 wm413) rfl rfl rfl (by decide +kernel) ⟨Nat.le_of_ble_eq_true rfl, Nat.le_of_ble_eq_true rfl⟩) (pre_v (pre_w hK hP hD hS hE hFc) (va_recv hK hP (ci := 8) (q0 := 1) rfl rfl)) rfl rfl hl.1 rfl (lv_room (Nat.le_of_ble_eq_true rfl)) dX0_innermostThatFits_12 ⟨Nat.le_of_ble_eq_true rfl, Nat.le_of_ble_eq_true rfl⟩) hS (fun q _ h => hFc q h) hFc (fun r u t H locs ht hvm hw hB hz1 hk1 hS => ?_)
  rw [show r = q_1 from hw]
  have hP : va_P (DG G) clP3 (wC G a T F U S D R M N P) H := by rw [← ht]; exact hB.1
  have hD : va_D A (wC G a T F U S D R M N P) := hB.2.weaken (fun _ p _ h => hFc p.1 h)
  clear hB hFc hw hk1
  refine W.widen (k := 0) (n := 0) (Nat.le_of_ble_eq_true rfl) (Nat.le_of_ble_eq_true rfl) ?_
  refine lv_istore_n (lv' := [(3, .int q_1), (2, .int (P.2.2.2.2.2.2.2.2.2.2.1 (Int32.toNatClampNeg p1))), (0, .ref (a.1 21)), (1, .ref (a.2.2.1 (Int32.toNatClampNeg p1) 0))]) hx hb dX0_innermostThatFits_15 rfl hl (by decide) rfl (fun ls hl => ?_)
  refine lv_iconst (v := (-1)) hx hb dX0_innermostThatFits_16 (by decide) ?_
  refine lv_istore (lv' := [(4, .int (-1)), (3, .int q_1), (2, .int (P.2.2.2.2.2.2.2.2.2.2.1 (Int32.toNatClampNeg p1))), (0, .ref (a.1 21)), (1, .ref (a.2.2.1 (Int32.toNatClampNeg p1) 0))]) hx hb dX0_innermostThatFits_17 hl (by decide) rfl (fun ls hl => ?_)
  refine lv_iload_n hx hb dX0_innermostThatFits_19 rfl (lv_at hl 2 rfl) ?_
  refine lv_iconst (v := 1) hx hb dX0_innermostThatFits_20 (by decide) ?_
  refine lv_isub hx hb dX0_innermostThatFits_21 ?_
  refine lv_topi (fun yz_2 eyz_2 => ?_)
  obtain ⟨z_2, hz_2, hm⟩ := bind_some hm
  obtain rfl : yz_2 = z_2 := eyz_2.trans (Option.some.inj hz_2)
  refine lv_istore (lv' := [(5, .int yz_2), (4, .int (-1)), (3, .int q_1), (2, .int (P.2.2.2.2.2.2.2.2.2.2.1 (Int32.toNatClampNeg p1))), (0, .ref (a.1 21)), (1, .ref (a.2.2.1 (Int32.toNatClampNeg p1) 0))]) hx hb dX0_innermostThatFits_22 hl (by decide) rfl (fun ls hl => ?_)
  refine W.widen (k := 0) (n := 0) (Nat.le_of_ble_eq_true rfl) (Nat.le_of_ble_eq_true rfl) ?_
  exact kl_X0_innermostThatFits_24 hfl hx hb hr hml hown hts hlocks hlk hAe hA hE hK r9 T9 100000 T p1 (P.2.2.2.2.2.2.2.2.2.2.1 (Int32.toNatClampNeg p1)) q_1 (-1) yz_2 hg_p1 _ _ hP hD hS _ (lv_sub hl [4, 5, 3, 2, 1, 0] rfl) hm
def f_X0_anAcceptedOneIsOpen_L2 : Nat → DS → PS → Int32 → Option (Int32)
  | 0, _, _, _ => none
  | n + 1, D, P, v1 => (if D.1 ≤ v1 then some 0 else (Option.bind (f_X0_hasAccepted D v1) (fun q_2 => (if q_2 = 0 then (f_X0_anAcceptedOneIsOpen_L2 n D P (v1 + 1)) else (Option.bind (f_X0_openOnesOf D P v1) (fun q_4 => (if q_4 ≤ 0 then (f_X0_anAcceptedOneIsOpen_L2 n D P (v1 + 1)) else some 1)))))))
def f_X0_anAcceptedOneIsOpen (D : DS) (P : PS)  : Option (Int32) := (f_X0_anAcceptedOneIsOpen_L2 100000 D P 0)
set_option maxHeartbeats 2000000 in
set_option maxRecDepth 100000 in
theorem kl_X0_anAcceptedOneIsOpen_2 {l : Launch} (hfl : l.stackTraces = false) {G : GC} {a : AS} {T : TS} {F : FS} {U : US} {S : SS} {D : DS} {R : RS} {M : MS} {N : NS} {P : PS} {A : Nat → Prop} {sz : Nat} {p : Program} {e : Env} {s : State} {m : MethodId} {args : Array Value} {below : List Frame} {meth : Method} {c : Code} (hx : p.tables.exec = Jvm.exec) (hb : c.code = cX0_anAcceptedOneIsOpen) (hr : meth.sig.returnType = (some .boolean)) (hml : c.maxLocals = 2) (hown : s.vm.findClass RX0 = some m.cls) (hts : ∀ w ∈ W0, w.before args s = true) (hlocks : meth.locks = false) (hlk : lkA a D.1.toNatClampNeg D.2.1.toNatClampNeg) (hAe : (va_A (wC G a T F U S D R M N P) sz) = A) (hA : ∀ q : Nat, s.heap.size ≤ q → A q) (hE : EV G A s s.heap) (hK : va_K (DG G) clP3 (TY G) s) (r9 : Int32) : ∀ (n : Nat), ∀ (v1 : Int32) (H : Heap) (locs : List Loc), va_P (DG G) clP3 (wC G a T F U S D R M N P) H → va_D A (wC G a T F U S D R M N P) → va_S A s.heap H locs → ∀ (ls : Array Slot), lv_has ls 2 [(0, .ref (a.1 21)), (1, .int v1)] → f_X0_anAcceptedOneIsOpen_L2 n D P v1 = some r9 → W p l e ({ frames := 2, cells := 0, slots := 0, locals := 45 }) s m args below meth c H locs 0 0 (MQ below (va_Qi (fun (r : Int32) (_ : Unit) => r = r9) (fun _ t => PW G (va_A (wC G a T F U S D R M N P) sz) (wC G a T F U S D R M N P) t) (va_A (wC G a T F U S D R M N P) sz)) args s 0 0 (va_A (wC G a T F U S D R M N P) sz)) (F0 m 2 ls []) := by
  intro n
  induction n with
  | zero =>
    intro v1 H locs hP hD hS ls hl hm
    rw [f_X0_anAcceptedOneIsOpen_L2] at hm
    cases hm
  | succ n ih =>
    intro v1 H locs hP hD hS ls hl hm
    rw [f_X0_anAcceptedOneIsOpen_L2] at hm
    refine lv_iload_n hx hb dX0_anAcceptedOneIsOpen_2 rfl (lv_at hl 1 rfl) ?_
    refine lv_aload_n hx hb dX0_anAcceptedOneIsOpen_3 rfl (lv_at hl 0 rfl) ?_
    refine va_get (D := DG G) (ci := 0) (v := .int D.1) (C := RX0) (T := TX0) (N := 8) hx hb hts inW_X0 hown hK hP 21 rfl rfl 5 (by decide) (hts _ wm144) (fun _ h9 => h9) rfl dX0_anAcceptedOneIsOpen_4 ?_
    refine lv_icmp_ge (tgt := 34) hx hb dX0_anAcceptedOneIsOpen_7 (by decide) (fun c_1 => ?_) (fun c_1 => ?_)
    · rw [if_pos c_1] at hm
      refine lv_iconst (v := 0) hx hb dX0_anAcceptedOneIsOpen_34 (by decide) ?_
      obtain rfl := Option.some.inj hm
      refine W.widen (k := 0) (n := 0) (Nat.le_of_ble_eq_true rfl) (Nat.le_of_ble_eq_true rfl) ?_
      exact W.zret (v := 0) (ty := .boolean) hx hb hr (by decide) (fun t ht hW => ⟨⟨0, (), rfl, rfl, ⟨by rw [ht]; exact hP, by rw [hAe]; exact hD⟩⟩, by rw [hAe]; exact hS.F ht⟩) (by rw [hAe]; exact hS.2.2) dX0_anAcceptedOneIsOpen_35 hlocks
    · rw [if_neg c_1] at hm
      refine lv_aload_n hx hb dX0_anAcceptedOneIsOpen_10 rfl (lv_at hl 0 rfl) ?_
      refine lv_iload_n hx hb dX0_anAcceptedOneIsOpen_11 rfl (lv_at hl 1 rfl) ?_
      obtain ⟨q_2, hq_2, hm⟩ := bind_some hm
      have hFc := free_all hD hS hA
      refine va_calli (va_runV (As := [.int v1]) (rest := []) ⟨hx, hb, hml, hown, hts⟩ (k_X0_hasAccepted l hfl G a T F U S D R M N P hlk v1  q_2 hq_2 H.size) (cwV 1 hts (gV wm616 wm593 wm594 wm5 wm595) rfl rfl rfl (by decide +kernel) ⟨Nat.le_of_ble_eq_true rfl, Nat.le_of_ble_eq_true rfl⟩) (pre_v (pre_w hK hP hD hS hE hFc) (va_recv hK hP (ci := 0) (q0 := 21) rfl rfl)) rfl rfl hl.1 rfl (lv_room (Nat.le_of_ble_eq_true rfl)) dX0_anAcceptedOneIsOpen_12 ⟨Nat.le_of_ble_eq_true rfl, Nat.le_of_ble_eq_true rfl⟩) hS (fun q _ h => hFc q h) hFc (fun r u t H locs ht hvm hw hB hz1 hk1 hS => ?_)
      rw [show r = q_2 from hw]
      have hP : va_P (DG G) clP3 (wC G a T F U S D R M N P) H := by rw [← ht]; exact hB.1
      have hD : va_D A (wC G a T F U S D R M N P) := hB.2.weaken (fun _ p _ h => hFc p.1 h)
      clear hB hFc hw hk1
      refine W.widen (k := 0) (n := 0) (Nat.le_of_ble_eq_true rfl) (Nat.le_of_ble_eq_true rfl) ?_
      refine lv_if_eq (tgt := 28) hx hb dX0_anAcceptedOneIsOpen_15 (by decide) (fun c_3 => ?_) (fun c_3 => ?_)
      · rw [if_pos c_3] at hm
        refine lv_iinc (v := (v1 + 1)) (lv' := [(1, .int (v1 + 1)), (0, .ref (a.1 21))]) hx hb dX0_anAcceptedOneIsOpen_28 hl (k := 1) rfl rfl (by decide) rfl (fun ls hl => ?_)
        refine lv_goto (tgt := 2) hx hb dX0_anAcceptedOneIsOpen_31 (by decide) ?_
        refine W.widen (k := 0) (n := 0) (Nat.le_of_ble_eq_true rfl) (Nat.le_of_ble_eq_true rfl) ?_
        exact ih  (v1 + 1)  _ _ hP hD hS _ (lv_sub hl [1, 0] rfl) hm
      · rw [if_neg c_3] at hm
        refine lv_aload_n hx hb dX0_anAcceptedOneIsOpen_18 rfl (lv_at hl 0 rfl) ?_
        refine lv_iload_n hx hb dX0_anAcceptedOneIsOpen_19 rfl (lv_at hl 1 rfl) ?_
        obtain ⟨q_4, hq_4, hm⟩ := bind_some hm
        have hFc := free_all hD hS hA
        refine va_calli (va_runV (As := [.int v1]) (rest := []) ⟨hx, hb, hml, hown, hts⟩ (k_X0_openOnesOf l hfl G a T F U S D R M N P hlk v1  q_4 hq_4 H.size) (cwV 1 hts (gV wm617 wm618 wm619 wm5 wm620) rfl rfl rfl (by decide +kernel) ⟨Nat.le_of_ble_eq_true rfl, Nat.le_of_ble_eq_true rfl⟩) (pre_v (pre_w hK hP hD hS hE hFc) (va_recv hK hP (ci := 0) (q0 := 21) rfl rfl)) rfl rfl hl.1 rfl (lv_room (Nat.le_of_ble_eq_true rfl)) dX0_anAcceptedOneIsOpen_20 ⟨Nat.le_of_ble_eq_true rfl, Nat.le_of_ble_eq_true rfl⟩) hS (fun q _ h => hFc q h) hFc (fun r u t H locs ht hvm hw hB hz1 hk1 hS => ?_)
        rw [show r = q_4 from hw]
        have hP : va_P (DG G) clP3 (wC G a T F U S D R M N P) H := by rw [← ht]; exact hB.1
        have hD : va_D A (wC G a T F U S D R M N P) := hB.2.weaken (fun _ p _ h => hFc p.1 h)
        clear hB hFc hw hk1
        refine W.widen (k := 0) (n := 0) (Nat.le_of_ble_eq_true rfl) (Nat.le_of_ble_eq_true rfl) ?_
        refine lv_if_le (tgt := 28) hx hb dX0_anAcceptedOneIsOpen_23 (by decide) (fun c_5 => ?_) (fun c_5 => ?_)
        · rw [if_pos c_5] at hm
          refine lv_iinc (v := (v1 + 1)) (lv' := [(1, .int (v1 + 1)), (0, .ref (a.1 21))]) hx hb dX0_anAcceptedOneIsOpen_28 hl (k := 1) rfl rfl (by decide) rfl (fun ls hl => ?_)
          refine lv_goto (tgt := 2) hx hb dX0_anAcceptedOneIsOpen_31 (by decide) ?_
          refine W.widen (k := 0) (n := 0) (Nat.le_of_ble_eq_true rfl) (Nat.le_of_ble_eq_true rfl) ?_
          exact ih  (v1 + 1)  _ _ hP hD hS _ (lv_sub hl [1, 0] rfl) hm
        · rw [if_neg c_5] at hm
          refine lv_iconst (v := 1) hx hb dX0_anAcceptedOneIsOpen_26 (by decide) ?_
          obtain rfl := Option.some.inj hm
          refine W.widen (k := 0) (n := 0) (Nat.le_of_ble_eq_true rfl) (Nat.le_of_ble_eq_true rfl) ?_
          exact W.zret (v := 1) (ty := .boolean) hx hb hr (by decide) (fun t ht hW => ⟨⟨1, (), rfl, rfl, ⟨by rw [ht]; exact hP, by rw [hAe]; exact hD⟩⟩, by rw [hAe]; exact hS.F ht⟩) (by rw [hAe]; exact hS.2.2) dX0_anAcceptedOneIsOpen_27 hlocks
set_option maxHeartbeats 2000000 in
set_option maxRecDepth 100000 in
theorem k_X0_anAcceptedOneIsOpen (l : Launch) (hfl : l.stackTraces = false) (G : GC) (a : AS) (T : TS) (F : FS) (U : US) (S : SS) (D : DS) (R : RS) (M : MS) (N : NS) (P : PS) (hlk : lkA a D.1.toNatClampNeg D.2.1.toNatClampNeg)  (r9 : Int32) (hm : f_X0_anAcceptedOneIsOpen D P = some r9) (sz : Nat) : Met l yX0_anAcceptedOneIsOpen (Cond.code yX0_anAcceptedOneIsOpen cX0_anAcceptedOneIsOpen 2 (some .boolean) :: W0) ({ frames := 2, cells := 0, slots := 0, locals := 45 }) (va_Pc [.ref (a.1 21)] (WD G (wC G a T F U S D R M N P) sz)) (va_Qi (fun (r : Int32) (_ : Unit) => r = r9) (fun _ t => PW G (va_A (wC G a T F U S D R M N P) sz) (wC G a T F U S D R M N P) t) (va_A (wC G a T F U S D R M N P) sz)) 0 0 (va_A (wC G a T F U S D R M N P) sz) := by
  rw [f_X0_anAcceptedOneIsOpen] at hm
  refine Met.ofW (cc := cX0_anAcceptedOneIsOpen) (maxL := 2) (ret := (some .boolean)) (by decide) rfl ?_
  intro p e s m args below meth c s₁ B hml hv
  obtain ⟨rfl, hsz, hP, hK, hD0, hE⟩ := hv
  have hx := B.exec
  have hb := B.bytes
  have hr := B.returns
  have hts := w0_tail B.pre
  have hown : s.vm.findClass RX0 = some m.cls := findClass_of_methodNamed B.named
  have hlocks := B.notSynchronized
  have hD := hD0.self (sz := sz)
  obtain ⟨A, hAe⟩ : ∃ A, (va_A (wC G a T F U S D R M N P) sz) = A := ⟨_, rfl⟩
  rw [hAe] at hD hE
  have hA : ∀ q : Nat, s.heap.size ≤ q → A q := fun q h => by rw [← hAe]; exact Or.inr (by rw [← hsz]; exact h)
  have hS : va_S A s.heap s.heap [] := va_S.rf
  obtain ⟨H, hHe⟩ : ∃ H : Heap, H = s.heap := ⟨_, rfl⟩
  have hP : va_P (DG G) clP3 (wC G a T F U S D R M N P) H := by rw [hHe]; exact hP
  have hS : va_S A s.heap H [] := by rw [hHe]; exact hS
  have hl := lv_entry ([.ref (a.1 21)]) (n := 2) (Nat.le_of_ble_eq_true rfl)
  rw [lg_entry_eq, ← hHe]
  generalize (lg_sl ([.ref (a.1 21)]) ++ List.replicate (2 - (lg_sl ([.ref (a.1 21)])).length) Slot.unset).toArray = ls at hl ⊢
  have hl : lv_has ls 2 [(0, .ref (a.1 21))] := hl
  refine lv_iconst (v := 0) hx hb dX0_anAcceptedOneIsOpen_0 (by decide) ?_
  refine lv_istore_n (lv' := [(1, .int 0), (0, .ref (a.1 21))]) hx hb dX0_anAcceptedOneIsOpen_1 rfl hl (by decide) rfl (fun ls hl => ?_)
  refine W.widen (k := 0) (n := 0) (Nat.le_of_ble_eq_true rfl) (Nat.le_of_ble_eq_true rfl) ?_
  exact kl_X0_anAcceptedOneIsOpen_2 hfl hx hb hr hml hown hts hlocks hlk hAe hA hE hK r9 100000  0  _ _ hP hD hS _ (lv_sub hl [1, 0] rfl) hm
def f_X0_areAlike_L43 : Nat → TS → DS → PS → Int32 → Int32 → Int32 → Option (Int32)
  | 0, _, _, _, _, _, _ => none
  | n + 1, T, D, P, v1, v2, v3 => (if (Int32.ofNat (P.2.2.2.2.2.2.2.2.2.2.2.2.1 (Int32.toNatClampNeg v1))) ≤ v3 then some 1 else (if (Int32.ofNat (P.2.2.2.2.2.2.2.2.2.2.2.2.1 (Int32.toNatClampNeg v2))) ≤ v3 then some 1 else (if inb v3 (P.2.2.2.2.2.2.2.2.2.2.2.2.1 (Int32.toNatClampNeg v1)) = true then (if inb v3 (P.2.2.2.2.2.2.2.2.2.2.2.2.1 (Int32.toNatClampNeg v2)) = true then (Option.bind (g_X6_meet T ((P.2.2.2.2.2.2.2.2.2.2.2.2.2 (Int32.toNatClampNeg v1)) (Int32.toNatClampNeg v3)) ((P.2.2.2.2.2.2.2.2.2.2.2.2.2 (Int32.toNatClampNeg v2)) (Int32.toNatClampNeg v3))) (fun q_8 => (if q_8 = 0 then some 0 else (f_X0_areAlike_L43 n T D P v1 v2 (v3 + 1))))) else none) else none)))
def f_X0_areAlike (T : TS) (D : DS) (P : PS) (p1 : Int32) (p2 : Int32) : Option (Int32) := (if (P.2.2.2.1 (Int32.toNatClampNeg p1)) = (P.2.2.2.1 (Int32.toNatClampNeg p2)) then (if (P.2.2.2.2.2.1 (Int32.toNatClampNeg p1)) = 115 then some 0 else (if (P.2.2.2.2.2.1 (Int32.toNatClampNeg p2)) = 115 then some 0 else (f_X0_areAlike_L43 100000 T D P p1 p2 0))) else some 0)
set_option maxHeartbeats 2000000 in
set_option maxRecDepth 100000 in
theorem kl_X0_areAlike_43 {l : Launch} (hfl : l.stackTraces = false) {G : GC} {a : AS} {T : TS} {F : FS} {U : US} {S : SS} {D : DS} {R : RS} {M : MS} {N : NS} {P : PS} {A : Nat → Prop} {sz : Nat} {p : Program} {e : Env} {s : State} {m : MethodId} {args : Array Value} {below : List Frame} {meth : Method} {c : Code} (hx : p.tables.exec = Jvm.exec) (hb : c.code = cX0_areAlike) (hr : meth.sig.returnType = (some .boolean)) (hml : c.maxLocals = 4) (hown : s.vm.findClass RX0 = some m.cls) (hts : ∀ w ∈ W0, w.before args s = true) (hlocks : meth.locks = false) (hlk : lkA a D.1.toNatClampNeg D.2.1.toNatClampNeg) (hAe : (va_A (wC G a T F U S D R M N P) sz) = A) (hA : ∀ q : Nat, s.heap.size ≤ q → A q) (hE : EV G A s s.heap) (hK : va_K (DG G) clP3 (TY G) s) (r9 : Int32) : ∀ (n : Nat), ∀ (v1 : Int32) (v2 : Int32) (v3 : Int32) (hv1 : gix D v1 = true) (hv2 : gix D v2 = true) (H : Heap) (locs : List Loc), va_P (DG G) clP3 (wC G a T F U S D R M N P) H → va_D A (wC G a T F U S D R M N P) → va_S A s.heap H locs → ∀ (ls : Array Slot), lv_has ls 4 [(0, .ref (a.1 21)), (1, .ref (a.2.2.1 (Int32.toNatClampNeg v1) 0)), (2, .ref (a.2.2.1 (Int32.toNatClampNeg v2) 0)), (3, .int v3)] → f_X0_areAlike_L43 n T D P v1 v2 v3 = some r9 → W p l e ({ frames := 202, cells := 0, slots := 0, locals := 4845 }) s m args below meth c H locs 0 0 (MQ below (va_Qi (fun (r : Int32) (_ : Unit) => r = r9) (fun _ t => PW G (va_A (wC G a T F U S D R M N P) sz) (wC G a T F U S D R M N P) t) (va_A (wC G a T F U S D R M N P) sz)) args s 0 0 (va_A (wC G a T F U S D R M N P) sz)) (F0 m 43 ls []) := by
  intro n
  induction n with
  | zero =>
    intro v1 v2 v3 hv1 hv2 H locs hP hD hS ls hl hm
    rw [f_X0_areAlike_L43] at hm
    cases hm
  | succ n ih =>
    intro v1 v2 v3 hv1 hv2 H locs hP hD hS ls hl hm
    rw [f_X0_areAlike_L43] at hm
    refine lv_iload_n hx hb dX0_areAlike_43 rfl (lv_at hl 3 rfl) ?_
    refine lv_aload_n hx hb dX0_areAlike_44 rfl (lv_at hl 1 rfl) ?_
    refine va_getN (D := DG G) (ci := 3) (v := .ref (a.2.2.1 (Int32.toNatClampNeg v1) 3)) (C := RX3) (T := TX3) (N := 8) hx hb hts inW_X3 hown hK hP _ ((at_goalC (c := 0) (gix_lt hv1) (by decide)).trans rfl) rfl 3 (by decide) (va_Nw.use rfl (hE.1 _ nw918)) (fun _ h9 => h9) rfl dX0_areAlike_45 ?_
    refine va_alen (v := Int32.ofNat (P.2.2.2.2.2.2.2.2.2.2.2.2.1 (Int32.toNatClampNeg v1))) hx hb hK hP _ 0 ((at_goalC (c := 3) (gix_lt hv1) (by decide)).trans rfl) rfl rfl dX0_areAlike_48 ?_
    refine lv_icmp_ge (tgt := 91) hx hb dX0_areAlike_49 (by decide) (fun c_4 => ?_) (fun c_4 => ?_)
    · rw [if_pos c_4] at hm
      refine lv_iconst (v := 1) hx hb dX0_areAlike_91 (by decide) ?_
      obtain rfl := Option.some.inj hm
      refine W.widen (k := 0) (n := 0) (Nat.le_of_ble_eq_true rfl) (Nat.le_of_ble_eq_true rfl) ?_
      exact W.zret (v := 1) (ty := .boolean) hx hb hr (by decide) (fun t ht hW => ⟨⟨1, (), rfl, rfl, ⟨by rw [ht]; exact hP, by rw [hAe]; exact hD⟩⟩, by rw [hAe]; exact hS.F ht⟩) (by rw [hAe]; exact hS.2.2) dX0_areAlike_92 hlocks
    · rw [if_neg c_4] at hm
      refine lv_iload_n hx hb dX0_areAlike_52 rfl (lv_at hl 3 rfl) ?_
      refine lv_aload_n hx hb dX0_areAlike_53 rfl (lv_at hl 2 rfl) ?_
      refine va_getN (D := DG G) (ci := 3) (v := .ref (a.2.2.1 (Int32.toNatClampNeg v2) 3)) (C := RX3) (T := TX3) (N := 8) hx hb hts inW_X3 hown hK hP _ ((at_goalC (c := 0) (gix_lt hv2) (by decide)).trans rfl) rfl 3 (by decide) (va_Nw.use rfl (hE.1 _ nw918)) (fun _ h9 => h9) rfl dX0_areAlike_54 ?_
      refine va_alen (v := Int32.ofNat (P.2.2.2.2.2.2.2.2.2.2.2.2.1 (Int32.toNatClampNeg v2))) hx hb hK hP _ 0 ((at_goalC (c := 3) (gix_lt hv2) (by decide)).trans rfl) rfl rfl dX0_areAlike_57 ?_
      refine lv_icmp_ge (tgt := 91) hx hb dX0_areAlike_58 (by decide) (fun c_5 => ?_) (fun c_5 => ?_)
      · rw [if_pos c_5] at hm
        refine lv_iconst (v := 1) hx hb dX0_areAlike_91 (by decide) ?_
        obtain rfl := Option.some.inj hm
        refine W.widen (k := 0) (n := 0) (Nat.le_of_ble_eq_true rfl) (Nat.le_of_ble_eq_true rfl) ?_
        exact W.zret (v := 1) (ty := .boolean) hx hb hr (by decide) (fun t ht hW => ⟨⟨1, (), rfl, rfl, ⟨by rw [ht]; exact hP, by rw [hAe]; exact hD⟩⟩, by rw [hAe]; exact hS.F ht⟩) (by rw [hAe]; exact hS.2.2) dX0_areAlike_92 hlocks
      · rw [if_neg c_5] at hm
        refine lv_aload_n hx hb dX0_areAlike_61 rfl (lv_at hl 0 rfl) ?_
        refine va_get (D := DG G) (ci := 0) (v := .ref (a.1 1)) (C := RX0) (T := TX0) (N := 8) hx hb hts inW_X0 hown hK hP 21 rfl rfl 0 (by decide) (hts _ wm139) (fun _ h9 => h9) rfl dX0_areAlike_62 ?_
        refine lv_aload_n hx hb dX0_areAlike_65 rfl (lv_at hl 1 rfl) ?_
        refine va_getN (D := DG G) (ci := 3) (v := .ref (a.2.2.1 (Int32.toNatClampNeg v1) 3)) (C := RX3) (T := TX3) (N := 8) hx hb hts inW_X3 hown hK hP _ ((at_goalC (c := 0) (gix_lt hv1) (by decide)).trans rfl) rfl 3 (by decide) (va_Nw.use rfl (hE.1 _ nw918)) (fun _ h9 => h9) rfl dX0_areAlike_66 ?_
        refine lv_iload_n hx hb dX0_areAlike_69 rfl (lv_at hl 3 rfl) ?_
        obtain ⟨b_6, hm⟩ := ite_some hm
        refine va_iald hx hb hK hP _ 0 ((at_goalC (c := 3) (gix_lt hv1) (by decide)).trans rfl) rfl (inb_vp b_6) dX0_areAlike_70 ?_
        refine lv_aload_n hx hb dX0_areAlike_71 rfl (lv_at hl 2 rfl) ?_
        refine va_getN (D := DG G) (ci := 3) (v := .ref (a.2.2.1 (Int32.toNatClampNeg v2) 3)) (C := RX3) (T := TX3) (N := 8) hx hb hts inW_X3 hown hK hP _ ((at_goalC (c := 0) (gix_lt hv2) (by decide)).trans rfl) rfl 3 (by decide) (va_Nw.use rfl (hE.1 _ nw918)) (fun _ h9 => h9) rfl dX0_areAlike_72 ?_
        refine lv_iload_n hx hb dX0_areAlike_75 rfl (lv_at hl 3 rfl) ?_
        obtain ⟨b_7, hm⟩ := ite_some hm
        refine va_iald hx hb hK hP _ 0 ((at_goalC (c := 3) (gix_lt hv2) (by decide)).trans rfl) rfl (inb_vp b_7) dX0_areAlike_76 ?_
        obtain ⟨q_8, hq_8, hm⟩ := bind_some hm
        have hFc := free_all hD hS hA
        refine va_calli (va_runSN (As := [.ref (a.1 1), .int ((P.2.2.2.2.2.2.2.2.2.2.2.2.2 (Int32.toNatClampNeg v1)) (Int32.toNatClampNeg v3)), .int ((P.2.2.2.2.2.2.2.2.2.2.2.2.2 (Int32.toNatClampNeg v2)) (Int32.toNatClampNeg v3))]) (rest := []) ⟨hx, hb, hml, hown, hts⟩ (K_X6_meet l hfl G a T F U S D R M N P ((P.2.2.2.2.2.2.2.2.2.2.2.2.2 (Int32.toNatClampNeg v1)) (Int32.toNatClampNeg v3)) ((P.2.2.2.2.2.2.2.2.2.2.2.2.2 (Int32.toNatClampNeg v2)) (Int32.toNatClampNeg v3))  q_8 hq_8 H.size) ⟨va_cnB 3 hts (gC wm632) rfl rfl rfl (hE.1 _ nw630) (hts _ wm20) (by decide +kernel) ⟨Nat.le_of_ble_eq_true rfl, Nat.le_of_ble_eq_true rfl⟩, hts _ wm631, trivial⟩ (pre_w hK hP hD hS hE hFc) rfl rfl hl.1 rfl (lv_room (Nat.le_of_ble_eq_true rfl)) dX0_areAlike_77 ⟨Nat.le_of_ble_eq_true rfl, Nat.le_of_ble_eq_true rfl⟩) hS (fun q _ h => hFc q h) hFc (fun r u t H locs ht hvm hw hB hz1 hk1 hS => ?_)
        rw [show r = q_8 from hw]
        have hP : va_P (DG G) clP3 (wC G a T F U S D R M N P) H := by rw [← ht]; exact hB.1
        have hD : va_D A (wC G a T F U S D R M N P) := hB.2.weaken (fun _ p _ h => hFc p.1 h)
        clear hB hFc hw hk1
        refine W.widen (k := 0) (n := 0) (Nat.le_of_ble_eq_true rfl) (Nat.le_of_ble_eq_true rfl) ?_
        refine lv_if_ne (tgt := 85) hx hb dX0_areAlike_80 (by decide) (fun c_9 => ?_) (fun c_9 => ?_)
        · rw [if_neg c_9] at hm
          refine lv_iinc (v := (v3 + 1)) (lv' := [(3, .int (v3 + 1)), (0, .ref (a.1 21)), (1, .ref (a.2.2.1 (Int32.toNatClampNeg v1) 0)), (2, .ref (a.2.2.1 (Int32.toNatClampNeg v2) 0))]) hx hb dX0_areAlike_85 hl (k := 3) rfl rfl (by decide) rfl (fun ls hl => ?_)
          refine lv_goto (tgt := 43) hx hb dX0_areAlike_88 (by decide) ?_
          refine W.widen (k := 0) (n := 0) (Nat.le_of_ble_eq_true rfl) (Nat.le_of_ble_eq_true rfl) ?_
          exact ih  v1 v2 (v3 + 1) hv1 hv2 _ _ hP hD hS _ (lv_sub hl [1, 2, 3, 0] rfl) hm
        · rw [if_pos c_9] at hm
          refine lv_iconst (v := 0) hx hb dX0_areAlike_83 (by decide) ?_
          obtain rfl := Option.some.inj hm
          refine W.widen (k := 0) (n := 0) (Nat.le_of_ble_eq_true rfl) (Nat.le_of_ble_eq_true rfl) ?_
          exact W.zret (v := 0) (ty := .boolean) hx hb hr (by decide) (fun t ht hW => ⟨⟨0, (), rfl, rfl, ⟨by rw [ht]; exact hP, by rw [hAe]; exact hD⟩⟩, by rw [hAe]; exact hS.F ht⟩) (by rw [hAe]; exact hS.2.2) dX0_areAlike_84 hlocks
set_option maxHeartbeats 2000000 in
set_option maxRecDepth 100000 in
theorem k_X0_areAlike (l : Launch) (hfl : l.stackTraces = false) (G : GC) (a : AS) (T : TS) (F : FS) (U : US) (S : SS) (D : DS) (R : RS) (M : MS) (N : NS) (P : PS) (hlk : lkA a D.1.toNatClampNeg D.2.1.toNatClampNeg) (p1 : Int32) (p2 : Int32) (hg_p1 : gix D p1 = true) (hg_p2 : gix D p2 = true) (r9 : Int32) (hm : f_X0_areAlike T D P p1 p2 = some r9) (sz : Nat) : Met l yX0_areAlike (Cond.code yX0_areAlike cX0_areAlike 4 (some .boolean) :: W0) ({ frames := 202, cells := 0, slots := 0, locals := 4845 }) (va_Pc [.ref (a.1 21), .ref (a.2.2.1 (Int32.toNatClampNeg p1) 0), .ref (a.2.2.1 (Int32.toNatClampNeg p2) 0)] (WD G (wC G a T F U S D R M N P) sz)) (va_Qi (fun (r : Int32) (_ : Unit) => r = r9) (fun _ t => PW G (va_A (wC G a T F U S D R M N P) sz) (wC G a T F U S D R M N P) t) (va_A (wC G a T F U S D R M N P) sz)) 0 0 (va_A (wC G a T F U S D R M N P) sz) := by
  rw [f_X0_areAlike] at hm
  refine Met.ofW (cc := cX0_areAlike) (maxL := 4) (ret := (some .boolean)) (by decide) rfl ?_
  intro p e s m args below meth c s₁ B hml hv
  obtain ⟨rfl, hsz, hP, hK, hD0, hE⟩ := hv
  have hx := B.exec
  have hb := B.bytes
  have hr := B.returns
  have hts := w0_tail B.pre
  have hown : s.vm.findClass RX0 = some m.cls := findClass_of_methodNamed B.named
  have hlocks := B.notSynchronized
  have hD := hD0.self (sz := sz)
  obtain ⟨A, hAe⟩ : ∃ A, (va_A (wC G a T F U S D R M N P) sz) = A := ⟨_, rfl⟩
  rw [hAe] at hD hE
  have hA : ∀ q : Nat, s.heap.size ≤ q → A q := fun q h => by rw [← hAe]; exact Or.inr (by rw [← hsz]; exact h)
  have hS : va_S A s.heap s.heap [] := va_S.rf
  obtain ⟨H, hHe⟩ : ∃ H : Heap, H = s.heap := ⟨_, rfl⟩
  have hP : va_P (DG G) clP3 (wC G a T F U S D R M N P) H := by rw [hHe]; exact hP
  have hS : va_S A s.heap H [] := by rw [hHe]; exact hS
  have hl := lv_entry ([.ref (a.1 21), .ref (a.2.2.1 (Int32.toNatClampNeg p1) 0), .ref (a.2.2.1 (Int32.toNatClampNeg p2) 0)]) (n := 4) (Nat.le_of_ble_eq_true rfl)
  rw [lg_entry_eq, ← hHe]
  generalize (lg_sl ([.ref (a.1 21), .ref (a.2.2.1 (Int32.toNatClampNeg p1) 0), .ref (a.2.2.1 (Int32.toNatClampNeg p2) 0)]) ++ List.replicate (4 - (lg_sl ([.ref (a.1 21), .ref (a.2.2.1 (Int32.toNatClampNeg p1) 0), .ref (a.2.2.1 (Int32.toNatClampNeg p2) 0)])).length) Slot.unset).toArray = ls at hl ⊢
  have hl : lv_has ls 4 [(0, .ref (a.1 21)), (1, .ref (a.2.2.1 (Int32.toNatClampNeg p1) 0)), (2, .ref (a.2.2.1 (Int32.toNatClampNeg p2) 0))] := hl
  refine lv_aload_n hx hb dX0_areAlike_0 rfl (lv_at hl 1 rfl) ?_
  refine lv_ifnull hx hb dX0_areAlike_1 ?_
  refine lv_aload_n hx hb dX0_areAlike_4 rfl (lv_at hl 2 rfl) ?_
  refine lv_ifnull hx hb dX0_areAlike_5 ?_
  refine lv_aload_n hx hb dX0_areAlike_8 rfl (lv_at hl 1 rfl) ?_
  refine va_getN (D := DG G) (ci := 3) (v := .int (P.2.2.2.1 (Int32.toNatClampNeg p1))) (C := RX3) (T := TX3) (N := 8) hx hb hts inW_X3 hown hK hP _ ((at_goalC (c := 0) (gix_lt hg_p1) (by decide)).trans rfl) rfl 0 (by decide) (va_Nw.use rfl (hE.1 _ nw906)) (fun _ h9 => h9) rfl dX0_areAlike_9 ?_
  refine lv_aload_n hx hb dX0_areAlike_12 rfl (lv_at hl 2 rfl) ?_
  refine va_getN (D := DG G) (ci := 3) (v := .int (P.2.2.2.1 (Int32.toNatClampNeg p2))) (C := RX3) (T := TX3) (N := 8) hx hb hts inW_X3 hown hK hP _ ((at_goalC (c := 0) (gix_lt hg_p2) (by decide)).trans rfl) rfl 0 (by decide) (va_Nw.use rfl (hE.1 _ nw906)) (fun _ h9 => h9) rfl dX0_areAlike_13 ?_
  refine lv_icmp_eq (tgt := 21) hx hb dX0_areAlike_16 (by decide) (fun c_1 => ?_) (fun c_1 => ?_)
  · rw [if_pos c_1] at hm
    refine lv_aload_n hx hb dX0_areAlike_21 rfl (lv_at hl 1 rfl) ?_
    refine va_getN (D := DG G) (ci := 3) (v := .int (P.2.2.2.2.2.1 (Int32.toNatClampNeg p1))) (C := RX3) (T := TX3) (N := 8) hx hb hts inW_X3 hown hK hP _ ((at_goalC (c := 0) (gix_lt hg_p1) (by decide)).trans rfl) rfl 4 (by decide) (va_Nw.use rfl (hE.1 _ nw922)) (fun _ h9 => h9) rfl dX0_areAlike_22 ?_
    refine lv_bipush (v := 115) hx hb dX0_areAlike_25 (by decide) ?_
    refine lv_icmp_eq (tgt := 39) hx hb dX0_areAlike_27 (by decide) (fun c_2 => ?_) (fun c_2 => ?_)
    · rw [if_pos c_2] at hm
      refine lv_iconst (v := 0) hx hb dX0_areAlike_39 (by decide) ?_
      obtain rfl := Option.some.inj hm
      refine W.widen (k := 0) (n := 0) (Nat.le_of_ble_eq_true rfl) (Nat.le_of_ble_eq_true rfl) ?_
      exact W.zret (v := 0) (ty := .boolean) hx hb hr (by decide) (fun t ht hW => ⟨⟨0, (), rfl, rfl, ⟨by rw [ht]; exact hP, by rw [hAe]; exact hD⟩⟩, by rw [hAe]; exact hS.F ht⟩) (by rw [hAe]; exact hS.2.2) dX0_areAlike_40 hlocks
    · rw [if_neg c_2] at hm
      refine lv_aload_n hx hb dX0_areAlike_30 rfl (lv_at hl 2 rfl) ?_
      refine va_getN (D := DG G) (ci := 3) (v := .int (P.2.2.2.2.2.1 (Int32.toNatClampNeg p2))) (C := RX3) (T := TX3) (N := 8) hx hb hts inW_X3 hown hK hP _ ((at_goalC (c := 0) (gix_lt hg_p2) (by decide)).trans rfl) rfl 4 (by decide) (va_Nw.use rfl (hE.1 _ nw922)) (fun _ h9 => h9) rfl dX0_areAlike_31 ?_
      refine lv_bipush (v := 115) hx hb dX0_areAlike_34 (by decide) ?_
      refine lv_icmp_ne (tgt := 41) hx hb dX0_areAlike_36 (by decide) (fun c_3 => ?_) (fun c_3 => ?_)
      · rw [if_neg c_3] at hm
        refine lv_iconst (v := 0) hx hb dX0_areAlike_41 (by decide) ?_
        refine lv_istore_n (lv' := [(3, .int 0), (0, .ref (a.1 21)), (1, .ref (a.2.2.1 (Int32.toNatClampNeg p1) 0)), (2, .ref (a.2.2.1 (Int32.toNatClampNeg p2) 0))]) hx hb dX0_areAlike_42 rfl hl (by decide) rfl (fun ls hl => ?_)
        refine W.widen (k := 0) (n := 0) (Nat.le_of_ble_eq_true rfl) (Nat.le_of_ble_eq_true rfl) ?_
        exact kl_X0_areAlike_43 hfl hx hb hr hml hown hts hlocks hlk hAe hA hE hK r9 100000  p1 p2 0 hg_p1 hg_p2 _ _ hP hD hS _ (lv_sub hl [1, 2, 3, 0] rfl) hm
      · rw [if_pos c_3] at hm
        refine lv_iconst (v := 0) hx hb dX0_areAlike_39 (by decide) ?_
        obtain rfl := Option.some.inj hm
        refine W.widen (k := 0) (n := 0) (Nat.le_of_ble_eq_true rfl) (Nat.le_of_ble_eq_true rfl) ?_
        exact W.zret (v := 0) (ty := .boolean) hx hb hr (by decide) (fun t ht hW => ⟨⟨0, (), rfl, rfl, ⟨by rw [ht]; exact hP, by rw [hAe]; exact hD⟩⟩, by rw [hAe]; exact hS.F ht⟩) (by rw [hAe]; exact hS.2.2) dX0_areAlike_40 hlocks
  · rw [if_neg c_1] at hm
    refine lv_iconst (v := 0) hx hb dX0_areAlike_19 (by decide) ?_
    obtain rfl := Option.some.inj hm
    refine W.widen (k := 0) (n := 0) (Nat.le_of_ble_eq_true rfl) (Nat.le_of_ble_eq_true rfl) ?_
    exact W.zret (v := 0) (ty := .boolean) hx hb hr (by decide) (fun t ht hW => ⟨⟨0, (), rfl, rfl, ⟨by rw [ht]; exact hP, by rw [hAe]; exact hD⟩⟩, by rw [hAe]; exact hS.F ht⟩) (by rw [hAe]; exact hS.2.2) dX0_areAlike_20 hlocks
def f_X0_twoAreAlike_L : Nat → Nat → TS → DS → PS → Int32 → Int32 → Option (Int32)
  | 0, _, _, _, _, _, _ => none
  | n + 1, k, T, D, P, v1, v2 => (if k = 0 then (if D.2.1 ≤ v1 then some 0 else (f_X0_twoAreAlike_L n 1 T D P v1 (v1 + (1 : Int32)))) else (if D.2.1 ≤ v2 then (f_X0_twoAreAlike_L n 0 T D P (v1 + 1) 0) else (Option.bind (f_X0_goal D v1) (fun q_3 => (if q_3 < 0 then (Option.bind (f_X0_goal D v2) (fun q_5 => (if q_5 < 0 then none else (if gix D q_5 = true then none else none)))) else (if gix D q_3 = true then (Option.bind (f_X0_goal D v2) (fun q_9 => (if q_9 < 0 then none else (if gix D q_9 = true then (Option.bind (f_X0_areAlike T D P q_3 q_9) (fun q_12 => (if q_12 = 0 then (f_X0_twoAreAlike_L n 1 T D P v1 (v2 + 1)) else some 1))) else none)))) else none))))))
def f_X0_twoAreAlike (T : TS) (D : DS) (P : PS)  : Option (Int32) := (f_X0_twoAreAlike_L 100000 0 T D P 0 0)
set_option maxHeartbeats 2000000 in
set_option maxRecDepth 100000 in
theorem kl_X0_twoAreAlike {l : Launch} (hfl : l.stackTraces = false) {G : GC} {a : AS} {T : TS} {F : FS} {U : US} {S : SS} {D : DS} {R : RS} {M : MS} {N : NS} {P : PS} {A : Nat → Prop} {sz : Nat} {p : Program} {e : Env} {s : State} {m : MethodId} {args : Array Value} {below : List Frame} {meth : Method} {c : Code} (hx : p.tables.exec = Jvm.exec) (hb : c.code = cX0_twoAreAlike) (hr : meth.sig.returnType = (some .boolean)) (hml : c.maxLocals = 3) (hown : s.vm.findClass RX0 = some m.cls) (hts : ∀ w ∈ W0, w.before args s = true) (hlocks : meth.locks = false) (hlk : lkA a D.1.toNatClampNeg D.2.1.toNatClampNeg) (hAe : (va_A (wC G a T F U S D R M N P) sz) = A) (hA : ∀ q : Nat, s.heap.size ≤ q → A q) (hE : EV G A s s.heap) (hK : va_K (DG G) clP3 (TY G) s) (r9 : Int32) : ∀ (n : Nat), (∀ (v1 : Int32) (H : Heap) (locs : List Loc), va_P (DG G) clP3 (wC G a T F U S D R M N P) H → va_D A (wC G a T F U S D R M N P) → va_S A s.heap H locs → ∀ (ls : Array Slot), lv_has ls 3 [(0, .ref (a.1 21)), (1, .int v1)] → f_X0_twoAreAlike_L n 0 T D P v1 0 = some r9 → W p l e ({ frames := 203, cells := 0, slots := 0, locals := 4868 }) s m args below meth c H locs 0 0 (MQ below (va_Qi (fun (r : Int32) (_ : Unit) => r = r9) (fun _ t => PW G (va_A (wC G a T F U S D R M N P) sz) (wC G a T F U S D R M N P) t) (va_A (wC G a T F U S D R M N P) sz)) args s 0 0 (va_A (wC G a T F U S D R M N P) sz)) (F0 m 2 ls [])) ∧ (∀ (v1 : Int32) (v2 : Int32) (H : Heap) (locs : List Loc), va_P (DG G) clP3 (wC G a T F U S D R M N P) H → va_D A (wC G a T F U S D R M N P) → va_S A s.heap H locs → ∀ (ls : Array Slot), lv_has ls 3 [(0, .ref (a.1 21)), (1, .int v1), (2, .int v2)] → f_X0_twoAreAlike_L n 1 T D P v1 v2 = some r9 → W p l e ({ frames := 203, cells := 0, slots := 0, locals := 4868 }) s m args below meth c H locs 0 0 (MQ below (va_Qi (fun (r : Int32) (_ : Unit) => r = r9) (fun _ t => PW G (va_A (wC G a T F U S D R M N P) sz) (wC G a T F U S D R M N P) t) (va_A (wC G a T F U S D R M N P) sz)) args s 0 0 (va_A (wC G a T F U S D R M N P) sz)) (F0 m 14 ls [])) := by
  intro n
  induction n with
  | zero =>
    refine ⟨?_, ?_⟩
    · intro v1 H locs hP hD hS ls hl hm
      rw [f_X0_twoAreAlike_L] at hm
      cases hm
    · intro v1 v2 H locs hP hD hS ls hl hm
      rw [f_X0_twoAreAlike_L] at hm
      cases hm
  | succ n ih =>
    refine ⟨?_, ?_⟩
    · intro v1 H locs hP hD hS ls hl hm
      rw [f_X0_twoAreAlike_L] at hm
      rw [if_pos rfl] at hm
      refine lv_iload_n hx hb dX0_twoAreAlike_2 rfl (lv_at hl 1 rfl) ?_
      refine lv_aload_n hx hb dX0_twoAreAlike_3 rfl (lv_at hl 0 rfl) ?_
      refine va_get (D := DG G) (ci := 0) (v := .int D.2.1) (C := RX0) (T := TX0) (N := 8) hx hb hts inW_X0 hown hK hP 21 rfl rfl 6 (by decide) (hts _ wm146) (fun _ h9 => h9) rfl dX0_twoAreAlike_4 ?_
      refine lv_icmp_ge (tgt := 53) hx hb dX0_twoAreAlike_7 (by decide) (fun c_1 => ?_) (fun c_1 => ?_)
      · rw [if_pos c_1] at hm
        refine lv_iconst (v := 0) hx hb dX0_twoAreAlike_53 (by decide) ?_
        obtain rfl := Option.some.inj hm
        refine W.widen (k := 0) (n := 0) (Nat.le_of_ble_eq_true rfl) (Nat.le_of_ble_eq_true rfl) ?_
        exact W.zret (v := 0) (ty := .boolean) hx hb hr (by decide) (fun t ht hW => ⟨⟨0, (), rfl, rfl, ⟨by rw [ht]; exact hP, by rw [hAe]; exact hD⟩⟩, by rw [hAe]; exact hS.F ht⟩) (by rw [hAe]; exact hS.2.2) dX0_twoAreAlike_54 hlocks
      · rw [if_neg c_1] at hm
        refine lv_iload_n hx hb dX0_twoAreAlike_10 rfl (lv_at hl 1 rfl) ?_
        refine lv_iconst (v := 1) hx hb dX0_twoAreAlike_11 (by decide) ?_
        refine lv_iadd hx hb dX0_twoAreAlike_12 ?_
        refine lv_istore_n (lv' := [(2, .int (v1 + (1 : Int32))), (0, .ref (a.1 21)), (1, .int v1)]) hx hb dX0_twoAreAlike_13 rfl hl (by decide) rfl (fun ls hl => ?_)
        refine W.widen (k := 0) (n := 0) (Nat.le_of_ble_eq_true rfl) (Nat.le_of_ble_eq_true rfl) ?_
        exact ih.2  v1 (v1 + (1 : Int32))  _ _ hP hD hS _ (lv_sub hl [1, 2, 0] rfl) hm
    · intro v1 v2 H locs hP hD hS ls hl hm
      rw [f_X0_twoAreAlike_L] at hm
      rw [if_neg (by decide)] at hm
      refine lv_iload_n hx hb dX0_twoAreAlike_14 rfl (lv_at hl 2 rfl) ?_
      refine lv_aload_n hx hb dX0_twoAreAlike_15 rfl (lv_at hl 0 rfl) ?_
      refine va_get (D := DG G) (ci := 0) (v := .int D.2.1) (C := RX0) (T := TX0) (N := 8) hx hb hts inW_X0 hown hK hP 21 rfl rfl 6 (by decide) (hts _ wm146) (fun _ h9 => h9) rfl dX0_twoAreAlike_16 ?_
      refine lv_icmp_ge (tgt := 47) hx hb dX0_twoAreAlike_19 (by decide) (fun c_2 => ?_) (fun c_2 => ?_)
      · rw [if_pos c_2] at hm
        refine lv_iinc (v := (v1 + 1)) (lv' := [(1, .int (v1 + 1)), (0, .ref (a.1 21)), (2, .int v2)]) hx hb dX0_twoAreAlike_47 hl (k := 1) rfl rfl (by decide) rfl (fun ls hl => ?_)
        refine lv_goto (tgt := 2) hx hb dX0_twoAreAlike_50 (by decide) ?_
        refine W.widen (k := 0) (n := 0) (Nat.le_of_ble_eq_true rfl) (Nat.le_of_ble_eq_true rfl) ?_
        exact ih.1  (v1 + 1)  _ _ hP hD hS _ (lv_sub hl [1, 0] rfl) hm
      · rw [if_neg c_2] at hm
        refine lv_aload_n hx hb dX0_twoAreAlike_22 rfl (lv_at hl 0 rfl) ?_
        refine lv_aload_n hx hb dX0_twoAreAlike_23 rfl (lv_at hl 0 rfl) ?_
        refine lv_iload_n hx hb dX0_twoAreAlike_24 rfl (lv_at hl 1 rfl) ?_
        obtain ⟨q_3, hq_3, hm⟩ := bind_some hm
        have hFc := free_all hD hS hA
        refine va_callq (va_runV (As := [.int v1]) (rest := [.ref (a.1 21)]) ⟨hx, hb, hml, hown, hts⟩ (k_X0_goal l hfl G a T F U S D R M N P hlk v1  q_3 hq_3 H.size) (cwV 1 hts (gV wm621 wm605 wm606 wm5 wm607) rfl rfl rfl (by decide +kernel) ⟨Nat.le_of_ble_eq_true rfl, Nat.le_of_ble_eq_true rfl⟩) (pre_v (pre_w hK hP hD hS hE hFc) (va_recv hK hP (ci := 0) (q0 := 21) rfl rfl)) rfl rfl hl.1 rfl (lv_room (Nat.le_of_ble_eq_true rfl)) dX0_twoAreAlike_25 ⟨Nat.le_of_ble_eq_true rfl, Nat.le_of_ble_eq_true rfl⟩) hS (fun q _ h => hFc q h) hFc (fun r u t H locs ht hvm hw hB hz1 hk1 hS => ?_)
        rw [show r = rfG a q_3 from hw]
        have hP : va_P (DG G) clP3 (wC G a T F U S D R M N P) H := by rw [← ht]; exact hB.1
        have hD : va_D A (wC G a T F U S D R M N P) := hB.2.weaken (fun _ p _ h => hFc p.1 h)
        clear hB hFc hw hk1
        refine W.widen (k := 0) (n := 0) (Nat.le_of_ble_eq_true rfl) (Nat.le_of_ble_eq_true rfl) ?_
        by_cases c_4 : q_3 < 0
        · rw [if_pos c_4] at hm
          rw [show rfG a q_3 = none from if_pos c_4]
          refine W.eq (g2 := F0 m 28 ls [.null, .ref (a.1 21)]) rfl ?_
          refine lv_aload_n hx hb dX0_twoAreAlike_28 rfl (lv_at hl 0 rfl) ?_
          refine lv_iload_n hx hb dX0_twoAreAlike_29 rfl (lv_at hl 2 rfl) ?_
          obtain ⟨q_5, hq_5, hm⟩ := bind_some hm
          have hFc := free_all hD hS hA
          refine va_callq (va_runV (As := [.int v2]) (rest := [.null, .ref (a.1 21)]) ⟨hx, hb, hml, hown, hts⟩ (k_X0_goal l hfl G a T F U S D R M N P hlk v2  q_5 hq_5 H.size) (cwV 1 hts (gV wm621 wm605 wm606 wm5 wm607) rfl rfl rfl (by decide +kernel) ⟨Nat.le_of_ble_eq_true rfl, Nat.le_of_ble_eq_true rfl⟩) (pre_v (pre_w hK hP hD hS hE hFc) (va_recv hK hP (ci := 0) (q0 := 21) rfl rfl)) rfl rfl hl.1 rfl (lv_room (Nat.le_of_ble_eq_true rfl)) dX0_twoAreAlike_30 ⟨Nat.le_of_ble_eq_true rfl, Nat.le_of_ble_eq_true rfl⟩) hS (fun q _ h => hFc q h) hFc (fun r u t H locs ht hvm hw hB hz1 hk1 hS => ?_)
          rw [show r = rfG a q_5 from hw]
          have hP : va_P (DG G) clP3 (wC G a T F U S D R M N P) H := by rw [← ht]; exact hB.1
          have hD : va_D A (wC G a T F U S D R M N P) := hB.2.weaken (fun _ p _ h => hFc p.1 h)
          clear hB hFc hw hk1
          refine W.widen (k := 0) (n := 0) (Nat.le_of_ble_eq_true rfl) (Nat.le_of_ble_eq_true rfl) ?_
          by_cases c_6 : q_5 < 0
          · rw [if_pos c_6] at hm
            rw [show rfG a q_5 = none from if_pos c_6]
            refine W.eq (g2 := F0 m 33 ls [.null, .null, .ref (a.1 21)]) rfl ?_
            cases hm
          · rw [if_neg c_6] at hm
            obtain ⟨g_7, hm⟩ := ite_some hm
            rw [show rfG a q_5 = some _ from if_neg c_6]
            refine W.eq (g2 := F0 m 33 ls [.ref (a.2.2.1 (Int32.toNatClampNeg q_5) 0), .null, .ref (a.1 21)]) rfl ?_
            cases hm
        · rw [if_neg c_4] at hm
          obtain ⟨g_8, hm⟩ := ite_some hm
          rw [show rfG a q_3 = some _ from if_neg c_4]
          refine W.eq (g2 := F0 m 28 ls [.ref (a.2.2.1 (Int32.toNatClampNeg q_3) 0), .ref (a.1 21)]) rfl ?_
          refine lv_aload_n hx hb dX0_twoAreAlike_28 rfl (lv_at hl 0 rfl) ?_
          refine lv_iload_n hx hb dX0_twoAreAlike_29 rfl (lv_at hl 2 rfl) ?_
          obtain ⟨q_9, hq_9, hm⟩ := bind_some hm
          have hFc := free_all hD hS hA
          refine va_callq (va_runV (As := [.int v2]) (rest := [.ref (a.2.2.1 (Int32.toNatClampNeg q_3) 0), .ref (a.1 21)]) ⟨hx, hb, hml, hown, hts⟩ (k_X0_goal l hfl G a T F U S D R M N P hlk v2  q_9 hq_9 H.size) (cwV 1 hts (gV wm621 wm605 wm606 wm5 wm607) rfl rfl rfl (by decide +kernel) ⟨Nat.le_of_ble_eq_true rfl, Nat.le_of_ble_eq_true rfl⟩) (pre_v (pre_w hK hP hD hS hE hFc) (va_recv hK hP (ci := 0) (q0 := 21) rfl rfl)) rfl rfl hl.1 rfl (lv_room (Nat.le_of_ble_eq_true rfl)) dX0_twoAreAlike_30 ⟨Nat.le_of_ble_eq_true rfl, Nat.le_of_ble_eq_true rfl⟩) hS (fun q _ h => hFc q h) hFc (fun r u t H locs ht hvm hw hB hz1 hk1 hS => ?_)
          rw [show r = rfG a q_9 from hw]
          have hP : va_P (DG G) clP3 (wC G a T F U S D R M N P) H := by rw [← ht]; exact hB.1
          have hD : va_D A (wC G a T F U S D R M N P) := hB.2.weaken (fun _ p _ h => hFc p.1 h)
          clear hB hFc hw hk1
          refine W.widen (k := 0) (n := 0) (Nat.le_of_ble_eq_true rfl) (Nat.le_of_ble_eq_true rfl) ?_
          by_cases c_10 : q_9 < 0
          · rw [if_pos c_10] at hm
            rw [show rfG a q_9 = none from if_pos c_10]
            refine W.eq (g2 := F0 m 33 ls [.null, .ref (a.2.2.1 (Int32.toNatClampNeg q_3) 0), .ref (a.1 21)]) rfl ?_
            cases hm
          · rw [if_neg c_10] at hm
            obtain ⟨g_11, hm⟩ := ite_some hm
            rw [show rfG a q_9 = some _ from if_neg c_10]
            refine W.eq (g2 := F0 m 33 ls [.ref (a.2.2.1 (Int32.toNatClampNeg q_9) 0), .ref (a.2.2.1 (Int32.toNatClampNeg q_3) 0), .ref (a.1 21)]) rfl ?_
            obtain ⟨q_12, hq_12, hm⟩ := bind_some hm
            have hFc := free_all hD hS hA
            refine va_calli (va_runV (As := [.ref (a.2.2.1 (Int32.toNatClampNeg q_3) 0), .ref (a.2.2.1 (Int32.toNatClampNeg q_9) 0)]) (rest := []) ⟨hx, hb, hml, hown, hts⟩ (k_X0_areAlike l hfl G a T F U S D R M N P hlk q_3 q_9 g_8 g_11 q_12 hq_12 H.size) (cwV 2 hts (gV wm626 wm628 ws_p8 wm5 wm629) rfl rfl rfl (by decide +kernel) ⟨Nat.le_of_ble_eq_true rfl, Nat.le_of_ble_eq_true rfl⟩) (pre_v (pre_w hK hP hD hS hE hFc) (va_recv hK hP (ci := 0) (q0 := 21) rfl rfl)) rfl rfl hl.1 rfl (lv_room (Nat.le_of_ble_eq_true rfl)) dX0_twoAreAlike_33 ⟨Nat.le_of_ble_eq_true rfl, Nat.le_of_ble_eq_true rfl⟩) hS (fun q _ h => hFc q h) hFc (fun r u t H locs ht hvm hw hB hz1 hk1 hS => ?_)
            rw [show r = q_12 from hw]
            have hP : va_P (DG G) clP3 (wC G a T F U S D R M N P) H := by rw [← ht]; exact hB.1
            have hD : va_D A (wC G a T F U S D R M N P) := hB.2.weaken (fun _ p _ h => hFc p.1 h)
            clear hB hFc hw hk1
            refine W.widen (k := 0) (n := 0) (Nat.le_of_ble_eq_true rfl) (Nat.le_of_ble_eq_true rfl) ?_
            refine lv_if_eq (tgt := 41) hx hb dX0_twoAreAlike_36 (by decide) (fun c_13 => ?_) (fun c_13 => ?_)
            · rw [if_pos c_13] at hm
              refine lv_iinc (v := (v2 + 1)) (lv' := [(2, .int (v2 + 1)), (0, .ref (a.1 21)), (1, .int v1)]) hx hb dX0_twoAreAlike_41 hl (k := 2) rfl rfl (by decide) rfl (fun ls hl => ?_)
              refine lv_goto (tgt := 14) hx hb dX0_twoAreAlike_44 (by decide) ?_
              refine W.widen (k := 0) (n := 0) (Nat.le_of_ble_eq_true rfl) (Nat.le_of_ble_eq_true rfl) ?_
              exact ih.2  v1 (v2 + 1)  _ _ hP hD hS _ (lv_sub hl [1, 2, 0] rfl) hm
            · rw [if_neg c_13] at hm
              refine lv_iconst (v := 1) hx hb dX0_twoAreAlike_39 (by decide) ?_
              obtain rfl := Option.some.inj hm
              refine W.widen (k := 0) (n := 0) (Nat.le_of_ble_eq_true rfl) (Nat.le_of_ble_eq_true rfl) ?_
              exact W.zret (v := 1) (ty := .boolean) hx hb hr (by decide) (fun t ht hW => ⟨⟨1, (), rfl, rfl, ⟨by rw [ht]; exact hP, by rw [hAe]; exact hD⟩⟩, by rw [hAe]; exact hS.F ht⟩) (by rw [hAe]; exact hS.2.2) dX0_twoAreAlike_40 hlocks
set_option maxHeartbeats 2000000 in
set_option maxRecDepth 100000 in
theorem k_X0_twoAreAlike (l : Launch) (hfl : l.stackTraces = false) (G : GC) (a : AS) (T : TS) (F : FS) (U : US) (S : SS) (D : DS) (R : RS) (M : MS) (N : NS) (P : PS) (hlk : lkA a D.1.toNatClampNeg D.2.1.toNatClampNeg)  (r9 : Int32) (hm : f_X0_twoAreAlike T D P = some r9) (sz : Nat) : Met l yX0_twoAreAlike (Cond.code yX0_twoAreAlike cX0_twoAreAlike 3 (some .boolean) :: W0) ({ frames := 203, cells := 0, slots := 0, locals := 4868 }) (va_Pc [.ref (a.1 21)] (WD G (wC G a T F U S D R M N P) sz)) (va_Qi (fun (r : Int32) (_ : Unit) => r = r9) (fun _ t => PW G (va_A (wC G a T F U S D R M N P) sz) (wC G a T F U S D R M N P) t) (va_A (wC G a T F U S D R M N P) sz)) 0 0 (va_A (wC G a T F U S D R M N P) sz) := by
  rw [f_X0_twoAreAlike] at hm
  refine Met.ofW (cc := cX0_twoAreAlike) (maxL := 3) (ret := (some .boolean)) (by decide) rfl ?_
  intro p e s m args below meth c s₁ B hml hv
  obtain ⟨rfl, hsz, hP, hK, hD0, hE⟩ := hv
  have hx := B.exec
  have hb := B.bytes
  have hr := B.returns
  have hts := w0_tail B.pre
  have hown : s.vm.findClass RX0 = some m.cls := findClass_of_methodNamed B.named
  have hlocks := B.notSynchronized
  have hD := hD0.self (sz := sz)
  obtain ⟨A, hAe⟩ : ∃ A, (va_A (wC G a T F U S D R M N P) sz) = A := ⟨_, rfl⟩
  rw [hAe] at hD hE
  have hA : ∀ q : Nat, s.heap.size ≤ q → A q := fun q h => by rw [← hAe]; exact Or.inr (by rw [← hsz]; exact h)
  have hS : va_S A s.heap s.heap [] := va_S.rf
  obtain ⟨H, hHe⟩ : ∃ H : Heap, H = s.heap := ⟨_, rfl⟩
  have hP : va_P (DG G) clP3 (wC G a T F U S D R M N P) H := by rw [hHe]; exact hP
  have hS : va_S A s.heap H [] := by rw [hHe]; exact hS
  have hl := lv_entry ([.ref (a.1 21)]) (n := 3) (Nat.le_of_ble_eq_true rfl)
  rw [lg_entry_eq, ← hHe]
  generalize (lg_sl ([.ref (a.1 21)]) ++ List.replicate (3 - (lg_sl ([.ref (a.1 21)])).length) Slot.unset).toArray = ls at hl ⊢
  have hl : lv_has ls 3 [(0, .ref (a.1 21))] := hl
  refine lv_iconst (v := 0) hx hb dX0_twoAreAlike_0 (by decide) ?_
  refine lv_istore_n (lv' := [(1, .int 0), (0, .ref (a.1 21))]) hx hb dX0_twoAreAlike_1 rfl hl (by decide) rfl (fun ls hl => ?_)
  refine W.widen (k := 0) (n := 0) (Nat.le_of_ble_eq_true rfl) (Nat.le_of_ble_eq_true rfl) ?_
  exact (kl_X0_twoAreAlike hfl hx hb hr hml hown hts hlocks hlk hAe hA hE hK r9 100000).1  0  _ _ hP hD hS _ (lv_sub hl [1, 0] rfl) hm
