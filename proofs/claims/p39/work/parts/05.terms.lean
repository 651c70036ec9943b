def f_X9_kindOf  (mm : Int32) (tf0 : Nat → Int32) (p1 : Int32) : Option (Int32) := (if p1 < 0 then some (-1) else (if mm ≤ p1 then some (-1) else (if inb p1 32768 = true then some ((tf0 (Int32.toNatClampNeg p1))) else none)))
set_option maxHeartbeats 4000000 in
set_option maxRecDepth 100000 in
theorem k_X9_kindOf (l : Launch) (hfl : l.stackTraces = false) (G : GC) (t1 : Nat) (p1 : Int32) (ta0 : Nat) (ta1 : Nat) (ta2 : Nat) (ta3 : Nat) (ta4 : Nat) (ta5 : Nat) (ta6 : Nat) (ta7 : Nat) (ta8 : Nat) (mm : Int32) (tf0 : Nat → Int32) (r9 : Int32) (hm : f_X9_kindOf mm tf0 p1 = some r9) (sz : Nat) : Met l yX9_kindOf (Cond.code yX9_kindOf cX9_kindOf 2 (some .int) :: W0) ({ frames := 0, cells := 0, slots := 0, locals := 0 }) (va_Pc [.ref t1, .int p1] (WD G [(t1, .inr (8, [.ref ta0, .ref ta1, .ref ta2, .ref ta3, .ref ta4, .ref ta5, .ref ta6, .ref ta7, .ref ta8, .int mm])), (ta0, .inl (cyA G 0, 32768, .inl (tf0)))] sz)) (va_Qi (fun (r : Int32) (_ : Unit) => r = r9) (fun _ t => PW G (va_A [(t1, .inr (8, [.ref ta0, .ref ta1, .ref ta2, .ref ta3, .ref ta4, .ref ta5, .ref ta6, .ref ta7, .ref ta8, .int mm])), (ta0, .inl (cyA G 0, 32768, .inl (tf0)))] sz) [(t1, .inr (8, [.ref ta0, .ref ta1, .ref ta2, .ref ta3, .ref ta4, .ref ta5, .ref ta6, .ref ta7, .ref ta8, .int mm])), (ta0, .inl (cyA G 0, 32768, .inl (tf0)))] t) (va_A [(t1, .inr (8, [.ref ta0, .ref ta1, .ref ta2, .ref ta3, .ref ta4, .ref ta5, .ref ta6, .ref ta7, .ref ta8, .int mm])), (ta0, .inl (cyA G 0, 32768, .inl (tf0)))] sz)) 0 0 (va_A [(t1, .inr (8, [.ref ta0, .ref ta1, .ref ta2, .ref ta3, .ref ta4, .ref ta5, .ref ta6, .ref ta7, .ref ta8, .int mm])), (ta0, .inl (cyA G 0, 32768, .inl (tf0)))] sz) := by
  rw [f_X9_kindOf] at hm
  refine Met.ofW (cc := cX9_kindOf) (maxL := 2) (ret := (some .int)) (by decide) rfl ?_
  intro p e s m args below meth c s₁ B hml hv
  obtain ⟨rfl, hsz, hP, hK, hD0, hE⟩ := hv
  have hx := B.exec
  have hb := B.bytes
  have hr := B.returns
  have hts := w0_tail B.pre
  have hown : s.vm.findClass RX9 = some m.cls := findClass_of_methodNamed B.named
  have hlocks := B.notSynchronized
  subst hsz
  have hD := hD0.self (sz := s.heap.size)
  generalize hAe : va_A [(t1, .inr (8, [.ref ta0, .ref ta1, .ref ta2, .ref ta3, .ref ta4, .ref ta5, .ref ta6, .ref ta7, .ref ta8, .int mm])), (ta0, .inl (cyA G 0, 32768, .inl (tf0)))] s.heap.size = A at hD hE ⊢
  have hA : ∀ q : Nat, s.heap.size ≤ q → A q := fun q h => by rw [← hAe]; exact Or.inr h
  have hS : va_S A s.heap s.heap [] := va_S.rf
  obtain ⟨H, hHe⟩ : ∃ H : Heap, H = s.heap := ⟨_, rfl⟩
  have hP : va_P (DG G) clP3 [(t1, .inr (8, [.ref ta0, .ref ta1, .ref ta2, .ref ta3, .ref ta4, .ref ta5, .ref ta6, .ref ta7, .ref ta8, .int mm])), (ta0, .inl (cyA G 0, 32768, .inl (tf0)))] H := by rw [hHe]; exact hP
  have hS : va_S A s.heap H [] := by rw [hHe]; exact hS
  have hl := lv_entry ([.ref t1, .int p1]) (n := 2) (Nat.le_of_ble_eq_true rfl)
  rw [lg_entry_eq, ← hHe]
  generalize (lg_sl ([.ref t1, .int p1]) ++ List.replicate (2 - (lg_sl ([.ref t1, .int p1])).length) Slot.unset).toArray = ls at hl ⊢
  have hl : lv_has ls 2 [(0, .ref t1), (1, .int p1)] := hl
  refine lv_iload_n hx hb dX9_kindOf_0 rfl (lv_at hl 1 rfl) ?_
  refine lv_if_lt (tgt := 21) hx hb dX9_kindOf_1 (by decide) (fun c_1 => ?_) (fun c_1 => ?_)
  · rw [if_pos c_1] at hm
    refine lv_iconst (v := (-1)) hx hb dX9_kindOf_21 (by decide) ?_
    obtain rfl := Option.some.inj hm
    have hP9 := hP.sub (ws' := [(t1, .inr (8, [.ref ta0, .ref ta1, .ref ta2, .ref ta3, .ref ta4, .ref ta5, .ref ta6, .ref ta7, .ref ta8, .int mm])), (ta0, .inl (cyA G 0, 32768, .inl (tf0)))]) [0, 1] rfl
    have hD9 := hD.sub (ws' := [(t1, .inr (8, [.ref ta0, .ref ta1, .ref ta2, .ref ta3, .ref ta4, .ref ta5, .ref ta6, .ref ta7, .ref ta8, .int mm])), (ta0, .inl (cyA G 0, 32768, .inl (tf0)))]) [0, 1] (by decide) rfl
    refine W.widen (k := 0) (n := 0) (Nat.le_of_ble_eq_true rfl) (Nat.le_of_ble_eq_true rfl) ?_
    exact W.iret (v := (-1)) hx hb hr (fun t ht hW => ⟨⟨(-1), (), rfl, rfl, ⟨by rw [ht]; exact hP9, hD9⟩⟩, hS.F ht⟩) hS.2.2 dX9_kindOf_22 hlocks
  · rw [if_neg c_1] at hm
    refine lv_iload_n hx hb dX9_kindOf_4 rfl (lv_at hl 1 rfl) ?_
    refine lv_aload_n hx hb dX9_kindOf_5 rfl (lv_at hl 0 rfl) ?_
    refine va_get (D := DG G) (ci := 8) (v := .int mm) (C := RX9) (T := TX9) (N := 10) hx hb hts inW_X9 hown hK hP 0 rfl rfl 9 (by decide) (hts _ wm49) (fun _ h9 => h9) rfl dX9_kindOf_6 ?_
    refine lv_icmp_ge (tgt := 21) hx hb dX9_kindOf_9 (by decide) (fun c_2 => ?_) (fun c_2 => ?_)
    · rw [if_pos c_2] at hm
      refine lv_iconst (v := (-1)) hx hb dX9_kindOf_21 (by decide) ?_
      obtain rfl := Option.some.inj hm
      have hP9 := hP.sub (ws' := [(t1, .inr (8, [.ref ta0, .ref ta1, .ref ta2, .ref ta3, .ref ta4, .ref ta5, .ref ta6, .ref ta7, .ref ta8, .int mm])), (ta0, .inl (cyA G 0, 32768, .inl (tf0)))]) [0, 1] rfl
      have hD9 := hD.sub (ws' := [(t1, .inr (8, [.ref ta0, .ref ta1, .ref ta2, .ref ta3, .ref ta4, .ref ta5, .ref ta6, .ref ta7, .ref ta8, .int mm])), (ta0, .inl (cyA G 0, 32768, .inl (tf0)))]) [0, 1] (by decide) rfl
      refine W.widen (k := 0) (n := 0) (Nat.le_of_ble_eq_true rfl) (Nat.le_of_ble_eq_true rfl) ?_
      exact W.iret (v := (-1)) hx hb hr (fun t ht hW => ⟨⟨(-1), (), rfl, rfl, ⟨by rw [ht]; exact hP9, hD9⟩⟩, hS.F ht⟩) hS.2.2 dX9_kindOf_22 hlocks
    · rw [if_neg c_2] at hm
      refine lv_aload_n hx hb dX9_kindOf_12 rfl (lv_at hl 0 rfl) ?_
      refine va_get (D := DG G) (ci := 8) (v := .ref ta0) (C := RX9) (T := TX9) (N := 10) hx hb hts inW_X9 hown hK hP 0 rfl rfl 0 (by decide) (hts _ wm40) (fun _ h9 => h9) rfl dX9_kindOf_13 ?_
      refine lv_iload_n hx hb dX9_kindOf_16 rfl (lv_at hl 1 rfl) ?_
      obtain ⟨b_3, hm⟩ := ite_some hm
      refine va_iald hx hb hK hP 1 0 rfl rfl (inb_vp b_3) dX9_kindOf_17 ?_
      refine lv_goto (tgt := 22) hx hb dX9_kindOf_18 (by decide) ?_
      obtain rfl := Option.some.inj hm
      have hP9 := hP.sub (ws' := [(t1, .inr (8, [.ref ta0, .ref ta1, .ref ta2, .ref ta3, .ref ta4, .ref ta5, .ref ta6, .ref ta7, .ref ta8, .int mm])), (ta0, .inl (cyA G 0, 32768, .inl (tf0)))]) [0, 1] rfl
      have hD9 := hD.sub (ws' := [(t1, .inr (8, [.ref ta0, .ref ta1, .ref ta2, .ref ta3, .ref ta4, .ref ta5, .ref ta6, .ref ta7, .ref ta8, .int mm])), (ta0, .inl (cyA G 0, 32768, .inl (tf0)))]) [0, 1] (by decide) rfl
      refine W.widen (k := 0) (n := 0) (Nat.le_of_ble_eq_true rfl) (Nat.le_of_ble_eq_true rfl) ?_
      exact W.iret (v := (tf0 (Int32.toNatClampNeg p1))) hx hb hr (fun t ht hW => ⟨⟨(tf0 (Int32.toNatClampNeg p1)), (), rfl, rfl, ⟨by rw [ht]; exact hP9, hD9⟩⟩, hS.F ht⟩) hS.2.2 dX9_kindOf_22 hlocks
def f_X9_firstOf  (mm : Int32) (tf1 : Nat → Int32) (p1 : Int32) : Option (Int32) := (if p1 < 0 then some (-1) else (if mm ≤ p1 then some (-1) else (if inb p1 32768 = true then some ((tf1 (Int32.toNatClampNeg p1))) else none)))
set_option maxHeartbeats 4000000 in
set_option maxRecDepth 100000 in
theorem k_X9_firstOf (l : Launch) (hfl : l.stackTraces = false) (G : GC) (t1 : Nat) (p1 : Int32) (ta0 : Nat) (ta1 : Nat) (ta2 : Nat) (ta3 : Nat) (ta4 : Nat) (ta5 : Nat) (ta6 : Nat) (ta7 : Nat) (ta8 : Nat) (mm : Int32) (tf1 : Nat → Int32) (r9 : Int32) (hm : f_X9_firstOf mm tf1 p1 = some r9) (sz : Nat) : Met l yX9_firstOf (Cond.code yX9_firstOf cX9_firstOf 2 (some .int) :: W0) ({ frames := 0, cells := 0, slots := 0, locals := 0 }) (va_Pc [.ref t1, .int p1] (WD G [(t1, .inr (8, [.ref ta0, .ref ta1, .ref ta2, .ref ta3, .ref ta4, .ref ta5, .ref ta6, .ref ta7, .ref ta8, .int mm])), (ta1, .inl (cyA G 0, 32768, .inl (tf1)))] sz)) (va_Qi (fun (r : Int32) (_ : Unit) => r = r9) (fun _ t => PW G (va_A [(t1, .inr (8, [.ref ta0, .ref ta1, .ref ta2, .ref ta3, .ref ta4, .ref ta5, .ref ta6, .ref ta7, .ref ta8, .int mm])), (ta1, .inl (cyA G 0, 32768, .inl (tf1)))] sz) [(t1, .inr (8, [.ref ta0, .ref ta1, .ref ta2, .ref ta3, .ref ta4, .ref ta5, .ref ta6, .ref ta7, .ref ta8, .int mm])), (ta1, .inl (cyA G 0, 32768, .inl (tf1)))] t) (va_A [(t1, .inr (8, [.ref ta0, .ref ta1, .ref ta2, .ref ta3, .ref ta4, .ref ta5, .ref ta6, .ref ta7, .ref ta8, .int mm])), (ta1, .inl (cyA G 0, 32768, .inl (tf1)))] sz)) 0 0 (va_A [(t1, .inr (8, [.ref ta0, .ref ta1, .ref ta2, .ref ta3, .ref ta4, .ref ta5, .ref ta6, .ref ta7, .ref ta8, .int mm])), (ta1, .inl (cyA G 0, 32768, .inl (tf1)))] sz) := by
  rw [f_X9_firstOf] at hm
  refine Met.ofW (cc := cX9_firstOf) (maxL := 2) (ret := (some .int)) (by decide) rfl ?_
  intro p e s m args below meth c s₁ B hml hv
  obtain ⟨rfl, hsz, hP, hK, hD0, hE⟩ := hv
  have hx := B.exec
  have hb := B.bytes
  have hr := B.returns
  have hts := w0_tail B.pre
  have hown : s.vm.findClass RX9 = some m.cls := findClass_of_methodNamed B.named
  have hlocks := B.notSynchronized
  subst hsz
  have hD := hD0.self (sz := s.heap.size)
  generalize hAe : va_A [(t1, .inr (8, [.ref ta0, .ref ta1, .ref ta2, .ref ta3, .ref ta4, .ref ta5, .ref ta6, .ref ta7, .ref ta8, .int mm])), (ta1, .inl (cyA G 0, 32768, .inl (tf1)))] s.heap.size = A at hD hE ⊢
  have hA : ∀ q : Nat, s.heap.size ≤ q → A q := fun q h => by rw [← hAe]; exact Or.inr h
  have hS : va_S A s.heap s.heap [] := va_S.rf
  obtain ⟨H, hHe⟩ : ∃ H : Heap, H = s.heap := ⟨_, rfl⟩
  have hP : va_P (DG G) clP3 [(t1, .inr (8, [.ref ta0, .ref ta1, .ref ta2, .ref ta3, .ref ta4, .ref ta5, .ref ta6, .ref ta7, .ref ta8, .int mm])), (ta1, .inl (cyA G 0, 32768, .inl (tf1)))] H := by rw [hHe]; exact hP
  have hS : va_S A s.heap H [] := by rw [hHe]; exact hS
  have hl := lv_entry ([.ref t1, .int p1]) (n := 2) (Nat.le_of_ble_eq_true rfl)
  rw [lg_entry_eq, ← hHe]
  generalize (lg_sl ([.ref t1, .int p1]) ++ List.replicate (2 - (lg_sl ([.ref t1, .int p1])).length) Slot.unset).toArray = ls at hl ⊢
  have hl : lv_has ls 2 [(0, .ref t1), (1, .int p1)] := hl
  refine lv_iload_n hx hb dX9_firstOf_0 rfl (lv_at hl 1 rfl) ?_
  refine lv_if_lt (tgt := 21) hx hb dX9_firstOf_1 (by decide) (fun c_1 => ?_) (fun c_1 => ?_)
  · rw [if_pos c_1] at hm
    refine lv_iconst (v := (-1)) hx hb dX9_firstOf_21 (by decide) ?_
    obtain rfl := Option.some.inj hm
    have hP9 := hP.sub (ws' := [(t1, .inr (8, [.ref ta0, .ref ta1, .ref ta2, .ref ta3, .ref ta4, .ref ta5, .ref ta6, .ref ta7, .ref ta8, .int mm])), (ta1, .inl (cyA G 0, 32768, .inl (tf1)))]) [0, 1] rfl
    have hD9 := hD.sub (ws' := [(t1, .inr (8, [.ref ta0, .ref ta1, .ref ta2, .ref ta3, .ref ta4, .ref ta5, .ref ta6, .ref ta7, .ref ta8, .int mm])), (ta1, .inl (cyA G 0, 32768, .inl (tf1)))]) [0, 1] (by decide) rfl
    refine W.widen (k := 0) (n := 0) (Nat.le_of_ble_eq_true rfl) (Nat.le_of_ble_eq_true rfl) ?_
    exact W.iret (v := (-1)) hx hb hr (fun t ht hW => ⟨⟨(-1), (), rfl, rfl, ⟨by rw [ht]; exact hP9, hD9⟩⟩, hS.F ht⟩) hS.2.2 dX9_firstOf_22 hlocks
  · rw [if_neg c_1] at hm
    refine lv_iload_n hx hb dX9_firstOf_4 rfl (lv_at hl 1 rfl) ?_
    refine lv_aload_n hx hb dX9_firstOf_5 rfl (lv_at hl 0 rfl) ?_
    refine va_get (D := DG G) (ci := 8) (v := .int mm) (C := RX9) (T := TX9) (N := 10) hx hb hts inW_X9 hown hK hP 0 rfl rfl 9 (by decide) (hts _ wm49) (fun _ h9 => h9) rfl dX9_firstOf_6 ?_
    refine lv_icmp_ge (tgt := 21) hx hb dX9_firstOf_9 (by decide) (fun c_2 => ?_) (fun c_2 => ?_)
    · rw [if_pos c_2] at hm
      refine lv_iconst (v := (-1)) hx hb dX9_firstOf_21 (by decide) ?_
      obtain rfl := Option.some.inj hm
      have hP9 := hP.sub (ws' := [(t1, .inr (8, [.ref ta0, .ref ta1, .ref ta2, .ref ta3, .ref ta4, .ref ta5, .ref ta6, .ref ta7, .ref ta8, .int mm])), (ta1, .inl (cyA G 0, 32768, .inl (tf1)))]) [0, 1] rfl
      have hD9 := hD.sub (ws' := [(t1, .inr (8, [.ref ta0, .ref ta1, .ref ta2, .ref ta3, .ref ta4, .ref ta5, .ref ta6, .ref ta7, .ref ta8, .int mm])), (ta1, .inl (cyA G 0, 32768, .inl (tf1)))]) [0, 1] (by decide) rfl
      refine W.widen (k := 0) (n := 0) (Nat.le_of_ble_eq_true rfl) (Nat.le_of_ble_eq_true rfl) ?_
      exact W.iret (v := (-1)) hx hb hr (fun t ht hW => ⟨⟨(-1), (), rfl, rfl, ⟨by rw [ht]; exact hP9, hD9⟩⟩, hS.F ht⟩) hS.2.2 dX9_firstOf_22 hlocks
    · rw [if_neg c_2] at hm
      refine lv_aload_n hx hb dX9_firstOf_12 rfl (lv_at hl 0 rfl) ?_
      refine va_get (D := DG G) (ci := 8) (v := .ref ta1) (C := RX9) (T := TX9) (N := 10) hx hb hts inW_X9 hown hK hP 0 rfl rfl 1 (by decide) (hts _ wm41) (fun _ h9 => h9) rfl dX9_firstOf_13 ?_
      refine lv_iload_n hx hb dX9_firstOf_16 rfl (lv_at hl 1 rfl) ?_
      obtain ⟨b_3, hm⟩ := ite_some hm
      refine va_iald hx hb hK hP 1 0 rfl rfl (inb_vp b_3) dX9_firstOf_17 ?_
      refine lv_goto (tgt := 22) hx hb dX9_firstOf_18 (by decide) ?_
      obtain rfl := Option.some.inj hm
      have hP9 := hP.sub (ws' := [(t1, .inr (8, [.ref ta0, .ref ta1, .ref ta2, .ref ta3, .ref ta4, .ref ta5, .ref ta6, .ref ta7, .ref ta8, .int mm])), (ta1, .inl (cyA G 0, 32768, .inl (tf1)))]) [0, 1] rfl
      have hD9 := hD.sub (ws' := [(t1, .inr (8, [.ref ta0, .ref ta1, .ref ta2, .ref ta3, .ref ta4, .ref ta5, .ref ta6, .ref ta7, .ref ta8, .int mm])), (ta1, .inl (cyA G 0, 32768, .inl (tf1)))]) [0, 1] (by decide) rfl
      refine W.widen (k := 0) (n := 0) (Nat.le_of_ble_eq_true rfl) (Nat.le_of_ble_eq_true rfl) ?_
      exact W.iret (v := (tf1 (Int32.toNatClampNeg p1))) hx hb hr (fun t ht hW => ⟨⟨(tf1 (Int32.toNatClampNeg p1)), (), rfl, rfl, ⟨by rw [ht]; exact hP9, hD9⟩⟩, hS.F ht⟩) hS.2.2 dX9_firstOf_22 hlocks
def f_X9_secondOf  (mm : Int32) (tf2 : Nat → Int32) (p1 : Int32) : Option (Int32) := (if p1 < 0 then some (-1) else (if mm ≤ p1 then some (-1) else (if inb p1 32768 = true then some ((tf2 (Int32.toNatClampNeg p1))) else none)))
set_option maxHeartbeats 4000000 in
set_option maxRecDepth 100000 in
theorem k_X9_secondOf (l : Launch) (hfl : l.stackTraces = false) (G : GC) (t1 : Nat) (p1 : Int32) (ta0 : Nat) (ta1 : Nat) (ta2 : Nat) (ta3 : Nat) (ta4 : Nat) (ta5 : Nat) (ta6 : Nat) (ta7 : Nat) (ta8 : Nat) (mm : Int32) (tf2 : Nat → Int32) (r9 : Int32) (hm : f_X9_secondOf mm tf2 p1 = some r9) (sz : Nat) : Met l yX9_secondOf (Cond.code yX9_secondOf cX9_secondOf 2 (some .int) :: W0) ({ frames := 0, cells := 0, slots := 0, locals := 0 }) (va_Pc [.ref t1, .int p1] (WD G [(t1, .inr (8, [.ref ta0, .ref ta1, .ref ta2, .ref ta3, .ref ta4, .ref ta5, .ref ta6, .ref ta7, .ref ta8, .int mm])), (ta2, .inl (cyA G 0, 32768, .inl (tf2)))] sz)) (va_Qi (fun (r : Int32) (_ : Unit) => r = r9) (fun _ t => PW G (va_A [(t1, .inr (8, [.ref ta0, .ref ta1, .ref ta2, .ref ta3, .ref ta4, .ref ta5, .ref ta6, .ref ta7, .ref ta8, .int mm])), (ta2, .inl (cyA G 0, 32768, .inl (tf2)))] sz) [(t1, .inr (8, [.ref ta0, .ref ta1, .ref ta2, .ref ta3, .ref ta4, .ref ta5, .ref ta6, .ref ta7, .ref ta8, .int mm])), (ta2, .inl (cyA G 0, 32768, .inl (tf2)))] t) (va_A [(t1, .inr (8, [.ref ta0, .ref ta1, .ref ta2, .ref ta3, .ref ta4, .ref ta5, .ref ta6, .ref ta7, .ref ta8, .int mm])), (ta2, .inl (cyA G 0, 32768, .inl (tf2)))] sz)) 0 0 (va_A [(t1, .inr (8, [.ref ta0, .ref ta1, .ref ta2, .ref ta3, .ref ta4, .ref ta5, .ref ta6, .ref ta7, .ref ta8, .int mm])), (ta2, .inl (cyA G 0, 32768, .inl (tf2)))] sz) := by
  rw [f_X9_secondOf] at hm
  refine Met.ofW (cc := cX9_secondOf) (maxL := 2) (ret := (some .int)) (by decide) rfl ?_
  intro p e s m args below meth c s₁ B hml hv
  obtain ⟨rfl, hsz, hP, hK, hD0, hE⟩ := hv
  have hx := B.exec
  have hb := B.bytes
  have hr := B.returns
  have hts := w0_tail B.pre
  have hown : s.vm.findClass RX9 = some m.cls := findClass_of_methodNamed B.named
  have hlocks := B.notSynchronized
  subst hsz
  have hD := hD0.self (sz := s.heap.size)
  generalize hAe : va_A [(t1, .inr (8, [.ref ta0, .ref ta1, .ref ta2, .ref ta3, .ref ta4, .ref ta5, .ref ta6, .ref ta7, .ref ta8, .int mm])), (ta2, .inl (cyA G 0, 32768, .inl (tf2)))] s.heap.size = A at hD hE ⊢
  have hA : ∀ q : Nat, s.heap.size ≤ q → A q := fun q h => by rw [← hAe]; exact Or.inr h
  have hS : va_S A s.heap s.heap [] := va_S.rf
  obtain ⟨H, hHe⟩ : ∃ H : Heap, H = s.heap := ⟨_, rfl⟩
  have hP : va_P (DG G) clP3 [(t1, .inr (8, [.ref ta0, .ref ta1, .ref ta2, .ref ta3, .ref ta4, .ref ta5, .ref ta6, .ref ta7, .ref ta8, .int mm])), (ta2, .inl (cyA G 0, 32768, .inl (tf2)))] H := by rw [hHe]; exact hP
  have hS : va_S A s.heap H [] := by rw [hHe]; exact hS
  have hl := lv_entry ([.ref t1, .int p1]) (n := 2) (Nat.le_of_ble_eq_true rfl)
  rw [lg_entry_eq, ← hHe]
  generalize (lg_sl ([.ref t1, .int p1]) ++ List.replicate (2 - (lg_sl ([.ref t1, .int p1])).length) Slot.unset).toArray = ls at hl ⊢
  have hl : lv_has ls 2 [(0, .ref t1), (1, .int p1)] := hl
  refine lv_iload_n hx hb dX9_secondOf_0 rfl (lv_at hl 1 rfl) ?_
  refine lv_if_lt (tgt := 21) hx hb dX9_secondOf_1 (by decide) (fun c_1 => ?_) (fun c_1 => ?_)
  · rw [if_pos c_1] at hm
    refine lv_iconst (v := (-1)) hx hb dX9_secondOf_21 (by decide) ?_
    obtain rfl := Option.some.inj hm
    have hP9 := hP.sub (ws' := [(t1, .inr (8, [.ref ta0, .ref ta1, .ref ta2, .ref ta3, .ref ta4, .ref ta5, .ref ta6, .ref ta7, .ref ta8, .int mm])), (ta2, .inl (cyA G 0, 32768, .inl (tf2)))]) [0, 1] rfl
    have hD9 := hD.sub (ws' := [(t1, .inr (8, [.ref ta0, .ref ta1, .ref ta2, .ref ta3, .ref ta4, .ref ta5, .ref ta6, .ref ta7, .ref ta8, .int mm])), (ta2, .inl (cyA G 0, 32768, .inl (tf2)))]) [0, 1] (by decide) rfl
    refine W.widen (k := 0) (n := 0) (Nat.le_of_ble_eq_true rfl) (Nat.le_of_ble_eq_true rfl) ?_
    exact W.iret (v := (-1)) hx hb hr (fun t ht hW => ⟨⟨(-1), (), rfl, rfl, ⟨by rw [ht]; exact hP9, hD9⟩⟩, hS.F ht⟩) hS.2.2 dX9_secondOf_22 hlocks
  · rw [if_neg c_1] at hm
    refine lv_iload_n hx hb dX9_secondOf_4 rfl (lv_at hl 1 rfl) ?_
    refine lv_aload_n hx hb dX9_secondOf_5 rfl (lv_at hl 0 rfl) ?_
    refine va_get (D := DG G) (ci := 8) (v := .int mm) (C := RX9) (T := TX9) (N := 10) hx hb hts inW_X9 hown hK hP 0 rfl rfl 9 (by decide) (hts _ wm49) (fun _ h9 => h9) rfl dX9_secondOf_6 ?_
    refine lv_icmp_ge (tgt := 21) hx hb dX9_secondOf_9 (by decide) (fun c_2 => ?_) (fun c_2 => ?_)
    · rw [if_pos c_2] at hm
      refine lv_iconst (v := (-1)) hx hb dX9_secondOf_21 (by decide) ?_
      obtain rfl := Option.some.inj hm
      have hP9 := hP.sub (ws' := [(t1, .inr (8, [.ref ta0, .ref ta1, .ref ta2, .ref ta3, .ref ta4, .ref ta5, .ref ta6, .ref ta7, .ref ta8, .int mm])), (ta2, .inl (cyA G 0, 32768, .inl (tf2)))]) [0, 1] rfl
      have hD9 := hD.sub (ws' := [(t1, .inr (8, [.ref ta0, .ref ta1, .ref ta2, .ref ta3, .ref ta4, .ref ta5, .ref ta6, .ref ta7, .ref ta8, .int mm])), (ta2, .inl (cyA G 0, 32768, .inl (tf2)))]) [0, 1] (by decide) rfl
      refine W.widen (k := 0) (n := 0) (Nat.le_of_ble_eq_true rfl) (Nat.le_of_ble_eq_true rfl) ?_
      exact W.iret (v := (-1)) hx hb hr (fun t ht hW => ⟨⟨(-1), (), rfl, rfl, ⟨by rw [ht]; exact hP9, hD9⟩⟩, hS.F ht⟩) hS.2.2 dX9_secondOf_22 hlocks
    · rw [if_neg c_2] at hm
      refine lv_aload_n hx hb dX9_secondOf_12 rfl (lv_at hl 0 rfl) ?_
      refine va_get (D := DG G) (ci := 8) (v := .ref ta2) (C := RX9) (T := TX9) (N := 10) hx hb hts inW_X9 hown hK hP 0 rfl rfl 2 (by decide) (hts _ wm42) (fun _ h9 => h9) rfl dX9_secondOf_13 ?_
      refine lv_iload_n hx hb dX9_secondOf_16 rfl (lv_at hl 1 rfl) ?_
      obtain ⟨b_3, hm⟩ := ite_some hm
      refine va_iald hx hb hK hP 1 0 rfl rfl (inb_vp b_3) dX9_secondOf_17 ?_
      refine lv_goto (tgt := 22) hx hb dX9_secondOf_18 (by decide) ?_
      obtain rfl := Option.some.inj hm
      have hP9 := hP.sub (ws' := [(t1, .inr (8, [.ref ta0, .ref ta1, .ref ta2, .ref ta3, .ref ta4, .ref ta5, .ref ta6, .ref ta7, .ref ta8, .int mm])), (ta2, .inl (cyA G 0, 32768, .inl (tf2)))]) [0, 1] rfl
      have hD9 := hD.sub (ws' := [(t1, .inr (8, [.ref ta0, .ref ta1, .ref ta2, .ref ta3, .ref ta4, .ref ta5, .ref ta6, .ref ta7, .ref ta8, .int mm])), (ta2, .inl (cyA G 0, 32768, .inl (tf2)))]) [0, 1] (by decide) rfl
      refine W.widen (k := 0) (n := 0) (Nat.le_of_ble_eq_true rfl) (Nat.le_of_ble_eq_true rfl) ?_
      exact W.iret (v := (tf2 (Int32.toNatClampNeg p1))) hx hb hr (fun t ht hW => ⟨⟨(tf2 (Int32.toNatClampNeg p1)), (), rfl, rfl, ⟨by rw [ht]; exact hP9, hD9⟩⟩, hS.F ht⟩) hS.2.2 dX9_secondOf_22 hlocks
def f_X9_sizeOf  (mm : Int32) (tf3 : Nat → Int32) (p1 : Int32) : Option (Int32) := (if p1 < 0 then some (-1) else (if mm ≤ p1 then some (-1) else (if inb p1 32768 = true then some ((tf3 (Int32.toNatClampNeg p1))) else none)))
set_option maxHeartbeats 4000000 in
set_option maxRecDepth 100000 in
theorem k_X9_sizeOf (l : Launch) (hfl : l.stackTraces = false) (G : GC) (t1 : Nat) (p1 : Int32) (ta0 : Nat) (ta1 : Nat) (ta2 : Nat) (ta3 : Nat) (ta4 : Nat) (ta5 : Nat) (ta6 : Nat) (ta7 : Nat) (ta8 : Nat) (mm : Int32) (tf3 : Nat → Int32) (r9 : Int32) (hm : f_X9_sizeOf mm tf3 p1 = some r9) (sz : Nat) : Met l yX9_sizeOf (Cond.code yX9_sizeOf cX9_sizeOf 2 (some .int) :: W0) ({ frames := 0, cells := 0, slots := 0, locals := 0 }) (va_Pc [.ref t1, .int p1] (WD G [(t1, .inr (8, [.ref ta0, .ref ta1, .ref ta2, .ref ta3, .ref ta4, .ref ta5, .ref ta6, .ref ta7, .ref ta8, .int mm])), (ta3, .inl (cyA G 0, 32768, .inl (tf3)))] sz)) (va_Qi (fun (r : Int32) (_ : Unit) => r = r9) (fun _ t => PW G (va_A [(t1, .inr (8, [.ref ta0, .ref ta1, .ref ta2, .ref ta3, .ref ta4, .ref ta5, .ref ta6, .ref ta7, .ref ta8, .int mm])), (ta3, .inl (cyA G 0, 32768, .inl (tf3)))] sz) [(t1, .inr (8, [.ref ta0, .ref ta1, .ref ta2, .ref ta3, .ref ta4, .ref ta5, .ref ta6, .ref ta7, .ref ta8, .int mm])), (ta3, .inl (cyA G 0, 32768, .inl (tf3)))] t) (va_A [(t1, .inr (8, [.ref ta0, .ref ta1, .ref ta2, .ref ta3, .ref ta4, .ref ta5, .ref ta6, .ref ta7, .ref ta8, .int mm])), (ta3, .inl (cyA G 0, 32768, .inl (tf3)))] sz)) 0 0 (va_A [(t1, .inr (8, [.ref ta0, .ref ta1, .ref ta2, .ref ta3, .ref ta4, .ref ta5, .ref ta6, .ref ta7, .ref ta8, .int mm])), (ta3, .inl (cyA G 0, 32768, .inl (tf3)))] sz) := by
  rw [f_X9_sizeOf] at hm
  refine Met.ofW (cc := cX9_sizeOf) (maxL := 2) (ret := (some .int)) (by decide) rfl ?_
  intro p e s m args below meth c s₁ B hml hv
  obtain ⟨rfl, hsz, hP, hK, hD0, hE⟩ := hv
  have hx := B.exec
  have hb := B.bytes
  have hr := B.returns
  have hts := w0_tail B.pre
  have hown : s.vm.findClass RX9 = some m.cls := findClass_of_methodNamed B.named
  have hlocks := B.notSynchronized
  subst hsz
  have hD := hD0.self (sz := s.heap.size)
  generalize hAe : va_A [(t1, .inr (8, [.ref ta0, .ref ta1, .ref ta2, .ref ta3, .ref ta4, .ref ta5, .ref ta6, .ref ta7, .ref ta8, .int mm])), (ta3, .inl (cyA G 0, 32768, .inl (tf3)))] s.heap.size = A at hD hE ⊢
  have hA : ∀ q : Nat, s.heap.size ≤ q → A q := fun q h => by rw [← hAe]; exact Or.inr h
  have hS : va_S A s.heap s.heap [] := va_S.rf
  obtain ⟨H, hHe⟩ : ∃ H : Heap, H = s.heap := ⟨_, rfl⟩
  have hP : va_P (DG G) clP3 [(t1, .inr (8, [.ref ta0, .ref ta1, .ref ta2, .ref ta3, .ref ta4, .ref ta5, .ref ta6, .ref ta7, .ref ta8, .int mm])), (ta3, .inl (cyA G 0, 32768, .inl (tf3)))] H := by rw [hHe]; exact hP
  have hS : va_S A s.heap H [] := by rw [hHe]; exact hS
  have hl := lv_entry ([.ref t1, .int p1]) (n := 2) (Nat.le_of_ble_eq_true rfl)
  rw [lg_entry_eq, ← hHe]
  generalize (lg_sl ([.ref t1, .int p1]) ++ List.replicate (2 - (lg_sl ([.ref t1, .int p1])).length) Slot.unset).toArray = ls at hl ⊢
  have hl : lv_has ls 2 [(0, .ref t1), (1, .int p1)] := hl
  refine lv_iload_n hx hb dX9_sizeOf_0 rfl (lv_at hl 1 rfl) ?_
  refine lv_if_lt (tgt := 21) hx hb dX9_sizeOf_1 (by decide) (fun c_1 => ?_) (fun c_1 => ?_)
  · rw [if_pos c_1] at hm
    refine lv_iconst (v := (-1)) hx hb dX9_sizeOf_21 (by decide) ?_
    obtain rfl := Option.some.inj hm
    have hP9 := hP.sub (ws' := [(t1, .inr (8, [.ref ta0, .ref ta1, .ref ta2, .ref ta3, .ref ta4, .ref ta5, .ref ta6, .ref ta7, .ref ta8, .int mm])), (ta3, .inl (cyA G 0, 32768, .inl (tf3)))]) [0, 1] rfl
    have hD9 := hD.sub (ws' := [(t1, .inr (8, [.ref ta0, .ref ta1, .ref ta2, .ref ta3, .ref ta4, .ref ta5, .ref ta6, .ref ta7, .ref ta8, .int mm])), (ta3, .inl (cyA G 0, 32768, .inl (tf3)))]) [0, 1] (by decide) rfl
    refine W.widen (k := 0) (n := 0) (Nat.le_of_ble_eq_true rfl) (Nat.le_of_ble_eq_true rfl) ?_
    exact W.iret (v := (-1)) hx hb hr (fun t ht hW => ⟨⟨(-1), (), rfl, rfl, ⟨by rw [ht]; exact hP9, hD9⟩⟩, hS.F ht⟩) hS.2.2 dX9_sizeOf_22 hlocks
  · rw [if_neg c_1] at hm
    refine lv_iload_n hx hb dX9_sizeOf_4 rfl (lv_at hl 1 rfl) ?_
    refine lv_aload_n hx hb dX9_sizeOf_5 rfl (lv_at hl 0 rfl) ?_
    refine va_get (D := DG G) (ci := 8) (v := .int mm) (C := RX9) (T := TX9) (N := 10) hx hb hts inW_X9 hown hK hP 0 rfl rfl 9 (by decide) (hts _ wm49) (fun _ h9 => h9) rfl dX9_sizeOf_6 ?_
    refine lv_icmp_ge (tgt := 21) hx hb dX9_sizeOf_9 (by decide) (fun c_2 => ?_) (fun c_2 => ?_)
    · rw [if_pos c_2] at hm
      refine lv_iconst (v := (-1)) hx hb dX9_sizeOf_21 (by decide) ?_
      obtain rfl := Option.some.inj hm
      have hP9 := hP.sub (ws' := [(t1, .inr (8, [.ref ta0, .ref ta1, .ref ta2, .ref ta3, .ref ta4, .ref ta5, .ref ta6, .ref ta7, .ref ta8, .int mm])), (ta3, .inl (cyA G 0, 32768, .inl (tf3)))]) [0, 1] rfl
      have hD9 := hD.sub (ws' := [(t1, .inr (8, [.ref ta0, .ref ta1, .ref ta2, .ref ta3, .ref ta4, .ref ta5, .ref ta6, .ref ta7, .ref ta8, .int mm])), (ta3, .inl (cyA G 0, 32768, .inl (tf3)))]) [0, 1] (by decide) rfl
      refine W.widen (k := 0) (n := 0) (Nat.le_of_ble_eq_true rfl) (Nat.le_of_ble_eq_true rfl) ?_
      exact W.iret (v := (-1)) hx hb hr (fun t ht hW => ⟨⟨(-1), (), rfl, rfl, ⟨by rw [ht]; exact hP9, hD9⟩⟩, hS.F ht⟩) hS.2.2 dX9_sizeOf_22 hlocks
    · rw [if_neg c_2] at hm
      refine lv_aload_n hx hb dX9_sizeOf_12 rfl (lv_at hl 0 rfl) ?_
      refine va_get (D := DG G) (ci := 8) (v := .ref ta3) (C := RX9) (T := TX9) (N := 10) hx hb hts inW_X9 hown hK hP 0 rfl rfl 3 (by decide) (hts _ wm43) (fun _ h9 => h9) rfl dX9_sizeOf_13 ?_
      refine lv_iload_n hx hb dX9_sizeOf_16 rfl (lv_at hl 1 rfl) ?_
      obtain ⟨b_3, hm⟩ := ite_some hm
      refine va_iald hx hb hK hP 1 0 rfl rfl (inb_vp b_3) dX9_sizeOf_17 ?_
      refine lv_goto (tgt := 22) hx hb dX9_sizeOf_18 (by decide) ?_
      obtain rfl := Option.some.inj hm
      have hP9 := hP.sub (ws' := [(t1, .inr (8, [.ref ta0, .ref ta1, .ref ta2, .ref ta3, .ref ta4, .ref ta5, .ref ta6, .ref ta7, .ref ta8, .int mm])), (ta3, .inl (cyA G 0, 32768, .inl (tf3)))]) [0, 1] rfl
      have hD9 := hD.sub (ws' := [(t1, .inr (8, [.ref ta0, .ref ta1, .ref ta2, .ref ta3, .ref ta4, .ref ta5, .ref ta6, .ref ta7, .ref ta8, .int mm])), (ta3, .inl (cyA G 0, 32768, .inl (tf3)))]) [0, 1] (by decide) rfl
      refine W.widen (k := 0) (n := 0) (Nat.le_of_ble_eq_true rfl) (Nat.le_of_ble_eq_true rfl) ?_
      exact W.iret (v := (tf3 (Int32.toNatClampNeg p1))) hx hb hr (fun t ht hW => ⟨⟨(tf3 (Int32.toNatClampNeg p1)), (), rfl, rfl, ⟨by rw [ht]; exact hP9, hD9⟩⟩, hS.F ht⟩) hS.2.2 dX9_sizeOf_22 hlocks
def f_X9_numberOf  (mm : Int32) (tf4 : Nat → Int32) (p1 : Int32) : Option (Int32) := (if p1 < 0 then some (-1) else (if mm ≤ p1 then some (-1) else (if inb p1 32768 = true then some ((tf4 (Int32.toNatClampNeg p1))) else none)))
set_option maxHeartbeats 4000000 in
set_option maxRecDepth 100000 in
theorem k_X9_numberOf (l : Launch) (hfl : l.stackTraces = false) (G : GC) (t1 : Nat) (p1 : Int32) (ta0 : Nat) (ta1 : Nat) (ta2 : Nat) (ta3 : Nat) (ta4 : Nat) (ta5 : Nat) (ta6 : Nat) (ta7 : Nat) (ta8 : Nat) (mm : Int32) (tf4 : Nat → Int32) (r9 : Int32) (hm : f_X9_numberOf mm tf4 p1 = some r9) (sz : Nat) : Met l yX9_numberOf (Cond.code yX9_numberOf cX9_numberOf 2 (some .int) :: W0) ({ frames := 0, cells := 0, slots := 0, locals := 0 }) (va_Pc [.ref t1, .int p1] (WD G [(t1, .inr (8, [.ref ta0, .ref ta1, .ref ta2, .ref ta3, .ref ta4, .ref ta5, .ref ta6, .ref ta7, .ref ta8, .int mm])), (ta4, .inl (cyA G 0, 32768, .inl (tf4)))] sz)) (va_Qi (fun (r : Int32) (_ : Unit) => r = r9) (fun _ t => PW G (va_A [(t1, .inr (8, [.ref ta0, .ref ta1, .ref ta2, .ref ta3, .ref ta4, .ref ta5, .ref ta6, .ref ta7, .ref ta8, .int mm])), (ta4, .inl (cyA G 0, 32768, .inl (tf4)))] sz) [(t1, .inr (8, [.ref ta0, .ref ta1, .ref ta2, .ref ta3, .ref ta4, .ref ta5, .ref ta6, .ref ta7, .ref ta8, .int mm])), (ta4, .inl (cyA G 0, 32768, .inl (tf4)))] t) (va_A [(t1, .inr (8, [.ref ta0, .ref ta1, .ref ta2, .ref ta3, .ref ta4, .ref ta5, .ref ta6, .ref ta7, .ref ta8, .int mm])), (ta4, .inl (cyA G 0, 32768, .inl (tf4)))] sz)) 0 0 (va_A [(t1, .inr (8, [.ref ta0, .ref ta1, .ref ta2, .ref ta3, .ref ta4, .ref ta5, .ref ta6, .ref ta7, .ref ta8, .int mm])), (ta4, .inl (cyA G 0, 32768, .inl (tf4)))] sz) := by
  rw [f_X9_numberOf] at hm
  refine Met.ofW (cc := cX9_numberOf) (maxL := 2) (ret := (some .int)) (by decide) rfl ?_
  intro p e s m args below meth c s₁ B hml hv
  obtain ⟨rfl, hsz, hP, hK, hD0, hE⟩ := hv
  have hx := B.exec
  have hb := B.bytes
  have hr := B.returns
  have hts := w0_tail B.pre
  have hown : s.vm.findClass RX9 = some m.cls := findClass_of_methodNamed B.named
  have hlocks := B.notSynchronized
  subst hsz
  have hD := hD0.self (sz := s.heap.size)
  generalize hAe : va_A [(t1, .inr (8, [.ref ta0, .ref ta1, .ref ta2, .ref ta3, .ref ta4, .ref ta5, .ref ta6, .ref ta7, .ref ta8, .int mm])), (ta4, .inl (cyA G 0, 32768, .inl (tf4)))] s.heap.size = A at hD hE ⊢
  have hA : ∀ q : Nat, s.heap.size ≤ q → A q := fun q h => by rw [← hAe]; exact Or.inr h
  have hS : va_S A s.heap s.heap [] := va_S.rf
  obtain ⟨H, hHe⟩ : ∃ H : Heap, H = s.heap := ⟨_, rfl⟩
  have hP : va_P (DG G) clP3 [(t1, .inr (8, [.ref ta0, .ref ta1, .ref ta2, .ref ta3, .ref ta4, .ref ta5, .ref ta6, .ref ta7, .ref ta8, .int mm])), (ta4, .inl (cyA G 0, 32768, .inl (tf4)))] H := by rw [hHe]; exact hP
  have hS : va_S A s.heap H [] := by rw [hHe]; exact hS
  have hl := lv_entry ([.ref t1, .int p1]) (n := 2) (Nat.le_of_ble_eq_true rfl)
  rw [lg_entry_eq, ← hHe]
  generalize (lg_sl ([.ref t1, .int p1]) ++ List.replicate (2 - (lg_sl ([.ref t1, .int p1])).length) Slot.unset).toArray = ls at hl ⊢
  have hl : lv_has ls 2 [(0, .ref t1), (1, .int p1)] := hl
  refine lv_iload_n hx hb dX9_numberOf_0 rfl (lv_at hl 1 rfl) ?_
  refine lv_if_lt (tgt := 21) hx hb dX9_numberOf_1 (by decide) (fun c_1 => ?_) (fun c_1 => ?_)
  · rw [if_pos c_1] at hm
    refine lv_iconst (v := (-1)) hx hb dX9_numberOf_21 (by decide) ?_
    obtain rfl := Option.some.inj hm
    have hP9 := hP.sub (ws' := [(t1, .inr (8, [.ref ta0, .ref ta1, .ref ta2, .ref ta3, .ref ta4, .ref ta5, .ref ta6, .ref ta7, .ref ta8, .int mm])), (ta4, .inl (cyA G 0, 32768, .inl (tf4)))]) [0, 1] rfl
    have hD9 := hD.sub (ws' := [(t1, .inr (8, [.ref ta0, .ref ta1, .ref ta2, .ref ta3, .ref ta4, .ref ta5, .ref ta6, .ref ta7, .ref ta8, .int mm])), (ta4, .inl (cyA G 0, 32768, .inl (tf4)))]) [0, 1] (by decide) rfl
    refine W.widen (k := 0) (n := 0) (Nat.le_of_ble_eq_true rfl) (Nat.le_of_ble_eq_true rfl) ?_
    exact W.iret (v := (-1)) hx hb hr (fun t ht hW => ⟨⟨(-1), (), rfl, rfl, ⟨by rw [ht]; exact hP9, hD9⟩⟩, hS.F ht⟩) hS.2.2 dX9_numberOf_22 hlocks
  · rw [if_neg c_1] at hm
    refine lv_iload_n hx hb dX9_numberOf_4 rfl (lv_at hl 1 rfl) ?_
    refine lv_aload_n hx hb dX9_numberOf_5 rfl (lv_at hl 0 rfl) ?_
    refine va_get (D := DG G) (ci := 8) (v := .int mm) (C := RX9) (T := TX9) (N := 10) hx hb hts inW_X9 hown hK hP 0 rfl rfl 9 (by decide) (hts _ wm49) (fun _ h9 => h9) rfl dX9_numberOf_6 ?_
    refine lv_icmp_ge (tgt := 21) hx hb dX9_numberOf_9 (by decide) (fun c_2 => ?_) (fun c_2 => ?_)
    · rw [if_pos c_2] at hm
      refine lv_iconst (v := (-1)) hx hb dX9_numberOf_21 (by decide) ?_
      obtain rfl := Option.some.inj hm
      have hP9 := hP.sub (ws' := [(t1, .inr (8, [.ref ta0, .ref ta1, .ref ta2, .ref ta3, .ref ta4, .ref ta5, .ref ta6, .ref ta7, .ref ta8, .int mm])), (ta4, .inl (cyA G 0, 32768, .inl (tf4)))]) [0, 1] rfl
      have hD9 := hD.sub (ws' := [(t1, .inr (8, [.ref ta0, .ref ta1, .ref ta2, .ref ta3, .ref ta4, .ref ta5, .ref ta6, .ref ta7, .ref ta8, .int mm])), (ta4, .inl (cyA G 0, 32768, .inl (tf4)))]) [0, 1] (by decide) rfl
      refine W.widen (k := 0) (n := 0) (Nat.le_of_ble_eq_true rfl) (Nat.le_of_ble_eq_true rfl) ?_
      exact W.iret (v := (-1)) hx hb hr (fun t ht hW => ⟨⟨(-1), (), rfl, rfl, ⟨by rw [ht]; exact hP9, hD9⟩⟩, hS.F ht⟩) hS.2.2 dX9_numberOf_22 hlocks
    · rw [if_neg c_2] at hm
      refine lv_aload_n hx hb dX9_numberOf_12 rfl (lv_at hl 0 rfl) ?_
      refine va_get (D := DG G) (ci := 8) (v := .ref ta4) (C := RX9) (T := TX9) (N := 10) hx hb hts inW_X9 hown hK hP 0 rfl rfl 4 (by decide) (hts _ wm44) (fun _ h9 => h9) rfl dX9_numberOf_13 ?_
      refine lv_iload_n hx hb dX9_numberOf_16 rfl (lv_at hl 1 rfl) ?_
      obtain ⟨b_3, hm⟩ := ite_some hm
      refine va_iald hx hb hK hP 1 0 rfl rfl (inb_vp b_3) dX9_numberOf_17 ?_
      refine lv_goto (tgt := 22) hx hb dX9_numberOf_18 (by decide) ?_
      obtain rfl := Option.some.inj hm
      have hP9 := hP.sub (ws' := [(t1, .inr (8, [.ref ta0, .ref ta1, .ref ta2, .ref ta3, .ref ta4, .ref ta5, .ref ta6, .ref ta7, .ref ta8, .int mm])), (ta4, .inl (cyA G 0, 32768, .inl (tf4)))]) [0, 1] rfl
      have hD9 := hD.sub (ws' := [(t1, .inr (8, [.ref ta0, .ref ta1, .ref ta2, .ref ta3, .ref ta4, .ref ta5, .ref ta6, .ref ta7, .ref ta8, .int mm])), (ta4, .inl (cyA G 0, 32768, .inl (tf4)))]) [0, 1] (by decide) rfl
      refine W.widen (k := 0) (n := 0) (Nat.le_of_ble_eq_true rfl) (Nat.le_of_ble_eq_true rfl) ?_
      exact W.iret (v := (tf4 (Int32.toNatClampNeg p1))) hx hb hr (fun t ht hW => ⟨⟨(tf4 (Int32.toNatClampNeg p1)), (), rfl, rfl, ⟨by rw [ht]; exact hP9, hD9⟩⟩, hS.F ht⟩) hS.2.2 dX9_numberOf_22 hlocks
def f_X9_freeOf  (mm : Int32) (tf5 : Nat → Int32) (p1 : Int32) : Option (Int32) := (if p1 < 0 then some (-1) else (if mm ≤ p1 then some (-1) else (if inb p1 32768 = true then some ((tf5 (Int32.toNatClampNeg p1))) else none)))
set_option maxHeartbeats 4000000 in
set_option maxRecDepth 100000 in
theorem k_X9_freeOf (l : Launch) (hfl : l.stackTraces = false) (G : GC) (t1 : Nat) (p1 : Int32) (ta0 : Nat) (ta1 : Nat) (ta2 : Nat) (ta3 : Nat) (ta4 : Nat) (ta5 : Nat) (ta6 : Nat) (ta7 : Nat) (ta8 : Nat) (mm : Int32) (tf5 : Nat → Int32) (r9 : Int32) (hm : f_X9_freeOf mm tf5 p1 = some r9) (sz : Nat) : Met l yX9_freeOf (Cond.code yX9_freeOf cX9_freeOf 2 (some .int) :: W0) ({ frames := 0, cells := 0, slots := 0, locals := 0 }) (va_Pc [.ref t1, .int p1] (WD G [(t1, .inr (8, [.ref ta0, .ref ta1, .ref ta2, .ref ta3, .ref ta4, .ref ta5, .ref ta6, .ref ta7, .ref ta8, .int mm])), (ta5, .inl (cyA G 0, 32768, .inl (tf5)))] sz)) (va_Qi (fun (r : Int32) (_ : Unit) => r = r9) (fun _ t => PW G (va_A [(t1, .inr (8, [.ref ta0, .ref ta1, .ref ta2, .ref ta3, .ref ta4, .ref ta5, .ref ta6, .ref ta7, .ref ta8, .int mm])), (ta5, .inl (cyA G 0, 32768, .inl (tf5)))] sz) [(t1, .inr (8, [.ref ta0, .ref ta1, .ref ta2, .ref ta3, .ref ta4, .ref ta5, .ref ta6, .ref ta7, .ref ta8, .int mm])), (ta5, .inl (cyA G 0, 32768, .inl (tf5)))] t) (va_A [(t1, .inr (8, [.ref ta0, .ref ta1, .ref ta2, .ref ta3, .ref ta4, .ref ta5, .ref ta6, .ref ta7, .ref ta8, .int mm])), (ta5, .inl (cyA G 0, 32768, .inl (tf5)))] sz)) 0 0 (va_A [(t1, .inr (8, [.ref ta0, .ref ta1, .ref ta2, .ref ta3, .ref ta4, .ref ta5, .ref ta6, .ref ta7, .ref ta8, .int mm])), (ta5, .inl (cyA G 0, 32768, .inl (tf5)))] sz) := by
  rw [f_X9_freeOf] at hm
  refine Met.ofW (cc := cX9_freeOf) (maxL := 2) (ret := (some .int)) (by decide) rfl ?_
  intro p e s m args below meth c s₁ B hml hv
  obtain ⟨rfl, hsz, hP, hK, hD0, hE⟩ := hv
  have hx := B.exec
  have hb := B.bytes
  have hr := B.returns
  have hts := w0_tail B.pre
  have hown : s.vm.findClass RX9 = some m.cls := findClass_of_methodNamed B.named
  have hlocks := B.notSynchronized
  subst hsz
  have hD := hD0.self (sz := s.heap.size)
  generalize hAe : va_A [(t1, .inr (8, [.ref ta0, .ref ta1, .ref ta2, .ref ta3, .ref ta4, .ref ta5, .ref ta6, .ref ta7, .ref ta8, .int mm])), (ta5, .inl (cyA G 0, 32768, .inl (tf5)))] s.heap.size = A at hD hE ⊢
  have hA : ∀ q : Nat, s.heap.size ≤ q → A q := fun q h => by rw [← hAe]; exact Or.inr h
  have hS : va_S A s.heap s.heap [] := va_S.rf
  obtain ⟨H, hHe⟩ : ∃ H : Heap, H = s.heap := ⟨_, rfl⟩
  have hP : va_P (DG G) clP3 [(t1, .inr (8, [.ref ta0, .ref ta1, .ref ta2, .ref ta3, .ref ta4, .ref ta5, .ref ta6, .ref ta7, .ref ta8, .int mm])), (ta5, .inl (cyA G 0, 32768, .inl (tf5)))] H := by rw [hHe]; exact hP
  have hS : va_S A s.heap H [] := by rw [hHe]; exact hS
  have hl := lv_entry ([.ref t1, .int p1]) (n := 2) (Nat.le_of_ble_eq_true rfl)
  rw [lg_entry_eq, ← hHe]
  generalize (lg_sl ([.ref t1, .int p1]) ++ List.replicate (2 - (lg_sl ([.ref t1, .int p1])).length) Slot.unset).toArray = ls at hl ⊢
  have hl : lv_has ls 2 [(0, .ref t1), (1, .int p1)] := hl
  refine lv_iload_n hx hb dX9_freeOf_0 rfl (lv_at hl 1 rfl) ?_
  refine lv_if_lt (tgt := 21) hx hb dX9_freeOf_1 (by decide) (fun c_1 => ?_) (fun c_1 => ?_)
  · rw [if_pos c_1] at hm
    refine lv_iconst (v := (-1)) hx hb dX9_freeOf_21 (by decide) ?_
    obtain rfl := Option.some.inj hm
    have hP9 := hP.sub (ws' := [(t1, .inr (8, [.ref ta0, .ref ta1, .ref ta2, .ref ta3, .ref ta4, .ref ta5, .ref ta6, .ref ta7, .ref ta8, .int mm])), (ta5, .inl (cyA G 0, 32768, .inl (tf5)))]) [0, 1] rfl
    have hD9 := hD.sub (ws' := [(t1, .inr (8, [.ref ta0, .ref ta1, .ref ta2, .ref ta3, .ref ta4, .ref ta5, .ref ta6, .ref ta7, .ref ta8, .int mm])), (ta5, .inl (cyA G 0, 32768, .inl (tf5)))]) [0, 1] (by decide) rfl
    refine W.widen (k := 0) (n := 0) (Nat.le_of_ble_eq_true rfl) (Nat.le_of_ble_eq_true rfl) ?_
    exact W.iret (v := (-1)) hx hb hr (fun t ht hW => ⟨⟨(-1), (), rfl, rfl, ⟨by rw [ht]; exact hP9, hD9⟩⟩, hS.F ht⟩) hS.2.2 dX9_freeOf_22 hlocks
  · rw [if_neg c_1] at hm
    refine lv_iload_n hx hb dX9_freeOf_4 rfl (lv_at hl 1 rfl) ?_
    refine lv_aload_n hx hb dX9_freeOf_5 rfl (lv_at hl 0 rfl) ?_
    refine va_get (D := DG G) (ci := 8) (v := .int mm) (C := RX9) (T := TX9) (N := 10) hx hb hts inW_X9 hown hK hP 0 rfl rfl 9 (by decide) (hts _ wm49) (fun _ h9 => h9) rfl dX9_freeOf_6 ?_
    refine lv_icmp_ge (tgt := 21) hx hb dX9_freeOf_9 (by decide) (fun c_2 => ?_) (fun c_2 => ?_)
    · rw [if_pos c_2] at hm
      refine lv_iconst (v := (-1)) hx hb dX9_freeOf_21 (by decide) ?_
      obtain rfl := Option.some.inj hm
      have hP9 := hP.sub (ws' := [(t1, .inr (8, [.ref ta0, .ref ta1, .ref ta2, .ref ta3, .ref ta4, .ref ta5, .ref ta6, .ref ta7, .ref ta8, .int mm])), (ta5, .inl (cyA G 0, 32768, .inl (tf5)))]) [0, 1] rfl
      have hD9 := hD.sub (ws' := [(t1, .inr (8, [.ref ta0, .ref ta1, .ref ta2, .ref ta3, .ref ta4, .ref ta5, .ref ta6, .ref ta7, .ref ta8, .int mm])), (ta5, .inl (cyA G 0, 32768, .inl (tf5)))]) [0, 1] (by decide) rfl
      refine W.widen (k := 0) (n := 0) (Nat.le_of_ble_eq_true rfl) (Nat.le_of_ble_eq_true rfl) ?_
      exact W.iret (v := (-1)) hx hb hr (fun t ht hW => ⟨⟨(-1), (), rfl, rfl, ⟨by rw [ht]; exact hP9, hD9⟩⟩, hS.F ht⟩) hS.2.2 dX9_freeOf_22 hlocks
    · rw [if_neg c_2] at hm
      refine lv_aload_n hx hb dX9_freeOf_12 rfl (lv_at hl 0 rfl) ?_
      refine va_get (D := DG G) (ci := 8) (v := .ref ta5) (C := RX9) (T := TX9) (N := 10) hx hb hts inW_X9 hown hK hP 0 rfl rfl 5 (by decide) (hts _ wm45) (fun _ h9 => h9) rfl dX9_freeOf_13 ?_
      refine lv_iload_n hx hb dX9_freeOf_16 rfl (lv_at hl 1 rfl) ?_
      obtain ⟨b_3, hm⟩ := ite_some hm
      refine va_iald hx hb hK hP 1 0 rfl rfl (inb_vp b_3) dX9_freeOf_17 ?_
      refine lv_goto (tgt := 22) hx hb dX9_freeOf_18 (by decide) ?_
      obtain rfl := Option.some.inj hm
      have hP9 := hP.sub (ws' := [(t1, .inr (8, [.ref ta0, .ref ta1, .ref ta2, .ref ta3, .ref ta4, .ref ta5, .ref ta6, .ref ta7, .ref ta8, .int mm])), (ta5, .inl (cyA G 0, 32768, .inl (tf5)))]) [0, 1] rfl
      have hD9 := hD.sub (ws' := [(t1, .inr (8, [.ref ta0, .ref ta1, .ref ta2, .ref ta3, .ref ta4, .ref ta5, .ref ta6, .ref ta7, .ref ta8, .int mm])), (ta5, .inl (cyA G 0, 32768, .inl (tf5)))]) [0, 1] (by decide) rfl
      refine W.widen (k := 0) (n := 0) (Nat.le_of_ble_eq_true rfl) (Nat.le_of_ble_eq_true rfl) ?_
      exact W.iret (v := (tf5 (Int32.toNatClampNeg p1))) hx hb hr (fun t ht hW => ⟨⟨(tf5 (Int32.toNatClampNeg p1)), (), rfl, rfl, ⟨by rw [ht]; exact hP9, hD9⟩⟩, hS.F ht⟩) hS.2.2 dX9_freeOf_22 hlocks
def f_X9_callsOf  (mm : Int32) (tf6 : Nat → Int32) (p1 : Int32) : Option (Int32) := (if p1 < 0 then some 0 else (if mm ≤ p1 then some 0 else (if inb p1 32768 = true then some ((tf6 (Int32.toNatClampNeg p1))) else none)))
set_option maxHeartbeats 4000000 in
set_option maxRecDepth 100000 in
theorem k_X9_callsOf (l : Launch) (hfl : l.stackTraces = false) (G : GC) (t1 : Nat) (p1 : Int32) (ta0 : Nat) (ta1 : Nat) (ta2 : Nat) (ta3 : Nat) (ta4 : Nat) (ta5 : Nat) (ta6 : Nat) (ta7 : Nat) (ta8 : Nat) (mm : Int32) (tf6 : Nat → Int32) (r9 : Int32) (hm : f_X9_callsOf mm tf6 p1 = some r9) (sz : Nat) : Met l yX9_callsOf (Cond.code yX9_callsOf cX9_callsOf 2 (some .int) :: W0) ({ frames := 0, cells := 0, slots := 0, locals := 0 }) (va_Pc [.ref t1, .int p1] (WD G [(t1, .inr (8, [.ref ta0, .ref ta1, .ref ta2, .ref ta3, .ref ta4, .ref ta5, .ref ta6, .ref ta7, .ref ta8, .int mm])), (ta6, .inl (cyA G 0, 32768, .inl (tf6)))] sz)) (va_Qi (fun (r : Int32) (_ : Unit) => r = r9) (fun _ t => PW G (va_A [(t1, .inr (8, [.ref ta0, .ref ta1, .ref ta2, .ref ta3, .ref ta4, .ref ta5, .ref ta6, .ref ta7, .ref ta8, .int mm])), (ta6, .inl (cyA G 0, 32768, .inl (tf6)))] sz) [(t1, .inr (8, [.ref ta0, .ref ta1, .ref ta2, .ref ta3, .ref ta4, .ref ta5, .ref ta6, .ref ta7, .ref ta8, .int mm])), (ta6, .inl (cyA G 0, 32768, .inl (tf6)))] t) (va_A [(t1, .inr (8, [.ref ta0, .ref ta1, .ref ta2, .ref ta3, .ref ta4, .ref ta5, .ref ta6, .ref ta7, .ref ta8, .int mm])), (ta6, .inl (cyA G 0, 32768, .inl (tf6)))] sz)) 0 0 (va_A [(t1, .inr (8, [.ref ta0, .ref ta1, .ref ta2, .ref ta3, .ref ta4, .ref ta5, .ref ta6, .ref ta7, .ref ta8, .int mm])), (ta6, .inl (cyA G 0, 32768, .inl (tf6)))] sz) := by
  rw [f_X9_callsOf] at hm
  refine Met.ofW (cc := cX9_callsOf) (maxL := 2) (ret := (some .int)) (by decide) rfl ?_
  intro p e s m args below meth c s₁ B hml hv
  obtain ⟨rfl, hsz, hP, hK, hD0, hE⟩ := hv
  have hx := B.exec
  have hb := B.bytes
  have hr := B.returns
  have hts := w0_tail B.pre
  have hown : s.vm.findClass RX9 = some m.cls := findClass_of_methodNamed B.named
  have hlocks := B.notSynchronized
  subst hsz
  have hD := hD0.self (sz := s.heap.size)
  generalize hAe : va_A [(t1, .inr (8, [.ref ta0, .ref ta1, .ref ta2, .ref ta3, .ref ta4, .ref ta5, .ref ta6, .ref ta7, .ref ta8, .int mm])), (ta6, .inl (cyA G 0, 32768, .inl (tf6)))] s.heap.size = A at hD hE ⊢
  have hA : ∀ q : Nat, s.heap.size ≤ q → A q := fun q h => by rw [← hAe]; exact Or.inr h
  have hS : va_S A s.heap s.heap [] := va_S.rf
  obtain ⟨H, hHe⟩ : ∃ H : Heap, H = s.heap := ⟨_, rfl⟩
  have hP : va_P (DG G) clP3 [(t1, .inr (8, [.ref ta0, .ref ta1, .ref ta2, .ref ta3, .ref ta4, .ref ta5, .ref ta6, .ref ta7, .ref ta8, .int mm])), (ta6, .inl (cyA G 0, 32768, .inl (tf6)))] H := by rw [hHe]; exact hP
  have hS : va_S A s.heap H [] := by rw [hHe]; exact hS
  have hl := lv_entry ([.ref t1, .int p1]) (n := 2) (Nat.le_of_ble_eq_true rfl)
  rw [lg_entry_eq, ← hHe]
  generalize (lg_sl ([.ref t1, .int p1]) ++ List.replicate (2 - (lg_sl ([.ref t1, .int p1])).length) Slot.unset).toArray = ls at hl ⊢
  have hl : lv_has ls 2 [(0, .ref t1), (1, .int p1)] := hl
  refine lv_iload_n hx hb dX9_callsOf_0 rfl (lv_at hl 1 rfl) ?_
  refine lv_if_lt (tgt := 21) hx hb dX9_callsOf_1 (by decide) (fun c_1 => ?_) (fun c_1 => ?_)
  · rw [if_pos c_1] at hm
    refine lv_iconst (v := 0) hx hb dX9_callsOf_21 (by decide) ?_
    obtain rfl := Option.some.inj hm
    have hP9 := hP.sub (ws' := [(t1, .inr (8, [.ref ta0, .ref ta1, .ref ta2, .ref ta3, .ref ta4, .ref ta5, .ref ta6, .ref ta7, .ref ta8, .int mm])), (ta6, .inl (cyA G 0, 32768, .inl (tf6)))]) [0, 1] rfl
    have hD9 := hD.sub (ws' := [(t1, .inr (8, [.ref ta0, .ref ta1, .ref ta2, .ref ta3, .ref ta4, .ref ta5, .ref ta6, .ref ta7, .ref ta8, .int mm])), (ta6, .inl (cyA G 0, 32768, .inl (tf6)))]) [0, 1] (by decide) rfl
    refine W.widen (k := 0) (n := 0) (Nat.le_of_ble_eq_true rfl) (Nat.le_of_ble_eq_true rfl) ?_
    exact W.iret (v := 0) hx hb hr (fun t ht hW => ⟨⟨0, (), rfl, rfl, ⟨by rw [ht]; exact hP9, hD9⟩⟩, hS.F ht⟩) hS.2.2 dX9_callsOf_22 hlocks
  · rw [if_neg c_1] at hm
    refine lv_iload_n hx hb dX9_callsOf_4 rfl (lv_at hl 1 rfl) ?_
    refine lv_aload_n hx hb dX9_callsOf_5 rfl (lv_at hl 0 rfl) ?_
    refine va_get (D := DG G) (ci := 8) (v := .int mm) (C := RX9) (T := TX9) (N := 10) hx hb hts inW_X9 hown hK hP 0 rfl rfl 9 (by decide) (hts _ wm49) (fun _ h9 => h9) rfl dX9_callsOf_6 ?_
    refine lv_icmp_ge (tgt := 21) hx hb dX9_callsOf_9 (by decide) (fun c_2 => ?_) (fun c_2 => ?_)
    · rw [if_pos c_2] at hm
      refine lv_iconst (v := 0) hx hb dX9_callsOf_21 (by decide) ?_
      obtain rfl := Option.some.inj hm
      have hP9 := hP.sub (ws' := [(t1, .inr (8, [.ref ta0, .ref ta1, .ref ta2, .ref ta3, .ref ta4, .ref ta5, .ref ta6, .ref ta7, .ref ta8, .int mm])), (ta6, .inl (cyA G 0, 32768, .inl (tf6)))]) [0, 1] rfl
      have hD9 := hD.sub (ws' := [(t1, .inr (8, [.ref ta0, .ref ta1, .ref ta2, .ref ta3, .ref ta4, .ref ta5, .ref ta6, .ref ta7, .ref ta8, .int mm])), (ta6, .inl (cyA G 0, 32768, .inl (tf6)))]) [0, 1] (by decide) rfl
      refine W.widen (k := 0) (n := 0) (Nat.le_of_ble_eq_true rfl) (Nat.le_of_ble_eq_true rfl) ?_
      exact W.iret (v := 0) hx hb hr (fun t ht hW => ⟨⟨0, (), rfl, rfl, ⟨by rw [ht]; exact hP9, hD9⟩⟩, hS.F ht⟩) hS.2.2 dX9_callsOf_22 hlocks
    · rw [if_neg c_2] at hm
      refine lv_aload_n hx hb dX9_callsOf_12 rfl (lv_at hl 0 rfl) ?_
      refine va_get (D := DG G) (ci := 8) (v := .ref ta6) (C := RX9) (T := TX9) (N := 10) hx hb hts inW_X9 hown hK hP 0 rfl rfl 6 (by decide) (hts _ wm46) (fun _ h9 => h9) rfl dX9_callsOf_13 ?_
      refine lv_iload_n hx hb dX9_callsOf_16 rfl (lv_at hl 1 rfl) ?_
      obtain ⟨b_3, hm⟩ := ite_some hm
      refine va_iald hx hb hK hP 1 0 rfl rfl (inb_vp b_3) dX9_callsOf_17 ?_
      refine lv_goto (tgt := 22) hx hb dX9_callsOf_18 (by decide) ?_
      obtain rfl := Option.some.inj hm
      have hP9 := hP.sub (ws' := [(t1, .inr (8, [.ref ta0, .ref ta1, .ref ta2, .ref ta3, .ref ta4, .ref ta5, .ref ta6, .ref ta7, .ref ta8, .int mm])), (ta6, .inl (cyA G 0, 32768, .inl (tf6)))]) [0, 1] rfl
      have hD9 := hD.sub (ws' := [(t1, .inr (8, [.ref ta0, .ref ta1, .ref ta2, .ref ta3, .ref ta4, .ref ta5, .ref ta6, .ref ta7, .ref ta8, .int mm])), (ta6, .inl (cyA G 0, 32768, .inl (tf6)))]) [0, 1] (by decide) rfl
      refine W.widen (k := 0) (n := 0) (Nat.le_of_ble_eq_true rfl) (Nat.le_of_ble_eq_true rfl) ?_
      exact W.iret (v := (tf6 (Int32.toNatClampNeg p1))) hx hb hr (fun t ht hW => ⟨⟨(tf6 (Int32.toNatClampNeg p1)), (), rfl, rfl, ⟨by rw [ht]; exact hP9, hD9⟩⟩, hS.F ht⟩) hS.2.2 dX9_callsOf_22 hlocks
def f_X9_isLoose  (mm : Int32) (tf7 : Nat → Int32) (p1 : Int32) : Option (Int32) := (if p1 < 0 then some 0 else (if mm ≤ p1 then some 0 else (if inb p1 32768 = true then (if (tf7 (Int32.toNatClampNeg p1)) = 0 then some 0 else some 1) else none)))
set_option maxHeartbeats 4000000 in
set_option maxRecDepth 100000 in
theorem k_X9_isLoose (l : Launch) (hfl : l.stackTraces = false) (G : GC) (t1 : Nat) (p1 : Int32) (ta0 : Nat) (ta1 : Nat) (ta2 : Nat) (ta3 : Nat) (ta4 : Nat) (ta5 : Nat) (ta6 : Nat) (ta7 : Nat) (ta8 : Nat) (mm : Int32) (tf7 : Nat → Int32) (r9 : Int32) (hm : f_X9_isLoose mm tf7 p1 = some r9) (sz : Nat) : Met l yX9_isLoose (Cond.code yX9_isLoose cX9_isLoose 2 (some .boolean) :: W0) ({ frames := 0, cells := 0, slots := 0, locals := 0 }) (va_Pc [.ref t1, .int p1] (WD G [(t1, .inr (8, [.ref ta0, .ref ta1, .ref ta2, .ref ta3, .ref ta4, .ref ta5, .ref ta6, .ref ta7, .ref ta8, .int mm])), (ta7, .inl (cyA G 1, 32768, .inl (tf7)))] sz)) (va_Qi (fun (r : Int32) (_ : Unit) => r = r9) (fun _ t => PW G (va_A [(t1, .inr (8, [.ref ta0, .ref ta1, .ref ta2, .ref ta3, .ref ta4, .ref ta5, .ref ta6, .ref ta7, .ref ta8, .int mm])), (ta7, .inl (cyA G 1, 32768, .inl (tf7)))] sz) [(t1, .inr (8, [.ref ta0, .ref ta1, .ref ta2, .ref ta3, .ref ta4, .ref ta5, .ref ta6, .ref ta7, .ref ta8, .int mm])), (ta7, .inl (cyA G 1, 32768, .inl (tf7)))] t) (va_A [(t1, .inr (8, [.ref ta0, .ref ta1, .ref ta2, .ref ta3, .ref ta4, .ref ta5, .ref ta6, .ref ta7, .ref ta8, .int mm])), (ta7, .inl (cyA G 1, 32768, .inl (tf7)))] sz)) 0 0 (va_A [(t1, .inr (8, [.ref ta0, .ref ta1, .ref ta2, .ref ta3, .ref ta4, .ref ta5, .ref ta6, .ref ta7, .ref ta8, .int mm])), (ta7, .inl (cyA G 1, 32768, .inl (tf7)))] sz) := by
  rw [f_X9_isLoose] at hm
  refine Met.ofW (cc := cX9_isLoose) (maxL := 2) (ret := (some .boolean)) (by decide) rfl ?_
  intro p e s m args below meth c s₁ B hml hv
  obtain ⟨rfl, hsz, hP, hK, hD0, hE⟩ := hv
  have hx := B.exec
  have hb := B.bytes
  have hr := B.returns
  have hts := w0_tail B.pre
  have hown : s.vm.findClass RX9 = some m.cls := findClass_of_methodNamed B.named
  have hlocks := B.notSynchronized
  subst hsz
  have hD := hD0.self (sz := s.heap.size)
  generalize hAe : va_A [(t1, .inr (8, [.ref ta0, .ref ta1, .ref ta2, .ref ta3, .ref ta4, .ref ta5, .ref ta6, .ref ta7, .ref ta8, .int mm])), (ta7, .inl (cyA G 1, 32768, .inl (tf7)))] s.heap.size = A at hD hE ⊢
  have hA : ∀ q : Nat, s.heap.size ≤ q → A q := fun q h => by rw [← hAe]; exact Or.inr h
  have hS : va_S A s.heap s.heap [] := va_S.rf
  obtain ⟨H, hHe⟩ : ∃ H : Heap, H = s.heap := ⟨_, rfl⟩
  have hP : va_P (DG G) clP3 [(t1, .inr (8, [.ref ta0, .ref ta1, .ref ta2, .ref ta3, .ref ta4, .ref ta5, .ref ta6, .ref ta7, .ref ta8, .int mm])), (ta7, .inl (cyA G 1, 32768, .inl (tf7)))] H := by rw [hHe]; exact hP
  have hS : va_S A s.heap H [] := by rw [hHe]; exact hS
  have hl := lv_entry ([.ref t1, .int p1]) (n := 2) (Nat.le_of_ble_eq_true rfl)
  rw [lg_entry_eq, ← hHe]
  generalize (lg_sl ([.ref t1, .int p1]) ++ List.replicate (2 - (lg_sl ([.ref t1, .int p1])).length) Slot.unset).toArray = ls at hl ⊢
  have hl : lv_has ls 2 [(0, .ref t1), (1, .int p1)] := hl
  refine lv_iload_n hx hb dX9_isLoose_0 rfl (lv_at hl 1 rfl) ?_
  refine lv_if_lt (tgt := 25) hx hb dX9_isLoose_1 (by decide) (fun c_1 => ?_) (fun c_1 => ?_)
  · rw [if_pos c_1] at hm
    refine lv_iconst (v := 0) hx hb dX9_isLoose_25 (by decide) ?_
    obtain rfl := Option.some.inj hm
    have hP9 := hP.sub (ws' := [(t1, .inr (8, [.ref ta0, .ref ta1, .ref ta2, .ref ta3, .ref ta4, .ref ta5, .ref ta6, .ref ta7, .ref ta8, .int mm])), (ta7, .inl (cyA G 1, 32768, .inl (tf7)))]) [0, 1] rfl
    have hD9 := hD.sub (ws' := [(t1, .inr (8, [.ref ta0, .ref ta1, .ref ta2, .ref ta3, .ref ta4, .ref ta5, .ref ta6, .ref ta7, .ref ta8, .int mm])), (ta7, .inl (cyA G 1, 32768, .inl (tf7)))]) [0, 1] (by decide) rfl
    refine W.widen (k := 0) (n := 0) (Nat.le_of_ble_eq_true rfl) (Nat.le_of_ble_eq_true rfl) ?_
    exact W.zret (v := 0) (ty := .boolean) hx hb hr (by decide) (fun t ht hW => ⟨⟨0, (), rfl, rfl, ⟨by rw [ht]; exact hP9, hD9⟩⟩, hS.F ht⟩) hS.2.2 dX9_isLoose_26 hlocks
  · rw [if_neg c_1] at hm
    refine lv_iload_n hx hb dX9_isLoose_4 rfl (lv_at hl 1 rfl) ?_
    refine lv_aload_n hx hb dX9_isLoose_5 rfl (lv_at hl 0 rfl) ?_
    refine va_get (D := DG G) (ci := 8) (v := .int mm) (C := RX9) (T := TX9) (N := 10) hx hb hts inW_X9 hown hK hP 0 rfl rfl 9 (by decide) (hts _ wm49) (fun _ h9 => h9) rfl dX9_isLoose_6 ?_
    refine lv_icmp_ge (tgt := 25) hx hb dX9_isLoose_9 (by decide) (fun c_2 => ?_) (fun c_2 => ?_)
    · rw [if_pos c_2] at hm
      refine lv_iconst (v := 0) hx hb dX9_isLoose_25 (by decide) ?_
      obtain rfl := Option.some.inj hm
      have hP9 := hP.sub (ws' := [(t1, .inr (8, [.ref ta0, .ref ta1, .ref ta2, .ref ta3, .ref ta4, .ref ta5, .ref ta6, .ref ta7, .ref ta8, .int mm])), (ta7, .inl (cyA G 1, 32768, .inl (tf7)))]) [0, 1] rfl
      have hD9 := hD.sub (ws' := [(t1, .inr (8, [.ref ta0, .ref ta1, .ref ta2, .ref ta3, .ref ta4, .ref ta5, .ref ta6, .ref ta7, .ref ta8, .int mm])), (ta7, .inl (cyA G 1, 32768, .inl (tf7)))]) [0, 1] (by decide) rfl
      refine W.widen (k := 0) (n := 0) (Nat.le_of_ble_eq_true rfl) (Nat.le_of_ble_eq_true rfl) ?_
      exact W.zret (v := 0) (ty := .boolean) hx hb hr (by decide) (fun t ht hW => ⟨⟨0, (), rfl, rfl, ⟨by rw [ht]; exact hP9, hD9⟩⟩, hS.F ht⟩) hS.2.2 dX9_isLoose_26 hlocks
    · rw [if_neg c_2] at hm
      refine lv_aload_n hx hb dX9_isLoose_12 rfl (lv_at hl 0 rfl) ?_
      refine va_get (D := DG G) (ci := 8) (v := .ref ta7) (C := RX9) (T := TX9) (N := 10) hx hb hts inW_X9 hown hK hP 0 rfl rfl 7 (by decide) (hts _ wm47) (fun _ h9 => h9) rfl dX9_isLoose_13 ?_
      refine lv_iload_n hx hb dX9_isLoose_16 rfl (lv_at hl 1 rfl) ?_
      obtain ⟨b_3, hm⟩ := ite_some hm
      refine va_zald hx hb hK hP 1 1 rfl rfl (inb_vp b_3) dX9_isLoose_17 ?_
      refine lv_if_eq (tgt := 25) hx hb dX9_isLoose_18 (by decide) (fun c_4 => ?_) (fun c_4 => ?_)
      · rw [if_pos c_4] at hm
        refine lv_iconst (v := 0) hx hb dX9_isLoose_25 (by decide) ?_
        obtain rfl := Option.some.inj hm
        have hP9 := hP.sub (ws' := [(t1, .inr (8, [.ref ta0, .ref ta1, .ref ta2, .ref ta3, .ref ta4, .ref ta5, .ref ta6, .ref ta7, .ref ta8, .int mm])), (ta7, .inl (cyA G 1, 32768, .inl (tf7)))]) [0, 1] rfl
        have hD9 := hD.sub (ws' := [(t1, .inr (8, [.ref ta0, .ref ta1, .ref ta2, .ref ta3, .ref ta4, .ref ta5, .ref ta6, .ref ta7, .ref ta8, .int mm])), (ta7, .inl (cyA G 1, 32768, .inl (tf7)))]) [0, 1] (by decide) rfl
        refine W.widen (k := 0) (n := 0) (Nat.le_of_ble_eq_true rfl) (Nat.le_of_ble_eq_true rfl) ?_
        exact W.zret (v := 0) (ty := .boolean) hx hb hr (by decide) (fun t ht hW => ⟨⟨0, (), rfl, rfl, ⟨by rw [ht]; exact hP9, hD9⟩⟩, hS.F ht⟩) hS.2.2 dX9_isLoose_26 hlocks
      · rw [if_neg c_4] at hm
        refine lv_iconst (v := 1) hx hb dX9_isLoose_21 (by decide) ?_
        refine lv_goto (tgt := 26) hx hb dX9_isLoose_22 (by decide) ?_
        obtain rfl := Option.some.inj hm
        have hP9 := hP.sub (ws' := [(t1, .inr (8, [.ref ta0, .ref ta1, .ref ta2, .ref ta3, .ref ta4, .ref ta5, .ref ta6, .ref ta7, .ref ta8, .int mm])), (ta7, .inl (cyA G 1, 32768, .inl (tf7)))]) [0, 1] rfl
        have hD9 := hD.sub (ws' := [(t1, .inr (8, [.ref ta0, .ref ta1, .ref ta2, .ref ta3, .ref ta4, .ref ta5, .ref ta6, .ref ta7, .ref ta8, .int mm])), (ta7, .inl (cyA G 1, 32768, .inl (tf7)))]) [0, 1] (by decide) rfl
        refine W.widen (k := 0) (n := 0) (Nat.le_of_ble_eq_true rfl) (Nat.le_of_ble_eq_true rfl) ?_
        exact W.zret (v := 1) (ty := .boolean) hx hb hr (by decide) (fun t ht hW => ⟨⟨1, (), rfl, rfl, ⟨by rw [ht]; exact hP9, hD9⟩⟩, hS.F ht⟩) hS.2.2 dX9_isLoose_26 hlocks
def f_X9_headOf_L4 : Nat → (Int32) → (Nat → Int32) → (Nat → Int32) → (Int32) → (Int32) → Option (Int32)
  | 0, _, _, _, _, _ => none
  | n + 1, mm, tf0, tf1, v2, v3 => (if 200 ≤ v3 then some v2 else (if v2 < 0 then some v2 else (if mm ≤ v2 then some v2 else (if inb v2 32768 = true then (if (tf0 (Int32.toNatClampNeg v2)) = 7 then (if inb v2 32768 = true then (f_X9_headOf_L4 n mm tf0 tf1 (tf1 (Int32.toNatClampNeg v2)) (v3 + 1)) else none) else some v2) else none))))
def f_X9_headOf  (mm : Int32) (tf0 : Nat → Int32) (tf1 : Nat → Int32) (p1 : Int32) : Option (Int32) := (f_X9_headOf_L4 100000 mm tf0 tf1 p1 0)
set_option maxHeartbeats 4000000 in
set_option maxRecDepth 100000 in
theorem kl_X9_headOf_4 {l : Launch} (hfl : l.stackTraces = false) {G : GC} {t1 : Nat} {ta0 : Nat} {ta1 : Nat} {ta2 : Nat} {ta3 : Nat} {ta4 : Nat} {ta5 : Nat} {ta6 : Nat} {ta7 : Nat} {ta8 : Nat}  {A : Nat → Prop} {p : Program} {e : Env} {s : State} {m : MethodId} {args : Array Value} {below : List Frame} {meth : Method} {c : Code} (hx : p.tables.exec = Jvm.exec) (hb : c.code = cX9_headOf) (hr : meth.sig.returnType = (some .int)) (hml : c.maxLocals = 4) (hown : s.vm.findClass RX9 = some m.cls) (hts : ∀ w ∈ W0, w.before args s = true) (hlocks : meth.locks = false) (hA : ∀ q : Nat, s.heap.size ≤ q → A q) (hE : EV G A s s.heap) (hK : va_K (DG G) clP3 (TY G) s) (r9 : Int32) : ∀ (n : Nat) (mm : Int32) (tf0 : Nat → Int32) (tf1 : Nat → Int32) (v2 : Int32) (v3 : Int32) (H : Heap) (locs : List Loc), va_P (DG G) clP3 [(t1, .inr (8, [.ref ta0, .ref ta1, .ref ta2, .ref ta3, .ref ta4, .ref ta5, .ref ta6, .ref ta7, .ref ta8, .int mm])), (ta0, .inl (cyA G 0, 32768, .inl (tf0))), (ta1, .inl (cyA G 0, 32768, .inl (tf1)))] H → va_D A [(t1, .inr (8, [.ref ta0, .ref ta1, .ref ta2, .ref ta3, .ref ta4, .ref ta5, .ref ta6, .ref ta7, .ref ta8, .int mm])), (ta0, .inl (cyA G 0, 32768, .inl (tf0))), (ta1, .inl (cyA G 0, 32768, .inl (tf1)))] → va_S A s.heap H locs → ∀ (ls : Array Slot), lv_has ls 4 [(0, .ref t1), (2, .int v2), (3, .int v3)] → f_X9_headOf_L4 n mm tf0 tf1 v2 v3 = some r9 → W p l e ({ frames := 0, cells := 0, slots := 0, locals := 0 }) s m args below meth c H locs 0 0 (MQ below (va_Qi (fun (r : Int32) (_ : Unit) => r = r9) (fun _ t => PW G A [(t1, .inr (8, [.ref ta0, .ref ta1, .ref ta2, .ref ta3, .ref ta4, .ref ta5, .ref ta6, .ref ta7, .ref ta8, .int mm])), (ta0, .inl (cyA G 0, 32768, .inl (tf0))), (ta1, .inl (cyA G 0, 32768, .inl (tf1)))] t) A) args s 0 0 A) (F0 m 4 ls []) := by
  intro n
  induction n with
  | zero =>
    intro mm tf0 tf1 v2 v3 H locs hP hD hS ls hl hm
    rw [f_X9_headOf_L4] at hm
    cases hm
  | succ n ih =>
    intro mm tf0 tf1 v2 v3 H locs hP hD hS ls hl hm
    rw [f_X9_headOf_L4] at hm
    refine lv_iload_n hx hb dX9_headOf_4 rfl (lv_at hl 2 rfl) ?_
    refine lv_sipush (v := 200) hx hb dX9_headOf_5 (by decide) ?_
    refine lv_icmp_ge (tgt := 47) hx hb dX9_headOf_8 (by decide) (fun c_1 => ?_) (fun c_1 => ?_)
    · rw [if_pos c_1] at hm
      refine lv_iload_n hx hb dX9_headOf_47 rfl (lv_at hl 1 rfl) ?_
      obtain rfl := Option.some.inj hm
      have hP9 := hP.sub (ws' := [(t1, .inr (8, [.ref ta0, .ref ta1, .ref ta2, .ref ta3, .ref ta4, .ref ta5, .ref ta6, .ref ta7, .ref ta8, .int mm])), (ta0, .inl (cyA G 0, 32768, .inl (tf0))), (ta1, .inl (cyA G 0, 32768, .inl (tf1)))]) [0, 1, 2] rfl
      have hD9 := hD.sub (ws' := [(t1, .inr (8, [.ref ta0, .ref ta1, .ref ta2, .ref ta3, .ref ta4, .ref ta5, .ref ta6, .ref ta7, .ref ta8, .int mm])), (ta0, .inl (cyA G 0, 32768, .inl (tf0))), (ta1, .inl (cyA G 0, 32768, .inl (tf1)))]) [0, 1, 2] (by decide) rfl
      refine W.widen (k := 0) (n := 0) (Nat.le_of_ble_eq_true rfl) (Nat.le_of_ble_eq_true rfl) ?_
      exact W.iret (v := v2) hx hb hr (fun t ht hW => ⟨⟨v2, (), rfl, rfl, ⟨by rw [ht]; exact hP9, hD9⟩⟩, hS.F ht⟩) hS.2.2 dX9_headOf_48 hlocks
    · rw [if_neg c_1] at hm
      refine lv_iload_n hx hb dX9_headOf_11 rfl (lv_at hl 1 rfl) ?_
      refine lv_if_lt (tgt := 47) hx hb dX9_headOf_12 (by decide) (fun c_2 => ?_) (fun c_2 => ?_)
      · rw [if_pos c_2] at hm
        refine lv_iload_n hx hb dX9_headOf_47 rfl (lv_at hl 1 rfl) ?_
        obtain rfl := Option.some.inj hm
        have hP9 := hP.sub (ws' := [(t1, .inr (8, [.ref ta0, .ref ta1, .ref ta2, .ref ta3, .ref ta4, .ref ta5, .ref ta6, .ref ta7, .ref ta8, .int mm])), (ta0, .inl (cyA G 0, 32768, .inl (tf0))), (ta1, .inl (cyA G 0, 32768, .inl (tf1)))]) [0, 1, 2] rfl
        have hD9 := hD.sub (ws' := [(t1, .inr (8, [.ref ta0, .ref ta1, .ref ta2, .ref ta3, .ref ta4, .ref ta5, .ref ta6, .ref ta7, .ref ta8, .int mm])), (ta0, .inl (cyA G 0, 32768, .inl (tf0))), (ta1, .inl (cyA G 0, 32768, .inl (tf1)))]) [0, 1, 2] (by decide) rfl
        refine W.widen (k := 0) (n := 0) (Nat.le_of_ble_eq_true rfl) (Nat.le_of_ble_eq_true rfl) ?_
        exact W.iret (v := v2) hx hb hr (fun t ht hW => ⟨⟨v2, (), rfl, rfl, ⟨by rw [ht]; exact hP9, hD9⟩⟩, hS.F ht⟩) hS.2.2 dX9_headOf_48 hlocks
      · rw [if_neg c_2] at hm
        refine lv_iload_n hx hb dX9_headOf_15 rfl (lv_at hl 1 rfl) ?_
        refine lv_aload_n hx hb dX9_headOf_16 rfl (lv_at hl 0 rfl) ?_
        refine va_get (D := DG G) (ci := 8) (v := .int mm) (C := RX9) (T := TX9) (N := 10) hx hb hts inW_X9 hown hK hP 0 rfl rfl 9 (by decide) (hts _ wm49) (fun _ h9 => h9) rfl dX9_headOf_17 ?_
        refine lv_icmp_ge (tgt := 47) hx hb dX9_headOf_20 (by decide) (fun c_3 => ?_) (fun c_3 => ?_)
        · rw [if_pos c_3] at hm
          refine lv_iload_n hx hb dX9_headOf_47 rfl (lv_at hl 1 rfl) ?_
          obtain rfl := Option.some.inj hm
          have hP9 := hP.sub (ws' := [(t1, .inr (8, [.ref ta0, .ref ta1, .ref ta2, .ref ta3, .ref ta4, .ref ta5, .ref ta6, .ref ta7, .ref ta8, .int mm])), (ta0, .inl (cyA G 0, 32768, .inl (tf0))), (ta1, .inl (cyA G 0, 32768, .inl (tf1)))]) [0, 1, 2] rfl
          have hD9 := hD.sub (ws' := [(t1, .inr (8, [.ref ta0, .ref ta1, .ref ta2, .ref ta3, .ref ta4, .ref ta5, .ref ta6, .ref ta7, .ref ta8, .int mm])), (ta0, .inl (cyA G 0, 32768, .inl (tf0))), (ta1, .inl (cyA G 0, 32768, .inl (tf1)))]) [0, 1, 2] (by decide) rfl
          refine W.widen (k := 0) (n := 0) (Nat.le_of_ble_eq_true rfl) (Nat.le_of_ble_eq_true rfl) ?_
          exact W.iret (v := v2) hx hb hr (fun t ht hW => ⟨⟨v2, (), rfl, rfl, ⟨by rw [ht]; exact hP9, hD9⟩⟩, hS.F ht⟩) hS.2.2 dX9_headOf_48 hlocks
        · rw [if_neg c_3] at hm
          refine lv_aload_n hx hb dX9_headOf_23 rfl (lv_at hl 0 rfl) ?_
          refine va_get (D := DG G) (ci := 8) (v := .ref ta0) (C := RX9) (T := TX9) (N := 10) hx hb hts inW_X9 hown hK hP 0 rfl rfl 0 (by decide) (hts _ wm40) (fun _ h9 => h9) rfl dX9_headOf_24 ?_
          refine lv_iload_n hx hb dX9_headOf_27 rfl (lv_at hl 1 rfl) ?_
          obtain ⟨b_4, hm⟩ := ite_some hm
          refine va_iald hx hb hK hP 1 0 rfl rfl (inb_vp b_4) dX9_headOf_28 ?_
          refine lv_bipush (v := 7) hx hb dX9_headOf_29 (by decide) ?_
          refine lv_icmp_ne (tgt := 47) hx hb dX9_headOf_31 (by decide) (fun c_5 => ?_) (fun c_5 => ?_)
          · rw [if_neg c_5] at hm
            refine lv_iload_n hx hb dX9_headOf_47 rfl (lv_at hl 1 rfl) ?_
            obtain rfl := Option.some.inj hm
            have hP9 := hP.sub (ws' := [(t1, .inr (8, [.ref ta0, .ref ta1, .ref ta2, .ref ta3, .ref ta4, .ref ta5, .ref ta6, .ref ta7, .ref ta8, .int mm])), (ta0, .inl (cyA G 0, 32768, .inl (tf0))), (ta1, .inl (cyA G 0, 32768, .inl (tf1)))]) [0, 1, 2] rfl
            have hD9 := hD.sub (ws' := [(t1, .inr (8, [.ref ta0, .ref ta1, .ref ta2, .ref ta3, .ref ta4, .ref ta5, .ref ta6, .ref ta7, .ref ta8, .int mm])), (ta0, .inl (cyA G 0, 32768, .inl (tf0))), (ta1, .inl (cyA G 0, 32768, .inl (tf1)))]) [0, 1, 2] (by decide) rfl
            refine W.widen (k := 0) (n := 0) (Nat.le_of_ble_eq_true rfl) (Nat.le_of_ble_eq_true rfl) ?_
            exact W.iret (v := v2) hx hb hr (fun t ht hW => ⟨⟨v2, (), rfl, rfl, ⟨by rw [ht]; exact hP9, hD9⟩⟩, hS.F ht⟩) hS.2.2 dX9_headOf_48 hlocks
          · rw [if_pos c_5] at hm
            refine lv_aload_n hx hb dX9_headOf_34 rfl (lv_at hl 0 rfl) ?_
            refine va_get (D := DG G) (ci := 8) (v := .ref ta1) (C := RX9) (T := TX9) (N := 10) hx hb hts inW_X9 hown hK hP 0 rfl rfl 1 (by decide) (hts _ wm41) (fun _ h9 => h9) rfl dX9_headOf_35 ?_
            refine lv_iload_n hx hb dX9_headOf_38 rfl (lv_at hl 1 rfl) ?_
            obtain ⟨b_6, hm⟩ := ite_some hm
            refine va_iald hx hb hK hP 2 0 rfl rfl (inb_vp b_6) dX9_headOf_39 ?_
            refine lv_istore_n (lv' := [(2, .int (tf1 (Int32.toNatClampNeg v2))), (0, .ref t1), (3, .int v3)]) hx hb dX9_headOf_40 rfl hl (by decide) rfl (fun ls hl => ?_)
            refine lv_iinc (v := (v3 + 1)) (lv' := [(3, .int (v3 + 1)), (2, .int (tf1 (Int32.toNatClampNeg v2))), (0, .ref t1)]) hx hb dX9_headOf_41 hl (k := 2) rfl rfl (by decide) rfl (fun ls hl => ?_)
            refine lv_goto (tgt := 4) hx hb dX9_headOf_44 (by decide) ?_
            have hP9 := hP.sub (ws' := [(t1, .inr (8, [.ref ta0, .ref ta1, .ref ta2, .ref ta3, .ref ta4, .ref ta5, .ref ta6, .ref ta7, .ref ta8, .int mm])), (ta0, .inl (cyA G 0, 32768, .inl (tf0))), (ta1, .inl (cyA G 0, 32768, .inl (tf1)))]) [0, 1, 2] rfl
            have hD9 := hD.sub (ws' := [(t1, .inr (8, [.ref ta0, .ref ta1, .ref ta2, .ref ta3, .ref ta4, .ref ta5, .ref ta6, .ref ta7, .ref ta8, .int mm])), (ta0, .inl (cyA G 0, 32768, .inl (tf0))), (ta1, .inl (cyA G 0, 32768, .inl (tf1)))]) [0, 1, 2] (by decide) rfl
            refine W.widen (k := 0) (n := 0) (Nat.le_of_ble_eq_true rfl) (Nat.le_of_ble_eq_true rfl) ?_
            exact ih mm tf0 tf1 (tf1 (Int32.toNatClampNeg v2)) (v3 + 1) _ _ hP9 hD9 hS _ (lv_sub hl [2, 1, 0] rfl) hm
set_option maxHeartbeats 4000000 in
set_option maxRecDepth 100000 in
theorem k_X9_headOf (l : Launch) (hfl : l.stackTraces = false) (G : GC) (t1 : Nat) (p1 : Int32) (ta0 : Nat) (ta1 : Nat) (ta2 : Nat) (ta3 : Nat) (ta4 : Nat) (ta5 : Nat) (ta6 : Nat) (ta7 : Nat) (ta8 : Nat) (mm : Int32) (tf0 : Nat → Int32) (tf1 : Nat → Int32) (r9 : Int32) (hm : f_X9_headOf mm tf0 tf1 p1 = some r9) (sz : Nat) : Met l yX9_headOf (Cond.code yX9_headOf cX9_headOf 4 (some .int) :: W0) ({ frames := 0, cells := 0, slots := 0, locals := 0 }) (va_Pc [.ref t1, .int p1] (WD G [(t1, .inr (8, [.ref ta0, .ref ta1, .ref ta2, .ref ta3, .ref ta4, .ref ta5, .ref ta6, .ref ta7, .ref ta8, .int mm])), (ta0, .inl (cyA G 0, 32768, .inl (tf0))), (ta1, .inl (cyA G 0, 32768, .inl (tf1)))] sz)) (va_Qi (fun (r : Int32) (_ : Unit) => r = r9) (fun _ t => PW G (va_A [(t1, .inr (8, [.ref ta0, .ref ta1, .ref ta2, .ref ta3, .ref ta4, .ref ta5, .ref ta6, .ref ta7, .ref ta8, .int mm])), (ta0, .inl (cyA G 0, 32768, .inl (tf0))), (ta1, .inl (cyA G 0, 32768, .inl (tf1)))] sz) [(t1, .inr (8, [.ref ta0, .ref ta1, .ref ta2, .ref ta3, .ref ta4, .ref ta5, .ref ta6, .ref ta7, .ref ta8, .int mm])), (ta0, .inl (cyA G 0, 32768, .inl (tf0))), (ta1, .inl (cyA G 0, 32768, .inl (tf1)))] t) (va_A [(t1, .inr (8, [.ref ta0, .ref ta1, .ref ta2, .ref ta3, .ref ta4, .ref ta5, .ref ta6, .ref ta7, .ref ta8, .int mm])), (ta0, .inl (cyA G 0, 32768, .inl (tf0))), (ta1, .inl (cyA G 0, 32768, .inl (tf1)))] sz)) 0 0 (va_A [(t1, .inr (8, [.ref ta0, .ref ta1, .ref ta2, .ref ta3, .ref ta4, .ref ta5, .ref ta6, .ref ta7, .ref ta8, .int mm])), (ta0, .inl (cyA G 0, 32768, .inl (tf0))), (ta1, .inl (cyA G 0, 32768, .inl (tf1)))] sz) := by
  rw [f_X9_headOf] at hm
  refine Met.ofW (cc := cX9_headOf) (maxL := 4) (ret := (some .int)) (by decide) rfl ?_
  intro p e s m args below meth c s₁ B hml hv
  obtain ⟨rfl, hsz, hP, hK, hD0, hE⟩ := hv
  have hx := B.exec
  have hb := B.bytes
  have hr := B.returns
  have hts := w0_tail B.pre
  have hown : s.vm.findClass RX9 = some m.cls := findClass_of_methodNamed B.named
  have hlocks := B.notSynchronized
  subst hsz
  have hD := hD0.self (sz := s.heap.size)
  generalize hAe : va_A [(t1, .inr (8, [.ref ta0, .ref ta1, .ref ta2, .ref ta3, .ref ta4, .ref ta5, .ref ta6, .ref ta7, .ref ta8, .int mm])), (ta0, .inl (cyA G 0, 32768, .inl (tf0))), (ta1, .inl (cyA G 0, 32768, .inl (tf1)))] s.heap.size = A at hD hE ⊢
  have hA : ∀ q : Nat, s.heap.size ≤ q → A q := fun q h => by rw [← hAe]; exact Or.inr h
  have hS : va_S A s.heap s.heap [] := va_S.rf
  obtain ⟨H, hHe⟩ : ∃ H : Heap, H = s.heap := ⟨_, rfl⟩
  have hP : va_P (DG G) clP3 [(t1, .inr (8, [.ref ta0, .ref ta1, .ref ta2, .ref ta3, .ref ta4, .ref ta5, .ref ta6, .ref ta7, .ref ta8, .int mm])), (ta0, .inl (cyA G 0, 32768, .inl (tf0))), (ta1, .inl (cyA G 0, 32768, .inl (tf1)))] H := by rw [hHe]; exact hP
  have hS : va_S A s.heap H [] := by rw [hHe]; exact hS
  have hl := lv_entry ([.ref t1, .int p1]) (n := 4) (Nat.le_of_ble_eq_true rfl)
  rw [lg_entry_eq, ← hHe]
  generalize (lg_sl ([.ref t1, .int p1]) ++ List.replicate (4 - (lg_sl ([.ref t1, .int p1])).length) Slot.unset).toArray = ls at hl ⊢
  have hl : lv_has ls 4 [(0, .ref t1), (1, .int p1)] := hl
  refine lv_iload_n hx hb dX9_headOf_0 rfl (lv_at hl 1 rfl) ?_
  refine lv_istore_n (lv' := [(2, .int p1), (0, .ref t1), (1, .int p1)]) hx hb dX9_headOf_1 rfl hl (by decide) rfl (fun ls hl => ?_)
  refine lv_iconst (v := 0) hx hb dX9_headOf_2 (by decide) ?_
  refine lv_istore_n (lv' := [(3, .int 0), (2, .int p1), (0, .ref t1), (1, .int p1)]) hx hb dX9_headOf_3 rfl hl (by decide) rfl (fun ls hl => ?_)
  have hP9 := hP.sub (ws' := [(t1, .inr (8, [.ref ta0, .ref ta1, .ref ta2, .ref ta3, .ref ta4, .ref ta5, .ref ta6, .ref ta7, .ref ta8, .int mm])), (ta0, .inl (cyA G 0, 32768, .inl (tf0))), (ta1, .inl (cyA G 0, 32768, .inl (tf1)))]) [0, 1, 2] rfl
  have hD9 := hD.sub (ws' := [(t1, .inr (8, [.ref ta0, .ref ta1, .ref ta2, .ref ta3, .ref ta4, .ref ta5, .ref ta6, .ref ta7, .ref ta8, .int mm])), (ta0, .inl (cyA G 0, 32768, .inl (tf0))), (ta1, .inl (cyA G 0, 32768, .inl (tf1)))]) [0, 1, 2] (by decide) rfl
  refine W.widen (k := 0) (n := 0) (Nat.le_of_ble_eq_true rfl) (Nat.le_of_ble_eq_true rfl) ?_
  exact kl_X9_headOf_4 hfl hx hb hr hml hown hts hlocks hA hE hK r9 100000 mm tf0 tf1 p1 0 _ _ hP9 hD9 hS _ (lv_sub hl [2, 1, 0] rfl) hm
def f_X9_argumentsOf_L4 : Nat → (Int32) → (Nat → Int32) → (Nat → Int32) → (Int32) → (Int32) → Option (Int32)
  | 0, _, _, _, _, _ => none
  | n + 1, mm, tf0, tf1, v2, v3 => (if 200 ≤ v3 then some v3 else (if v2 < 0 then some v3 else (if mm ≤ v2 then some v3 else (if inb v2 32768 = true then (if (tf0 (Int32.toNatClampNeg v2)) = 7 then (if inb v2 32768 = true then (f_X9_argumentsOf_L4 n mm tf0 tf1 (tf1 (Int32.toNatClampNeg v2)) (v3 + 1)) else none) else some v3) else none))))
def f_X9_argumentsOf  (mm : Int32) (tf0 : Nat → Int32) (tf1 : Nat → Int32) (p1 : Int32) : Option (Int32) := (f_X9_argumentsOf_L4 100000 mm tf0 tf1 p1 0)
set_option maxHeartbeats 4000000 in
set_option maxRecDepth 100000 in
theorem kl_X9_argumentsOf_4 {l : Launch} (hfl : l.stackTraces = false) {G : GC} {t1 : Nat} {ta0 : Nat} {ta1 : Nat} {ta2 : Nat} {ta3 : Nat} {ta4 : Nat} {ta5 : Nat} {ta6 : Nat} {ta7 : Nat} {ta8 : Nat}  {A : Nat → Prop} {p : Program} {e : Env} {s : State} {m : MethodId} {args : Array Value} {below : List Frame} {meth : Method} {c : Code} (hx : p.tables.exec = Jvm.exec) (hb : c.code = cX9_argumentsOf) (hr : meth.sig.returnType = (some .int)) (hml : c.maxLocals = 4) (hown : s.vm.findClass RX9 = some m.cls) (hts : ∀ w ∈ W0, w.before args s = true) (hlocks : meth.locks = false) (hA : ∀ q : Nat, s.heap.size ≤ q → A q) (hE : EV G A s s.heap) (hK : va_K (DG G) clP3 (TY G) s) (r9 : Int32) : ∀ (n : Nat) (mm : Int32) (tf0 : Nat → Int32) (tf1 : Nat → Int32) (v2 : Int32) (v3 : Int32) (H : Heap) (locs : List Loc), va_P (DG G) clP3 [(t1, .inr (8, [.ref ta0, .ref ta1, .ref ta2, .ref ta3, .ref ta4, .ref ta5, .ref ta6, .ref ta7, .ref ta8, .int mm])), (ta0, .inl (cyA G 0, 32768, .inl (tf0))), (ta1, .inl (cyA G 0, 32768, .inl (tf1)))] H → va_D A [(t1, .inr (8, [.ref ta0, .ref ta1, .ref ta2, .ref ta3, .ref ta4, .ref ta5, .ref ta6, .ref ta7, .ref ta8, .int mm])), (ta0, .inl (cyA G 0, 32768, .inl (tf0))), (ta1, .inl (cyA G 0, 32768, .inl (tf1)))] → va_S A s.heap H locs → ∀ (ls : Array Slot), lv_has ls 4 [(0, .ref t1), (2, .int v2), (3, .int v3)] → f_X9_argumentsOf_L4 n mm tf0 tf1 v2 v3 = some r9 → W p l e ({ frames := 0, cells := 0, slots := 0, locals := 0 }) s m args below meth c H locs 0 0 (MQ below (va_Qi (fun (r : Int32) (_ : Unit) => r = r9) (fun _ t => PW G A [(t1, .inr (8, [.ref ta0, .ref ta1, .ref ta2, .ref ta3, .ref ta4, .ref ta5, .ref ta6, .ref ta7, .ref ta8, .int mm])), (ta0, .inl (cyA G 0, 32768, .inl (tf0))), (ta1, .inl (cyA G 0, 32768, .inl (tf1)))] t) A) args s 0 0 A) (F0 m 4 ls []) := by
  intro n
  induction n with
  | zero =>
    intro mm tf0 tf1 v2 v3 H locs hP hD hS ls hl hm
    rw [f_X9_argumentsOf_L4] at hm
    cases hm
  | succ n ih =>
    intro mm tf0 tf1 v2 v3 H locs hP hD hS ls hl hm
    rw [f_X9_argumentsOf_L4] at hm
    refine lv_iload_n hx hb dX9_argumentsOf_4 rfl (lv_at hl 2 rfl) ?_
    refine lv_sipush (v := 200) hx hb dX9_argumentsOf_5 (by decide) ?_
    refine lv_icmp_ge (tgt := 47) hx hb dX9_argumentsOf_8 (by decide) (fun c_1 => ?_) (fun c_1 => ?_)
    · rw [if_pos c_1] at hm
      refine lv_iload_n hx hb dX9_argumentsOf_47 rfl (lv_at hl 2 rfl) ?_
      obtain rfl := Option.some.inj hm
      have hP9 := hP.sub (ws' := [(t1, .inr (8, [.ref ta0, .ref ta1, .ref ta2, .ref ta3, .ref ta4, .ref ta5, .ref ta6, .ref ta7, .ref ta8, .int mm])), (ta0, .inl (cyA G 0, 32768, .inl (tf0))), (ta1, .inl (cyA G 0, 32768, .inl (tf1)))]) [0, 1, 2] rfl
      have hD9 := hD.sub (ws' := [(t1, .inr (8, [.ref ta0, .ref ta1, .ref ta2, .ref ta3, .ref ta4, .ref ta5, .ref ta6, .ref ta7, .ref ta8, .int mm])), (ta0, .inl (cyA G 0, 32768, .inl (tf0))), (ta1, .inl (cyA G 0, 32768, .inl (tf1)))]) [0, 1, 2] (by decide) rfl
      refine W.widen (k := 0) (n := 0) (Nat.le_of_ble_eq_true rfl) (Nat.le_of_ble_eq_true rfl) ?_
      exact W.iret (v := v3) hx hb hr (fun t ht hW => ⟨⟨v3, (), rfl, rfl, ⟨by rw [ht]; exact hP9, hD9⟩⟩, hS.F ht⟩) hS.2.2 dX9_argumentsOf_48 hlocks
    · rw [if_neg c_1] at hm
      refine lv_iload_n hx hb dX9_argumentsOf_11 rfl (lv_at hl 1 rfl) ?_
      refine lv_if_lt (tgt := 47) hx hb dX9_argumentsOf_12 (by decide) (fun c_2 => ?_) (fun c_2 => ?_)
      · rw [if_pos c_2] at hm
        refine lv_iload_n hx hb dX9_argumentsOf_47 rfl (lv_at hl 2 rfl) ?_
        obtain rfl := Option.some.inj hm
        have hP9 := hP.sub (ws' := [(t1, .inr (8, [.ref ta0, .ref ta1, .ref ta2, .ref ta3, .ref ta4, .ref ta5, .ref ta6, .ref ta7, .ref ta8, .int mm])), (ta0, .inl (cyA G 0, 32768, .inl (tf0))), (ta1, .inl (cyA G 0, 32768, .inl (tf1)))]) [0, 1, 2] rfl
        have hD9 := hD.sub (ws' := [(t1, .inr (8, [.ref ta0, .ref ta1, .ref ta2, .ref ta3, .ref ta4, .ref ta5, .ref ta6, .ref ta7, .ref ta8, .int mm])), (ta0, .inl (cyA G 0, 32768, .inl (tf0))), (ta1, .inl (cyA G 0, 32768, .inl (tf1)))]) [0, 1, 2] (by decide) rfl
        refine W.widen (k := 0) (n := 0) (Nat.le_of_ble_eq_true rfl) (Nat.le_of_ble_eq_true rfl) ?_
        exact W.iret (v := v3) hx hb hr (fun t ht hW => ⟨⟨v3, (), rfl, rfl, ⟨by rw [ht]; exact hP9, hD9⟩⟩, hS.F ht⟩) hS.2.2 dX9_argumentsOf_48 hlocks
      · rw [if_neg c_2] at hm
        refine lv_iload_n hx hb dX9_argumentsOf_15 rfl (lv_at hl 1 rfl) ?_
        refine lv_aload_n hx hb dX9_argumentsOf_16 rfl (lv_at hl 0 rfl) ?_
        refine va_get (D := DG G) (ci := 8) (v := .int mm) (C := RX9) (T := TX9) (N := 10) hx hb hts inW_X9 hown hK hP 0 rfl rfl 9 (by decide) (hts _ wm49) (fun _ h9 => h9) rfl dX9_argumentsOf_17 ?_
        refine lv_icmp_ge (tgt := 47) hx hb dX9_argumentsOf_20 (by decide) (fun c_3 => ?_) (fun c_3 => ?_)
        · rw [if_pos c_3] at hm
          refine lv_iload_n hx hb dX9_argumentsOf_47 rfl (lv_at hl 2 rfl) ?_
          obtain rfl := Option.some.inj hm
          have hP9 := hP.sub (ws' := [(t1, .inr (8, [.ref ta0, .ref ta1, .ref ta2, .ref ta3, .ref ta4, .ref ta5, .ref ta6, .ref ta7, .ref ta8, .int mm])), (ta0, .inl (cyA G 0, 32768, .inl (tf0))), (ta1, .inl (cyA G 0, 32768, .inl (tf1)))]) [0, 1, 2] rfl
          have hD9 := hD.sub (ws' := [(t1, .inr (8, [.ref ta0, .ref ta1, .ref ta2, .ref ta3, .ref ta4, .ref ta5, .ref ta6, .ref ta7, .ref ta8, .int mm])), (ta0, .inl (cyA G 0, 32768, .inl (tf0))), (ta1, .inl (cyA G 0, 32768, .inl (tf1)))]) [0, 1, 2] (by decide) rfl
          refine W.widen (k := 0) (n := 0) (Nat.le_of_ble_eq_true rfl) (Nat.le_of_ble_eq_true rfl) ?_
          exact W.iret (v := v3) hx hb hr (fun t ht hW => ⟨⟨v3, (), rfl, rfl, ⟨by rw [ht]; exact hP9, hD9⟩⟩, hS.F ht⟩) hS.2.2 dX9_argumentsOf_48 hlocks
        · rw [if_neg c_3] at hm
          refine lv_aload_n hx hb dX9_argumentsOf_23 rfl (lv_at hl 0 rfl) ?_
          refine va_get (D := DG G) (ci := 8) (v := .ref ta0) (C := RX9) (T := TX9) (N := 10) hx hb hts inW_X9 hown hK hP 0 rfl rfl 0 (by decide) (hts _ wm40) (fun _ h9 => h9) rfl dX9_argumentsOf_24 ?_
          refine lv_iload_n hx hb dX9_argumentsOf_27 rfl (lv_at hl 1 rfl) ?_
          obtain ⟨b_4, hm⟩ := ite_some hm
          refine va_iald hx hb hK hP 1 0 rfl rfl (inb_vp b_4) dX9_argumentsOf_28 ?_
          refine lv_bipush (v := 7) hx hb dX9_argumentsOf_29 (by decide) ?_
          refine lv_icmp_ne (tgt := 47) hx hb dX9_argumentsOf_31 (by decide) (fun c_5 => ?_) (fun c_5 => ?_)
          · rw [if_neg c_5] at hm
            refine lv_iload_n hx hb dX9_argumentsOf_47 rfl (lv_at hl 2 rfl) ?_
            obtain rfl := Option.some.inj hm
            have hP9 := hP.sub (ws' := [(t1, .inr (8, [.ref ta0, .ref ta1, .ref ta2, .ref ta3, .ref ta4, .ref ta5, .ref ta6, .ref ta7, .ref ta8, .int mm])), (ta0, .inl (cyA G 0, 32768, .inl (tf0))), (ta1, .inl (cyA G 0, 32768, .inl (tf1)))]) [0, 1, 2] rfl
            have hD9 := hD.sub (ws' := [(t1, .inr (8, [.ref ta0, .ref ta1, .ref ta2, .ref ta3, .ref ta4, .ref ta5, .ref ta6, .ref ta7, .ref ta8, .int mm])), (ta0, .inl (cyA G 0, 32768, .inl (tf0))), (ta1, .inl (cyA G 0, 32768, .inl (tf1)))]) [0, 1, 2] (by decide) rfl
            refine W.widen (k := 0) (n := 0) (Nat.le_of_ble_eq_true rfl) (Nat.le_of_ble_eq_true rfl) ?_
            exact W.iret (v := v3) hx hb hr (fun t ht hW => ⟨⟨v3, (), rfl, rfl, ⟨by rw [ht]; exact hP9, hD9⟩⟩, hS.F ht⟩) hS.2.2 dX9_argumentsOf_48 hlocks
          · rw [if_pos c_5] at hm
            refine lv_aload_n hx hb dX9_argumentsOf_34 rfl (lv_at hl 0 rfl) ?_
            refine va_get (D := DG G) (ci := 8) (v := .ref ta1) (C := RX9) (T := TX9) (N := 10) hx hb hts inW_X9 hown hK hP 0 rfl rfl 1 (by decide) (hts _ wm41) (fun _ h9 => h9) rfl dX9_argumentsOf_35 ?_
            refine lv_iload_n hx hb dX9_argumentsOf_38 rfl (lv_at hl 1 rfl) ?_
            obtain ⟨b_6, hm⟩ := ite_some hm
            refine va_iald hx hb hK hP 2 0 rfl rfl (inb_vp b_6) dX9_argumentsOf_39 ?_
            refine lv_istore_n (lv' := [(2, .int (tf1 (Int32.toNatClampNeg v2))), (0, .ref t1), (3, .int v3)]) hx hb dX9_argumentsOf_40 rfl hl (by decide) rfl (fun ls hl => ?_)
            refine lv_iinc (v := (v3 + 1)) (lv' := [(3, .int (v3 + 1)), (2, .int (tf1 (Int32.toNatClampNeg v2))), (0, .ref t1)]) hx hb dX9_argumentsOf_41 hl (k := 2) rfl rfl (by decide) rfl (fun ls hl => ?_)
            refine lv_goto (tgt := 4) hx hb dX9_argumentsOf_44 (by decide) ?_
            have hP9 := hP.sub (ws' := [(t1, .inr (8, [.ref ta0, .ref ta1, .ref ta2, .ref ta3, .ref ta4, .ref ta5, .ref ta6, .ref ta7, .ref ta8, .int mm])), (ta0, .inl (cyA G 0, 32768, .inl (tf0))), (ta1, .inl (cyA G 0, 32768, .inl (tf1)))]) [0, 1, 2] rfl
            have hD9 := hD.sub (ws' := [(t1, .inr (8, [.ref ta0, .ref ta1, .ref ta2, .ref ta3, .ref ta4, .ref ta5, .ref ta6, .ref ta7, .ref ta8, .int mm])), (ta0, .inl (cyA G 0, 32768, .inl (tf0))), (ta1, .inl (cyA G 0, 32768, .inl (tf1)))]) [0, 1, 2] (by decide) rfl
            refine W.widen (k := 0) (n := 0) (Nat.le_of_ble_eq_true rfl) (Nat.le_of_ble_eq_true rfl) ?_
            exact ih mm tf0 tf1 (tf1 (Int32.toNatClampNeg v2)) (v3 + 1) _ _ hP9 hD9 hS _ (lv_sub hl [2, 1, 0] rfl) hm
set_option maxHeartbeats 4000000 in
set_option maxRecDepth 100000 in
theorem k_X9_argumentsOf (l : Launch) (hfl : l.stackTraces = false) (G : GC) (t1 : Nat) (p1 : Int32) (ta0 : Nat) (ta1 : Nat) (ta2 : Nat) (ta3 : Nat) (ta4 : Nat) (ta5 : Nat) (ta6 : Nat) (ta7 : Nat) (ta8 : Nat) (mm : Int32) (tf0 : Nat → Int32) (tf1 : Nat → Int32) (r9 : Int32) (hm : f_X9_argumentsOf mm tf0 tf1 p1 = some r9) (sz : Nat) : Met l yX9_argumentsOf (Cond.code yX9_argumentsOf cX9_argumentsOf 4 (some .int) :: W0) ({ frames := 0, cells := 0, slots := 0, locals := 0 }) (va_Pc [.ref t1, .int p1] (WD G [(t1, .inr (8, [.ref ta0, .ref ta1, .ref ta2, .ref ta3, .ref ta4, .ref ta5, .ref ta6, .ref ta7, .ref ta8, .int mm])), (ta0, .inl (cyA G 0, 32768, .inl (tf0))), (ta1, .inl (cyA G 0, 32768, .inl (tf1)))] sz)) (va_Qi (fun (r : Int32) (_ : Unit) => r = r9) (fun _ t => PW G (va_A [(t1, .inr (8, [.ref ta0, .ref ta1, .ref ta2, .ref ta3, .ref ta4, .ref ta5, .ref ta6, .ref ta7, .ref ta8, .int mm])), (ta0, .inl (cyA G 0, 32768, .inl (tf0))), (ta1, .inl (cyA G 0, 32768, .inl (tf1)))] sz) [(t1, .inr (8, [.ref ta0, .ref ta1, .ref ta2, .ref ta3, .ref ta4, .ref ta5, .ref ta6, .ref ta7, .ref ta8, .int mm])), (ta0, .inl (cyA G 0, 32768, .inl (tf0))), (ta1, .inl (cyA G 0, 32768, .inl (tf1)))] t) (va_A [(t1, .inr (8, [.ref ta0, .ref ta1, .ref ta2, .ref ta3, .ref ta4, .ref ta5, .ref ta6, .ref ta7, .ref ta8, .int mm])), (ta0, .inl (cyA G 0, 32768, .inl (tf0))), (ta1, .inl (cyA G 0, 32768, .inl (tf1)))] sz)) 0 0 (va_A [(t1, .inr (8, [.ref ta0, .ref ta1, .ref ta2, .ref ta3, .ref ta4, .ref ta5, .ref ta6, .ref ta7, .ref ta8, .int mm])), (ta0, .inl (cyA G 0, 32768, .inl (tf0))), (ta1, .inl (cyA G 0, 32768, .inl (tf1)))] sz) := by
  rw [f_X9_argumentsOf] at hm
  refine Met.ofW (cc := cX9_argumentsOf) (maxL := 4) (ret := (some .int)) (by decide) rfl ?_
  intro p e s m args below meth c s₁ B hml hv
  obtain ⟨rfl, hsz, hP, hK, hD0, hE⟩ := hv
  have hx := B.exec
  have hb := B.bytes
  have hr := B.returns
  have hts := w0_tail B.pre
  have hown : s.vm.findClass RX9 = some m.cls := findClass_of_methodNamed B.named
  have hlocks := B.notSynchronized
  subst hsz
  have hD := hD0.self (sz := s.heap.size)
  generalize hAe : va_A [(t1, .inr (8, [.ref ta0, .ref ta1, .ref ta2, .ref ta3, .ref ta4, .ref ta5, .ref ta6, .ref ta7, .ref ta8, .int mm])), (ta0, .inl (cyA G 0, 32768, .inl (tf0))), (ta1, .inl (cyA G 0, 32768, .inl (tf1)))] s.heap.size = A at hD hE ⊢
  have hA : ∀ q : Nat, s.heap.size ≤ q → A q := fun q h => by rw [← hAe]; exact Or.inr h
  have hS : va_S A s.heap s.heap [] := va_S.rf
  obtain ⟨H, hHe⟩ : ∃ H : Heap, H = s.heap := ⟨_, rfl⟩
  have hP : va_P (DG G) clP3 [(t1, .inr (8, [.ref ta0, .ref ta1, .ref ta2, .ref ta3, .ref ta4, .ref ta5, .ref ta6, .ref ta7, .ref ta8, .int mm])), (ta0, .inl (cyA G 0, 32768, .inl (tf0))), (ta1, .inl (cyA G 0, 32768, .inl (tf1)))] H := by rw [hHe]; exact hP
  have hS : va_S A s.heap H [] := by rw [hHe]; exact hS
  have hl := lv_entry ([.ref t1, .int p1]) (n := 4) (Nat.le_of_ble_eq_true rfl)
  rw [lg_entry_eq, ← hHe]
  generalize (lg_sl ([.ref t1, .int p1]) ++ List.replicate (4 - (lg_sl ([.ref t1, .int p1])).length) Slot.unset).toArray = ls at hl ⊢
  have hl : lv_has ls 4 [(0, .ref t1), (1, .int p1)] := hl
  refine lv_iload_n hx hb dX9_argumentsOf_0 rfl (lv_at hl 1 rfl) ?_
  refine lv_istore_n (lv' := [(2, .int p1), (0, .ref t1), (1, .int p1)]) hx hb dX9_argumentsOf_1 rfl hl (by decide) rfl (fun ls hl => ?_)
  refine lv_iconst (v := 0) hx hb dX9_argumentsOf_2 (by decide) ?_
  refine lv_istore_n (lv' := [(3, .int 0), (2, .int p1), (0, .ref t1), (1, .int p1)]) hx hb dX9_argumentsOf_3 rfl hl (by decide) rfl (fun ls hl => ?_)
  have hP9 := hP.sub (ws' := [(t1, .inr (8, [.ref ta0, .ref ta1, .ref ta2, .ref ta3, .ref ta4, .ref ta5, .ref ta6, .ref ta7, .ref ta8, .int mm])), (ta0, .inl (cyA G 0, 32768, .inl (tf0))), (ta1, .inl (cyA G 0, 32768, .inl (tf1)))]) [0, 1, 2] rfl
  have hD9 := hD.sub (ws' := [(t1, .inr (8, [.ref ta0, .ref ta1, .ref ta2, .ref ta3, .ref ta4, .ref ta5, .ref ta6, .ref ta7, .ref ta8, .int mm])), (ta0, .inl (cyA G 0, 32768, .inl (tf0))), (ta1, .inl (cyA G 0, 32768, .inl (tf1)))]) [0, 1, 2] (by decide) rfl
  refine W.widen (k := 0) (n := 0) (Nat.le_of_ble_eq_true rfl) (Nat.le_of_ble_eq_true rfl) ?_
  exact kl_X9_argumentsOf_4 hfl hx hb hr hml hown hts hlocks hA hE hK r9 100000 mm tf0 tf1 p1 0 _ _ hP9 hD9 hS _ (lv_sub hl [2, 1, 0] rfl) hm
def f_X9_mark  (mm : Int32)  : Option (Int32) := some mm
set_option maxHeartbeats 4000000 in
set_option maxRecDepth 100000 in
theorem k_X9_mark (l : Launch) (hfl : l.stackTraces = false) (G : GC) (t1 : Nat) (ta0 : Nat) (ta1 : Nat) (ta2 : Nat) (ta3 : Nat) (ta4 : Nat) (ta5 : Nat) (ta6 : Nat) (ta7 : Nat) (ta8 : Nat) (mm : Int32) (r9 : Int32) (hm : f_X9_mark mm = some r9) (sz : Nat) : Met l yX9_mark (Cond.code yX9_mark cX9_mark 1 (some .int) :: W0) ({ frames := 0, cells := 0, slots := 0, locals := 0 }) (va_Pc [.ref t1] (WD G [(t1, .inr (8, [.ref ta0, .ref ta1, .ref ta2, .ref ta3, .ref ta4, .ref ta5, .ref ta6, .ref ta7, .ref ta8, .int mm]))] sz)) (va_Qi (fun (r : Int32) (_ : Unit) => r = r9) (fun _ t => PW G (va_A [(t1, .inr (8, [.ref ta0, .ref ta1, .ref ta2, .ref ta3, .ref ta4, .ref ta5, .ref ta6, .ref ta7, .ref ta8, .int mm]))] sz) [(t1, .inr (8, [.ref ta0, .ref ta1, .ref ta2, .ref ta3, .ref ta4, .ref ta5, .ref ta6, .ref ta7, .ref ta8, .int mm]))] t) (va_A [(t1, .inr (8, [.ref ta0, .ref ta1, .ref ta2, .ref ta3, .ref ta4, .ref ta5, .ref ta6, .ref ta7, .ref ta8, .int mm]))] sz)) 0 0 (va_A [(t1, .inr (8, [.ref ta0, .ref ta1, .ref ta2, .ref ta3, .ref ta4, .ref ta5, .ref ta6, .ref ta7, .ref ta8, .int mm]))] sz) := by
  rw [f_X9_mark] at hm
  refine Met.ofW (cc := cX9_mark) (maxL := 1) (ret := (some .int)) (by decide) rfl ?_
  intro p e s m args below meth c s₁ B hml hv
  obtain ⟨rfl, hsz, hP, hK, hD0, hE⟩ := hv
  have hx := B.exec
  have hb := B.bytes
  have hr := B.returns
  have hts := w0_tail B.pre
  have hown : s.vm.findClass RX9 = some m.cls := findClass_of_methodNamed B.named
  have hlocks := B.notSynchronized
  subst hsz
  have hD := hD0.self (sz := s.heap.size)
  generalize hAe : va_A [(t1, .inr (8, [.ref ta0, .ref ta1, .ref ta2, .ref ta3, .ref ta4, .ref ta5, .ref ta6, .ref ta7, .ref ta8, .int mm]))] s.heap.size = A at hD hE ⊢
  have hA : ∀ q : Nat, s.heap.size ≤ q → A q := fun q h => by rw [← hAe]; exact Or.inr h
  have hS : va_S A s.heap s.heap [] := va_S.rf
  obtain ⟨H, hHe⟩ : ∃ H : Heap, H = s.heap := ⟨_, rfl⟩
  have hP : va_P (DG G) clP3 [(t1, .inr (8, [.ref ta0, .ref ta1, .ref ta2, .ref ta3, .ref ta4, .ref ta5, .ref ta6, .ref ta7, .ref ta8, .int mm]))] H := by rw [hHe]; exact hP
  have hS : va_S A s.heap H [] := by rw [hHe]; exact hS
  have hl := lv_entry ([.ref t1]) (n := 1) (Nat.le_of_ble_eq_true rfl)
  rw [lg_entry_eq, ← hHe]
  generalize (lg_sl ([.ref t1]) ++ List.replicate (1 - (lg_sl ([.ref t1])).length) Slot.unset).toArray = ls at hl ⊢
  have hl : lv_has ls 1 [(0, .ref t1)] := hl
  refine lv_aload_n hx hb dX9_mark_0 rfl (lv_at hl 0 rfl) ?_
  refine va_get (D := DG G) (ci := 8) (v := .int mm) (C := RX9) (T := TX9) (N := 10) hx hb hts inW_X9 hown hK hP 0 rfl rfl 9 (by decide) (hts _ wm49) (fun _ h9 => h9) rfl dX9_mark_1 ?_
  obtain rfl := Option.some.inj hm
  have hP9 := hP.sub (ws' := [(t1, .inr (8, [.ref ta0, .ref ta1, .ref ta2, .ref ta3, .ref ta4, .ref ta5, .ref ta6, .ref ta7, .ref ta8, .int mm]))]) [0] rfl
  have hD9 := hD.sub (ws' := [(t1, .inr (8, [.ref ta0, .ref ta1, .ref ta2, .ref ta3, .ref ta4, .ref ta5, .ref ta6, .ref ta7, .ref ta8, .int mm]))]) [0] (by decide) rfl
  refine W.widen (k := 0) (n := 0) (Nat.le_of_ble_eq_true rfl) (Nat.le_of_ble_eq_true rfl) ?_
  exact W.iret (v := mm) hx hb hr (fun t ht hW => ⟨⟨mm, (), rfl, rfl, ⟨by rw [ht]; exact hP9, hD9⟩⟩, hS.F ht⟩) hS.2.2 dX9_mark_4 hlocks
def f_X9_release  (mm : Int32) (p1 : Int32) : Option (Int32) := (if p1 < 0 then some mm else (if mm ≤ p1 then some mm else some p1))
set_option maxHeartbeats 4000000 in
set_option maxRecDepth 100000 in
theorem k_X9_release (l : Launch) (hfl : l.stackTraces = false) (G : GC) (t1 : Nat) (p1 : Int32) (ta0 : Nat) (ta1 : Nat) (ta2 : Nat) (ta3 : Nat) (ta4 : Nat) (ta5 : Nat) (ta6 : Nat) (ta7 : Nat) (ta8 : Nat) (mm : Int32) (mm_9 : Int32) (hm : f_X9_release mm p1 = some mm_9) (sz : Nat) : Met l yX9_release (Cond.code yX9_release cX9_release 2 none :: W0) ({ frames := 0, cells := 0, slots := 0, locals := 0 }) (va_Pc [.ref t1, .int p1] (WD G [(t1, .inr (8, [.ref ta0, .ref ta1, .ref ta2, .ref ta3, .ref ta4, .ref ta5, .ref ta6, .ref ta7, .ref ta8, .int mm]))] sz)) (va_Qv (fun _ : Unit => True) (fun _ t => PW G (va_A [(t1, .inr (8, [.ref ta0, .ref ta1, .ref ta2, .ref ta3, .ref ta4, .ref ta5, .ref ta6, .ref ta7, .ref ta8, .int mm]))] sz) [(t1, .inr (8, [.ref ta0, .ref ta1, .ref ta2, .ref ta3, .ref ta4, .ref ta5, .ref ta6, .ref ta7, .ref ta8, .int mm_9]))] t) (va_A [(t1, .inr (8, [.ref ta0, .ref ta1, .ref ta2, .ref ta3, .ref ta4, .ref ta5, .ref ta6, .ref ta7, .ref ta8, .int mm]))] sz)) 0 0 (va_A [(t1, .inr (8, [.ref ta0, .ref ta1, .ref ta2, .ref ta3, .ref ta4, .ref ta5, .ref ta6, .ref ta7, .ref ta8, .int mm]))] sz) := by
  rw [f_X9_release] at hm
  refine Met.ofW (cc := cX9_release) (maxL := 2) (ret := none) (by decide) rfl ?_
  intro p e s m args below meth c s₁ B hml hv
  obtain ⟨rfl, hsz, hP, hK, hD0, hE⟩ := hv
  have hx := B.exec
  have hb := B.bytes
  have hr := B.returns
  have hts := w0_tail B.pre
  have hown : s.vm.findClass RX9 = some m.cls := findClass_of_methodNamed B.named
  have hlocks := B.notSynchronized
  subst hsz
  have hD := hD0.self (sz := s.heap.size)
  generalize hAe : va_A [(t1, .inr (8, [.ref ta0, .ref ta1, .ref ta2, .ref ta3, .ref ta4, .ref ta5, .ref ta6, .ref ta7, .ref ta8, .int mm]))] s.heap.size = A at hD hE ⊢
  have hA : ∀ q : Nat, s.heap.size ≤ q → A q := fun q h => by rw [← hAe]; exact Or.inr h
  have hS : va_S A s.heap s.heap [] := va_S.rf
  obtain ⟨H, hHe⟩ : ∃ H : Heap, H = s.heap := ⟨_, rfl⟩
  have hP : va_P (DG G) clP3 [(t1, .inr (8, [.ref ta0, .ref ta1, .ref ta2, .ref ta3, .ref ta4, .ref ta5, .ref ta6, .ref ta7, .ref ta8, .int mm]))] H := by rw [hHe]; exact hP
  have hS : va_S A s.heap H [] := by rw [hHe]; exact hS
  have hl := lv_entry ([.ref t1, .int p1]) (n := 2) (Nat.le_of_ble_eq_true rfl)
  rw [lg_entry_eq, ← hHe]
  generalize (lg_sl ([.ref t1, .int p1]) ++ List.replicate (2 - (lg_sl ([.ref t1, .int p1])).length) Slot.unset).toArray = ls at hl ⊢
  have hl : lv_has ls 2 [(0, .ref t1), (1, .int p1)] := hl
  refine lv_iload_n hx hb dX9_release_0 rfl (lv_at hl 1 rfl) ?_
  refine lv_if_lt (tgt := 17) hx hb dX9_release_1 (by decide) (fun c_1 => ?_) (fun c_1 => ?_)
  · rw [if_pos c_1] at hm
    obtain rfl := Option.some.inj hm
    have hP9 := hP.sub (ws' := [(t1, .inr (8, [.ref ta0, .ref ta1, .ref ta2, .ref ta3, .ref ta4, .ref ta5, .ref ta6, .ref ta7, .ref ta8, .int mm]))]) [0] rfl
    have hD9 := hD.sub (ws' := [(t1, .inr (8, [.ref ta0, .ref ta1, .ref ta2, .ref ta3, .ref ta4, .ref ta5, .ref ta6, .ref ta7, .ref ta8, .int mm]))]) [0] (by decide) rfl
    refine W.widen (k := 0) (n := 0) (Nat.le_of_ble_eq_true rfl) (Nat.le_of_ble_eq_true rfl) ?_
    exact W.vret hx hb hr (fun t ht hW => ⟨⟨(), rfl, trivial, ⟨by rw [ht]; exact hP9, hD9⟩⟩, hS.F ht⟩) hS.2.2 dX9_release_17 hlocks
  · rw [if_neg c_1] at hm
    refine lv_iload_n hx hb dX9_release_4 rfl (lv_at hl 1 rfl) ?_
    refine lv_aload_n hx hb dX9_release_5 rfl (lv_at hl 0 rfl) ?_
    refine va_get (D := DG G) (ci := 8) (v := .int mm) (C := RX9) (T := TX9) (N := 10) hx hb hts inW_X9 hown hK hP 0 rfl rfl 9 (by decide) (hts _ wm49) (fun _ h9 => h9) rfl dX9_release_6 ?_
    refine lv_icmp_ge (tgt := 17) hx hb dX9_release_9 (by decide) (fun c_2 => ?_) (fun c_2 => ?_)
    · rw [if_pos c_2] at hm
      obtain rfl := Option.some.inj hm
      have hP9 := hP.sub (ws' := [(t1, .inr (8, [.ref ta0, .ref ta1, .ref ta2, .ref ta3, .ref ta4, .ref ta5, .ref ta6, .ref ta7, .ref ta8, .int mm]))]) [0] rfl
      have hD9 := hD.sub (ws' := [(t1, .inr (8, [.ref ta0, .ref ta1, .ref ta2, .ref ta3, .ref ta4, .ref ta5, .ref ta6, .ref ta7, .ref ta8, .int mm]))]) [0] (by decide) rfl
      refine W.widen (k := 0) (n := 0) (Nat.le_of_ble_eq_true rfl) (Nat.le_of_ble_eq_true rfl) ?_
      exact W.vret hx hb hr (fun t ht hW => ⟨⟨(), rfl, trivial, ⟨by rw [ht]; exact hP9, hD9⟩⟩, hS.F ht⟩) hS.2.2 dX9_release_17 hlocks
    · rw [if_neg c_2] at hm
      refine lv_aload_n hx hb dX9_release_12 rfl (lv_at hl 0 rfl) ?_
      refine lv_iload_n hx hb dX9_release_13 rfl (lv_at hl 1 rfl) ?_
      refine va_put (D := DG G) (ci := 8) (v := .int p1) (ty := tyX9 9) (C := RX9) (T := TX9) (N := 10) hx hb hts inW_X9 tyX9 tyX9_ok nmX9 hown hK hP hD hS 0 rfl rfl 9 (by decide) (hts _ wm49) (fun _ h9 => h9) rfl (by decide +kernel) rfl rfl (Nat.le_of_ble_eq_true rfl) dX9_release_14 (fun H locs hP hD hS => ?_)
      have hP : va_P (DG G) clP3 [(t1, .inr (8, [.ref ta0, .ref ta1, .ref ta2, .ref ta3, .ref ta4, .ref ta5, .ref ta6, .ref ta7, .ref ta8, .int p1]))] H := hP
      have hD : va_D A [(t1, .inr (8, [.ref ta0, .ref ta1, .ref ta2, .ref ta3, .ref ta4, .ref ta5, .ref ta6, .ref ta7, .ref ta8, .int p1]))] := hD
      obtain rfl := Option.some.inj hm
      have hP9 := hP.sub (ws' := [(t1, .inr (8, [.ref ta0, .ref ta1, .ref ta2, .ref ta3, .ref ta4, .ref ta5, .ref ta6, .ref ta7, .ref ta8, .int p1]))]) [0] rfl
      have hD9 := hD.sub (ws' := [(t1, .inr (8, [.ref ta0, .ref ta1, .ref ta2, .ref ta3, .ref ta4, .ref ta5, .ref ta6, .ref ta7, .ref ta8, .int p1]))]) [0] (by decide) rfl
      refine W.widen (k := 0) (n := 0) (Nat.le_of_ble_eq_true rfl) (Nat.le_of_ble_eq_true rfl) ?_
      exact W.vret hx hb hr (fun t ht hW => ⟨⟨(), rfl, trivial, ⟨by rw [ht]; exact hP9, hD9⟩⟩, hS.F ht⟩) hS.2.2 dX9_release_17 hlocks
def f_X9_leaf  (mm : Int32) (tf0 : Nat → Int32) (tf1 : Nat → Int32) (tf2 : Nat → Int32) (tf3 : Nat → Int32) (tf4 : Nat → Int32) (tf5 : Nat → Int32) (tf6 : Nat → Int32) (tf7 : Nat → Int32) (p1 : Int32) (p2 : Int32) : Option (Int32 × Int32 × (Nat → Int32) × (Nat → Int32) × (Nat → Int32) × (Nat → Int32) × (Nat → Int32) × (Nat → Int32) × (Nat → Int32) × (Nat → Int32)) := (if p1 < 0 then some ((-1), mm, tf0, tf1, tf2, tf3, tf4, tf5, tf6, tf7) else (if 4 < p1 then some ((-1), mm, tf0, tf1, tf2, tf3, tf4, tf5, tf6, tf7) else (if mm < 32768 then (if inb mm 32768 = true then (if inb mm 32768 = true then (if inb mm 32768 = true then (if inb mm 32768 = true then (if inb p1 5 = true then (if inb mm 32768 = true then (if p1 = 1 then (if inb mm 32768 = true then (if p1 = 4 then (if inb mm 32768 = true then (if inb mm 32768 = true then some (mm, (mm + 1), upd tf0 (Int32.toNatClampNeg mm) p1, upd tf1 (Int32.toNatClampNeg mm) p2, upd tf2 (Int32.toNatClampNeg mm) (-1), upd tf3 (Int32.toNatClampNeg mm) 1, upd tf4 (Int32.toNatClampNeg mm) ((sa_0 (Int32.toNatClampNeg p1)) + p2), upd tf5 (Int32.toNatClampNeg mm) (p2 + 1), upd tf6 (Int32.toNatClampNeg mm) ((1 : Int32) <<< (p2 &&& 31)), upd tf7 (Int32.toNatClampNeg mm) (vp_nar .boolean 0)) else none) else none) else (if inb mm 32768 = true then (if inb mm 32768 = true then some (mm, (mm + 1), upd tf0 (Int32.toNatClampNeg mm) p1, upd tf1 (Int32.toNatClampNeg mm) p2, upd tf2 (Int32.toNatClampNeg mm) (-1), upd tf3 (Int32.toNatClampNeg mm) 1, upd tf4 (Int32.toNatClampNeg mm) ((sa_0 (Int32.toNatClampNeg p1)) + p2), upd tf5 (Int32.toNatClampNeg mm) (p2 + 1), upd tf6 (Int32.toNatClampNeg mm) 0, upd tf7 (Int32.toNatClampNeg mm) (vp_nar .boolean 0)) else none) else none)) else none) else (if inb mm 32768 = true then (if p1 = 4 then (if inb mm 32768 = true then (if inb mm 32768 = true then some (mm, (mm + 1), upd tf0 (Int32.toNatClampNeg mm) p1, upd tf1 (Int32.toNatClampNeg mm) p2, upd tf2 (Int32.toNatClampNeg mm) (-1), upd tf3 (Int32.toNatClampNeg mm) 1, upd tf4 (Int32.toNatClampNeg mm) ((sa_0 (Int32.toNatClampNeg p1)) + p2), upd tf5 (Int32.toNatClampNeg mm) 0, upd tf6 (Int32.toNatClampNeg mm) ((1 : Int32) <<< (p2 &&& 31)), upd tf7 (Int32.toNatClampNeg mm) (vp_nar .boolean 0)) else none) else none) else (if inb mm 32768 = true then (if inb mm 32768 = true then some (mm, (mm + 1), upd tf0 (Int32.toNatClampNeg mm) p1, upd tf1 (Int32.toNatClampNeg mm) p2, upd tf2 (Int32.toNatClampNeg mm) (-1), upd tf3 (Int32.toNatClampNeg mm) 1, upd tf4 (Int32.toNatClampNeg mm) ((sa_0 (Int32.toNatClampNeg p1)) + p2), upd tf5 (Int32.toNatClampNeg mm) 0, upd tf6 (Int32.toNatClampNeg mm) 0, upd tf7 (Int32.toNatClampNeg mm) (vp_nar .boolean 0)) else none) else none)) else none)) else none) else none) else none) else none) else none) else none) else some ((-1), mm, tf0, tf1, tf2, tf3, tf4, tf5, tf6, tf7))))
set_option maxHeartbeats 4000000 in
set_option maxRecDepth 100000 in
theorem k_X9_leaf (l : Launch) (hfl : l.stackTraces = false) (G : GC) (t1 : Nat) (p1 : Int32) (p2 : Int32) (ta0 : Nat) (ta1 : Nat) (ta2 : Nat) (ta3 : Nat) (ta4 : Nat) (ta5 : Nat) (ta6 : Nat) (ta7 : Nat) (ta8 : Nat) (mm : Int32) (tf0 : Nat → Int32) (tf1 : Nat → Int32) (tf2 : Nat → Int32) (tf3 : Nat → Int32) (tf4 : Nat → Int32) (tf5 : Nat → Int32) (tf6 : Nat → Int32) (tf7 : Nat → Int32) (r9 : Int32) (mm_9 : Int32) (tf0_9 : Nat → Int32) (tf1_9 : Nat → Int32) (tf2_9 : Nat → Int32) (tf3_9 : Nat → Int32) (tf4_9 : Nat → Int32) (tf5_9 : Nat → Int32) (tf6_9 : Nat → Int32) (tf7_9 : Nat → Int32) (hm : f_X9_leaf mm tf0 tf1 tf2 tf3 tf4 tf5 tf6 tf7 p1 p2 = some (r9, mm_9, tf0_9, tf1_9, tf2_9, tf3_9, tf4_9, tf5_9, tf6_9, tf7_9)) (sz : Nat) : Met l yX9_leaf (Cond.code yX9_leaf cX9_leaf 4 (some .int) :: W0) ({ frames := 0, cells := 0, slots := 0, locals := 0 }) (va_Pc [.ref t1, .int p1, .int p2] (WD G [(t1, .inr (8, [.ref ta0, .ref ta1, .ref ta2, .ref ta3, .ref ta4, .ref ta5, .ref ta6, .ref ta7, .ref ta8, .int mm])), (ta0, .inl (cyA G 0, 32768, .inl (tf0))), (ta1, .inl (cyA G 0, 32768, .inl (tf1))), (ta2, .inl (cyA G 0, 32768, .inl (tf2))), (ta3, .inl (cyA G 0, 32768, .inl (tf3))), (ta4, .inl (cyA G 0, 32768, .inl (tf4))), (ta5, .inl (cyA G 0, 32768, .inl (tf5))), (ta6, .inl (cyA G 0, 32768, .inl (tf6))), (ta7, .inl (cyA G 1, 32768, .inl (tf7)))] sz)) (va_Qi (fun (r : Int32) (_ : Unit) => r = r9) (fun _ t => PW G (va_A [(t1, .inr (8, [.ref ta0, .ref ta1, .ref ta2, .ref ta3, .ref ta4, .ref ta5, .ref ta6, .ref ta7, .ref ta8, .int mm])), (ta0, .inl (cyA G 0, 32768, .inl (tf0))), (ta1, .inl (cyA G 0, 32768, .inl (tf1))), (ta2, .inl (cyA G 0, 32768, .inl (tf2))), (ta3, .inl (cyA G 0, 32768, .inl (tf3))), (ta4, .inl (cyA G 0, 32768, .inl (tf4))), (ta5, .inl (cyA G 0, 32768, .inl (tf5))), (ta6, .inl (cyA G 0, 32768, .inl (tf6))), (ta7, .inl (cyA G 1, 32768, .inl (tf7)))] sz) [(t1, .inr (8, [.ref ta0, .ref ta1, .ref ta2, .ref ta3, .ref ta4, .ref ta5, .ref ta6, .ref ta7, .ref ta8, .int mm_9])), (ta0, .inl (cyA G 0, 32768, .inl (tf0_9))), (ta1, .inl (cyA G 0, 32768, .inl (tf1_9))), (ta2, .inl (cyA G 0, 32768, .inl (tf2_9))), (ta3, .inl (cyA G 0, 32768, .inl (tf3_9))), (ta4, .inl (cyA G 0, 32768, .inl (tf4_9))), (ta5, .inl (cyA G 0, 32768, .inl (tf5_9))), (ta6, .inl (cyA G 0, 32768, .inl (tf6_9))), (ta7, .inl (cyA G 1, 32768, .inl (tf7_9)))] t) (va_A [(t1, .inr (8, [.ref ta0, .ref ta1, .ref ta2, .ref ta3, .ref ta4, .ref ta5, .ref ta6, .ref ta7, .ref ta8, .int mm])), (ta0, .inl (cyA G 0, 32768, .inl (tf0))), (ta1, .inl (cyA G 0, 32768, .inl (tf1))), (ta2, .inl (cyA G 0, 32768, .inl (tf2))), (ta3, .inl (cyA G 0, 32768, .inl (tf3))), (ta4, .inl (cyA G 0, 32768, .inl (tf4))), (ta5, .inl (cyA G 0, 32768, .inl (tf5))), (ta6, .inl (cyA G 0, 32768, .inl (tf6))), (ta7, .inl (cyA G 1, 32768, .inl (tf7)))] sz)) 0 0 (va_A [(t1, .inr (8, [.ref ta0, .ref ta1, .ref ta2, .ref ta3, .ref ta4, .ref ta5, .ref ta6, .ref ta7, .ref ta8, .int mm])), (ta0, .inl (cyA G 0, 32768, .inl (tf0))), (ta1, .inl (cyA G 0, 32768, .inl (tf1))), (ta2, .inl (cyA G 0, 32768, .inl (tf2))), (ta3, .inl (cyA G 0, 32768, .inl (tf3))), (ta4, .inl (cyA G 0, 32768, .inl (tf4))), (ta5, .inl (cyA G 0, 32768, .inl (tf5))), (ta6, .inl (cyA G 0, 32768, .inl (tf6))), (ta7, .inl (cyA G 1, 32768, .inl (tf7)))] sz) := by
  rw [f_X9_leaf] at hm
  refine Met.ofW (cc := cX9_leaf) (maxL := 4) (ret := (some .int)) (by decide) rfl ?_
  intro p e s m args below meth c s₁ B hml hv
  obtain ⟨rfl, hsz, hP, hK, hD0, hE⟩ := hv
  have hx := B.exec
  have hb := B.bytes
  have hr := B.returns
  have hts := w0_tail B.pre
  have hown : s.vm.findClass RX9 = some m.cls := findClass_of_methodNamed B.named
  have hlocks := B.notSynchronized
  subst hsz
  have hD := hD0.self (sz := s.heap.size)
  generalize hAe : va_A [(t1, .inr (8, [.ref ta0, .ref ta1, .ref ta2, .ref ta3, .ref ta4, .ref ta5, .ref ta6, .ref ta7, .ref ta8, .int mm])), (ta0, .inl (cyA G 0, 32768, .inl (tf0))), (ta1, .inl (cyA G 0, 32768, .inl (tf1))), (ta2, .inl (cyA G 0, 32768, .inl (tf2))), (ta3, .inl (cyA G 0, 32768, .inl (tf3))), (ta4, .inl (cyA G 0, 32768, .inl (tf4))), (ta5, .inl (cyA G 0, 32768, .inl (tf5))), (ta6, .inl (cyA G 0, 32768, .inl (tf6))), (ta7, .inl (cyA G 1, 32768, .inl (tf7)))] s.heap.size = A at hD hE ⊢
  have hA : ∀ q : Nat, s.heap.size ≤ q → A q := fun q h => by rw [← hAe]; exact Or.inr h
  have hS : va_S A s.heap s.heap [] := va_S.rf
  obtain ⟨H, hHe⟩ : ∃ H : Heap, H = s.heap := ⟨_, rfl⟩
  have hP : va_P (DG G) clP3 [(t1, .inr (8, [.ref ta0, .ref ta1, .ref ta2, .ref ta3, .ref ta4, .ref ta5, .ref ta6, .ref ta7, .ref ta8, .int mm])), (ta0, .inl (cyA G 0, 32768, .inl (tf0))), (ta1, .inl (cyA G 0, 32768, .inl (tf1))), (ta2, .inl (cyA G 0, 32768, .inl (tf2))), (ta3, .inl (cyA G 0, 32768, .inl (tf3))), (ta4, .inl (cyA G 0, 32768, .inl (tf4))), (ta5, .inl (cyA G 0, 32768, .inl (tf5))), (ta6, .inl (cyA G 0, 32768, .inl (tf6))), (ta7, .inl (cyA G 1, 32768, .inl (tf7)))] H := by rw [hHe]; exact hP
  have hS : va_S A s.heap H [] := by rw [hHe]; exact hS
  have hl := lv_entry ([.ref t1, .int p1, .int p2]) (n := 4) (Nat.le_of_ble_eq_true rfl)
  rw [lg_entry_eq, ← hHe]
  generalize (lg_sl ([.ref t1, .int p1, .int p2]) ++ List.replicate (4 - (lg_sl ([.ref t1, .int p1, .int p2])).length) Slot.unset).toArray = ls at hl ⊢
  have hl : lv_has ls 4 [(0, .ref t1), (1, .int p1), (2, .int p2)] := hl
  refine lv_iload_n hx hb dX9_leaf_0 rfl (lv_at hl 1 rfl) ?_
  refine lv_if_lt (tgt := 18) hx hb dX9_leaf_1 (by decide) (fun c_1 => ?_) (fun c_1 => ?_)
  · rw [if_pos c_1] at hm
    refine lv_iconst (v := (-1)) hx hb dX9_leaf_18 (by decide) ?_
    simp only [Option.some.injEq, Prod.mk.injEq] at hm
    obtain ⟨rfl, rfl, rfl, rfl, rfl, rfl, rfl, rfl, rfl, rfl⟩ := hm
    have hP9 := hP.sub (ws' := [(t1, .inr (8, [.ref ta0, .ref ta1, .ref ta2, .ref ta3, .ref ta4, .ref ta5, .ref ta6, .ref ta7, .ref ta8, .int mm])), (ta0, .inl (cyA G 0, 32768, .inl (tf0))), (ta1, .inl (cyA G 0, 32768, .inl (tf1))), (ta2, .inl (cyA G 0, 32768, .inl (tf2))), (ta3, .inl (cyA G 0, 32768, .inl (tf3))), (ta4, .inl (cyA G 0, 32768, .inl (tf4))), (ta5, .inl (cyA G 0, 32768, .inl (tf5))), (ta6, .inl (cyA G 0, 32768, .inl (tf6))), (ta7, .inl (cyA G 1, 32768, .inl (tf7)))]) [0, 1, 2, 3, 4, 5, 6, 7, 8] rfl
    have hD9 := hD.sub (ws' := [(t1, .inr (8, [.ref ta0, .ref ta1, .ref ta2, .ref ta3, .ref ta4, .ref ta5, .ref ta6, .ref ta7, .ref ta8, .int mm])), (ta0, .inl (cyA G 0, 32768, .inl (tf0))), (ta1, .inl (cyA G 0, 32768, .inl (tf1))), (ta2, .inl (cyA G 0, 32768, .inl (tf2))), (ta3, .inl (cyA G 0, 32768, .inl (tf3))), (ta4, .inl (cyA G 0, 32768, .inl (tf4))), (ta5, .inl (cyA G 0, 32768, .inl (tf5))), (ta6, .inl (cyA G 0, 32768, .inl (tf6))), (ta7, .inl (cyA G 1, 32768, .inl (tf7)))]) [0, 1, 2, 3, 4, 5, 6, 7, 8] (by decide) rfl
    refine W.widen (k := 0) (n := 0) (Nat.le_of_ble_eq_true rfl) (Nat.le_of_ble_eq_true rfl) ?_
    exact W.iret (v := (-1)) hx hb hr (fun t ht hW => ⟨⟨(-1), (), rfl, rfl, ⟨by rw [ht]; exact hP9, hD9⟩⟩, hS.F ht⟩) hS.2.2 dX9_leaf_19 hlocks
  · rw [if_neg c_1] at hm
    refine lv_iload_n hx hb dX9_leaf_4 rfl (lv_at hl 1 rfl) ?_
    refine lv_iconst (v := 4) hx hb dX9_leaf_5 (by decide) ?_
    refine lv_icmp_gt (tgt := 18) hx hb dX9_leaf_6 (by decide) (fun c_2 => ?_) (fun c_2 => ?_)
    · rw [if_pos c_2] at hm
      refine lv_iconst (v := (-1)) hx hb dX9_leaf_18 (by decide) ?_
      simp only [Option.some.injEq, Prod.mk.injEq] at hm
      obtain ⟨rfl, rfl, rfl, rfl, rfl, rfl, rfl, rfl, rfl, rfl⟩ := hm
      have hP9 := hP.sub (ws' := [(t1, .inr (8, [.ref ta0, .ref ta1, .ref ta2, .ref ta3, .ref ta4, .ref ta5, .ref ta6, .ref ta7, .ref ta8, .int mm])), (ta0, .inl (cyA G 0, 32768, .inl (tf0))), (ta1, .inl (cyA G 0, 32768, .inl (tf1))), (ta2, .inl (cyA G 0, 32768, .inl (tf2))), (ta3, .inl (cyA G 0, 32768, .inl (tf3))), (ta4, .inl (cyA G 0, 32768, .inl (tf4))), (ta5, .inl (cyA G 0, 32768, .inl (tf5))), (ta6, .inl (cyA G 0, 32768, .inl (tf6))), (ta7, .inl (cyA G 1, 32768, .inl (tf7)))]) [0, 1, 2, 3, 4, 5, 6, 7, 8] rfl
      have hD9 := hD.sub (ws' := [(t1, .inr (8, [.ref ta0, .ref ta1, .ref ta2, .ref ta3, .ref ta4, .ref ta5, .ref ta6, .ref ta7, .ref ta8, .int mm])), (ta0, .inl (cyA G 0, 32768, .inl (tf0))), (ta1, .inl (cyA G 0, 32768, .inl (tf1))), (ta2, .inl (cyA G 0, 32768, .inl (tf2))), (ta3, .inl (cyA G 0, 32768, .inl (tf3))), (ta4, .inl (cyA G 0, 32768, .inl (tf4))), (ta5, .inl (cyA G 0, 32768, .inl (tf5))), (ta6, .inl (cyA G 0, 32768, .inl (tf6))), (ta7, .inl (cyA G 1, 32768, .inl (tf7)))]) [0, 1, 2, 3, 4, 5, 6, 7, 8] (by decide) rfl
      refine W.widen (k := 0) (n := 0) (Nat.le_of_ble_eq_true rfl) (Nat.le_of_ble_eq_true rfl) ?_
      exact W.iret (v := (-1)) hx hb hr (fun t ht hW => ⟨⟨(-1), (), rfl, rfl, ⟨by rw [ht]; exact hP9, hD9⟩⟩, hS.F ht⟩) hS.2.2 dX9_leaf_19 hlocks
    · rw [if_neg c_2] at hm
      refine lv_aload_n hx hb dX9_leaf_9 rfl (lv_at hl 0 rfl) ?_
      refine va_get (D := DG G) (ci := 8) (v := .int mm) (C := RX9) (T := TX9) (N := 10) hx hb hts inW_X9 hown hK hP 0 rfl rfl 9 (by decide) (hts _ wm49) (fun _ h9 => h9) rfl dX9_leaf_10 ?_
      refine lv_ldc (v := 32768) hx hb hown (hts _ wm39) dX9_leaf_13 ?_
      refine lv_icmp_lt (tgt := 20) hx hb dX9_leaf_15 (by decide) (fun c_3 => ?_) (fun c_3 => ?_)
      · rw [if_pos c_3] at hm
        refine lv_aload_n hx hb dX9_leaf_20 rfl (lv_at hl 0 rfl) ?_
        refine va_get (D := DG G) (ci := 8) (v := .int mm) (C := RX9) (T := TX9) (N := 10) hx hb hts inW_X9 hown hK hP 0 rfl rfl 9 (by decide) (hts _ wm49) (fun _ h9 => h9) rfl dX9_leaf_21 ?_
        refine lv_istore_n (lv' := [(3, .int mm), (0, .ref t1), (1, .int p1), (2, .int p2)]) hx hb dX9_leaf_24 rfl hl (by decide) rfl (fun ls hl => ?_)
        refine lv_aload_n hx hb dX9_leaf_25 rfl (lv_at hl 1 rfl) ?_
        refine lv_dup hx hb dX9_leaf_26 rfl ?_
        refine va_get (D := DG G) (ci := 8) (v := .int mm) (C := RX9) (T := TX9) (N := 10) hx hb hts inW_X9 hown hK hP 0 rfl rfl 9 (by decide) (hts _ wm49) (fun _ h9 => h9) rfl dX9_leaf_27 ?_
        refine lv_iconst (v := 1) hx hb dX9_leaf_30 (by decide) ?_
        refine lv_iadd hx hb dX9_leaf_31 ?_
        refine va_put (D := DG G) (ci := 8) (v := .int (mm + 1)) (ty := tyX9 9) (C := RX9) (T := TX9) (N := 10) hx hb hts inW_X9 tyX9 tyX9_ok nmX9 hown hK hP hD hS 0 rfl rfl 9 (by decide) (hts _ wm49) (fun _ h9 => h9) rfl (by decide +kernel) rfl rfl (Nat.le_of_ble_eq_true rfl) dX9_leaf_32 (fun H locs hP hD hS => ?_)
        have hP : va_P (DG G) clP3 [(t1, .inr (8, [.ref ta0, .ref ta1, .ref ta2, .ref ta3, .ref ta4, .ref ta5, .ref ta6, .ref ta7, .ref ta8, .int (mm + 1)])), (ta0, .inl (cyA G 0, 32768, .inl (tf0))), (ta1, .inl (cyA G 0, 32768, .inl (tf1))), (ta2, .inl (cyA G 0, 32768, .inl (tf2))), (ta3, .inl (cyA G 0, 32768, .inl (tf3))), (ta4, .inl (cyA G 0, 32768, .inl (tf4))), (ta5, .inl (cyA G 0, 32768, .inl (tf5))), (ta6, .inl (cyA G 0, 32768, .inl (tf6))), (ta7, .inl (cyA G 1, 32768, .inl (tf7)))] H := hP
        have hD : va_D A [(t1, .inr (8, [.ref ta0, .ref ta1, .ref ta2, .ref ta3, .ref ta4, .ref ta5, .ref ta6, .ref ta7, .ref ta8, .int (mm + 1)])), (ta0, .inl (cyA G 0, 32768, .inl (tf0))), (ta1, .inl (cyA G 0, 32768, .inl (tf1))), (ta2, .inl (cyA G 0, 32768, .inl (tf2))), (ta3, .inl (cyA G 0, 32768, .inl (tf3))), (ta4, .inl (cyA G 0, 32768, .inl (tf4))), (ta5, .inl (cyA G 0, 32768, .inl (tf5))), (ta6, .inl (cyA G 0, 32768, .inl (tf6))), (ta7, .inl (cyA G 1, 32768, .inl (tf7)))] := hD
        refine lv_aload_n hx hb dX9_leaf_35 rfl (lv_at hl 1 rfl) ?_
        refine va_get (D := DG G) (ci := 8) (v := .ref ta0) (C := RX9) (T := TX9) (N := 10) hx hb hts inW_X9 hown hK hP 0 rfl rfl 0 (by decide) (hts _ wm40) (fun _ h9 => h9) rfl dX9_leaf_36 ?_
        refine lv_iload_n hx hb dX9_leaf_39 rfl (lv_at hl 0 rfl) ?_
        refine lv_iload_n hx hb dX9_leaf_40 rfl (lv_at hl 2 rfl) ?_
        obtain ⟨b_4, hm⟩ := ite_some hm
        refine va_iast hx hb hK hP hD hS 1 0 rfl rfl (inb_vp b_4) dX9_leaf_41 (fun H locs hP hD hS => ?_)
        have hP : va_P (DG G) clP3 [(t1, .inr (8, [.ref ta0, .ref ta1, .ref ta2, .ref ta3, .ref ta4, .ref ta5, .ref ta6, .ref ta7, .ref ta8, .int (mm + 1)])), (ta0, .inl (cyA G 0, 32768, .inl (upd tf0 (Int32.toNatClampNeg mm) p1))), (ta1, .inl (cyA G 0, 32768, .inl (tf1))), (ta2, .inl (cyA G 0, 32768, .inl (tf2))), (ta3, .inl (cyA G 0, 32768, .inl (tf3))), (ta4, .inl (cyA G 0, 32768, .inl (tf4))), (ta5, .inl (cyA G 0, 32768, .inl (tf5))), (ta6, .inl (cyA G 0, 32768, .inl (tf6))), (ta7, .inl (cyA G 1, 32768, .inl (tf7)))] H := hP
        have hD : va_D A [(t1, .inr (8, [.ref ta0, .ref ta1, .ref ta2, .ref ta3, .ref ta4, .ref ta5, .ref ta6, .ref ta7, .ref ta8, .int (mm + 1)])), (ta0, .inl (cyA G 0, 32768, .inl (upd tf0 (Int32.toNatClampNeg mm) p1))), (ta1, .inl (cyA G 0, 32768, .inl (tf1))), (ta2, .inl (cyA G 0, 32768, .inl (tf2))), (ta3, .inl (cyA G 0, 32768, .inl (tf3))), (ta4, .inl (cyA G 0, 32768, .inl (tf4))), (ta5, .inl (cyA G 0, 32768, .inl (tf5))), (ta6, .inl (cyA G 0, 32768, .inl (tf6))), (ta7, .inl (cyA G 1, 32768, .inl (tf7)))] := hD
        refine lv_aload_n hx hb dX9_leaf_42 rfl (lv_at hl 1 rfl) ?_
        refine va_get (D := DG G) (ci := 8) (v := .ref ta1) (C := RX9) (T := TX9) (N := 10) hx hb hts inW_X9 hown hK hP 0 rfl rfl 1 (by decide) (hts _ wm41) (fun _ h9 => h9) rfl dX9_leaf_43 ?_
        refine lv_iload_n hx hb dX9_leaf_46 rfl (lv_at hl 0 rfl) ?_
        refine lv_iload_n hx hb dX9_leaf_47 rfl (lv_at hl 3 rfl) ?_
        obtain ⟨b_5, hm⟩ := ite_some hm
        refine va_iast hx hb hK hP hD hS 2 0 rfl rfl (inb_vp b_5) dX9_leaf_48 (fun H locs hP hD hS => ?_)
        have hP : va_P (DG G) clP3 [(t1, .inr (8, [.ref ta0, .ref ta1, .ref ta2, .ref ta3, .ref ta4, .ref ta5, .ref ta6, .ref ta7, .ref ta8, .int (mm + 1)])), (ta0, .inl (cyA G 0, 32768, .inl (upd tf0 (Int32.toNatClampNeg mm) p1))), (ta1, .inl (cyA G 0, 32768, .inl (upd tf1 (Int32.toNatClampNeg mm) p2))), (ta2, .inl (cyA G 0, 32768, .inl (tf2))), (ta3, .inl (cyA G 0, 32768, .inl (tf3))), (ta4, .inl (cyA G 0, 32768, .inl (tf4))), (ta5, .inl (cyA G 0, 32768, .inl (tf5))), (ta6, .inl (cyA G 0, 32768, .inl (tf6))), (ta7, .inl (cyA G 1, 32768, .inl (tf7)))] H := hP
        have hD : va_D A [(t1, .inr (8, [.ref ta0, .ref ta1, .ref ta2, .ref ta3, .ref ta4, .ref ta5, .ref ta6, .ref ta7, .ref ta8, .int (mm + 1)])), (ta0, .inl (cyA G 0, 32768, .inl (upd tf0 (Int32.toNatClampNeg mm) p1))), (ta1, .inl (cyA G 0, 32768, .inl (upd tf1 (Int32.toNatClampNeg mm) p2))), (ta2, .inl (cyA G 0, 32768, .inl (tf2))), (ta3, .inl (cyA G 0, 32768, .inl (tf3))), (ta4, .inl (cyA G 0, 32768, .inl (tf4))), (ta5, .inl (cyA G 0, 32768, .inl (tf5))), (ta6, .inl (cyA G 0, 32768, .inl (tf6))), (ta7, .inl (cyA G 1, 32768, .inl (tf7)))] := hD
        refine lv_aload_n hx hb dX9_leaf_49 rfl (lv_at hl 1 rfl) ?_
        refine va_get (D := DG G) (ci := 8) (v := .ref ta2) (C := RX9) (T := TX9) (N := 10) hx hb hts inW_X9 hown hK hP 0 rfl rfl 2 (by decide) (hts _ wm42) (fun _ h9 => h9) rfl dX9_leaf_50 ?_
        refine lv_iload_n hx hb dX9_leaf_53 rfl (lv_at hl 0 rfl) ?_
        refine lv_iconst (v := (-1)) hx hb dX9_leaf_54 (by decide) ?_
        obtain ⟨b_6, hm⟩ := ite_some hm
        refine va_iast hx hb hK hP hD hS 3 0 rfl rfl (inb_vp b_6) dX9_leaf_55 (fun H locs hP hD hS => ?_)
        have hP : va_P (DG G) clP3 [(t1, .inr (8, [.ref ta0, .ref ta1, .ref ta2, .ref ta3, .ref ta4, .ref ta5, .ref ta6, .ref ta7, .ref ta8, .int (mm + 1)])), (ta0, .inl (cyA G 0, 32768, .inl (upd tf0 (Int32.toNatClampNeg mm) p1))), (ta1, .inl (cyA G 0, 32768, .inl (upd tf1 (Int32.toNatClampNeg mm) p2))), (ta2, .inl (cyA G 0, 32768, .inl (upd tf2 (Int32.toNatClampNeg mm) (-1)))), (ta3, .inl (cyA G 0, 32768, .inl (tf3))), (ta4, .inl (cyA G 0, 32768, .inl (tf4))), (ta5, .inl (cyA G 0, 32768, .inl (tf5))), (ta6, .inl (cyA G 0, 32768, .inl (tf6))), (ta7, .inl (cyA G 1, 32768, .inl (tf7)))] H := hP
        have hD : va_D A [(t1, .inr (8, [.ref ta0, .ref ta1, .ref ta2, .ref ta3, .ref ta4, .ref ta5, .ref ta6, .ref ta7, .ref ta8, .int (mm + 1)])), (ta0, .inl (cyA G 0, 32768, .inl (upd tf0 (Int32.toNatClampNeg mm) p1))), (ta1, .inl (cyA G 0, 32768, .inl (upd tf1 (Int32.toNatClampNeg mm) p2))), (ta2, .inl (cyA G 0, 32768, .inl (upd tf2 (Int32.toNatClampNeg mm) (-1)))), (ta3, .inl (cyA G 0, 32768, .inl (tf3))), (ta4, .inl (cyA G 0, 32768, .inl (tf4))), (ta5, .inl (cyA G 0, 32768, .inl (tf5))), (ta6, .inl (cyA G 0, 32768, .inl (tf6))), (ta7, .inl (cyA G 1, 32768, .inl (tf7)))] := hD
        refine lv_aload_n hx hb dX9_leaf_56 rfl (lv_at hl 1 rfl) ?_
        refine va_get (D := DG G) (ci := 8) (v := .ref ta3) (C := RX9) (T := TX9) (N := 10) hx hb hts inW_X9 hown hK hP 0 rfl rfl 3 (by decide) (hts _ wm43) (fun _ h9 => h9) rfl dX9_leaf_57 ?_
        refine lv_iload_n hx hb dX9_leaf_60 rfl (lv_at hl 0 rfl) ?_
        refine lv_iconst (v := 1) hx hb dX9_leaf_61 (by decide) ?_
        obtain ⟨b_7, hm⟩ := ite_some hm
        refine va_iast hx hb hK hP hD hS 4 0 rfl rfl (inb_vp b_7) dX9_leaf_62 (fun H locs hP hD hS => ?_)
        have hP : va_P (DG G) clP3 [(t1, .inr (8, [.ref ta0, .ref ta1, .ref ta2, .ref ta3, .ref ta4, .ref ta5, .ref ta6, .ref ta7, .ref ta8, .int (mm + 1)])), (ta0, .inl (cyA G 0, 32768, .inl (upd tf0 (Int32.toNatClampNeg mm) p1))), (ta1, .inl (cyA G 0, 32768, .inl (upd tf1 (Int32.toNatClampNeg mm) p2))), (ta2, .inl (cyA G 0, 32768, .inl (upd tf2 (Int32.toNatClampNeg mm) (-1)))), (ta3, .inl (cyA G 0, 32768, .inl (upd tf3 (Int32.toNatClampNeg mm) 1))), (ta4, .inl (cyA G 0, 32768, .inl (tf4))), (ta5, .inl (cyA G 0, 32768, .inl (tf5))), (ta6, .inl (cyA G 0, 32768, .inl (tf6))), (ta7, .inl (cyA G 1, 32768, .inl (tf7)))] H := hP
        have hD : va_D A [(t1, .inr (8, [.ref ta0, .ref ta1, .ref ta2, .ref ta3, .ref ta4, .ref ta5, .ref ta6, .ref ta7, .ref ta8, .int (mm + 1)])), (ta0, .inl (cyA G 0, 32768, .inl (upd tf0 (Int32.toNatClampNeg mm) p1))), (ta1, .inl (cyA G 0, 32768, .inl (upd tf1 (Int32.toNatClampNeg mm) p2))), (ta2, .inl (cyA G 0, 32768, .inl (upd tf2 (Int32.toNatClampNeg mm) (-1)))), (ta3, .inl (cyA G 0, 32768, .inl (upd tf3 (Int32.toNatClampNeg mm) 1))), (ta4, .inl (cyA G 0, 32768, .inl (tf4))), (ta5, .inl (cyA G 0, 32768, .inl (tf5))), (ta6, .inl (cyA G 0, 32768, .inl (tf6))), (ta7, .inl (cyA G 1, 32768, .inl (tf7)))] := hD
        refine lv_aload_n hx hb dX9_leaf_63 rfl (lv_at hl 1 rfl) ?_
        refine va_get (D := DG G) (ci := 8) (v := .ref ta4) (C := RX9) (T := TX9) (N := 10) hx hb hts inW_X9 hown hK hP 0 rfl rfl 4 (by decide) (hts _ wm44) (fun _ h9 => h9) rfl dX9_leaf_64 ?_
        refine lv_iload_n hx hb dX9_leaf_67 rfl (lv_at hl 0 rfl) ?_
        obtain ⟨nl0, hZ0, hT0⟩ := EV.s0 hE
        refine va_getsN (v := .ref nl0) hx hb hZ0 hS hown (va_Nw.use rfl (hE.1 _ nw442)) (fun _ h9 => h9) dX9_leaf_68 ?_
        refine lv_iload_n hx hb dX9_leaf_71 rfl (lv_at hl 2 rfl) ?_
        obtain ⟨b_8, hm⟩ := ite_some hm
        refine va_ti (v := .int (sa_0 (Int32.toNatClampNeg p1))) hx hb hT0 hS (inb_vp b_8) rfl dX9_leaf_72 ?_
        refine lv_iload_n hx hb dX9_leaf_73 rfl (lv_at hl 3 rfl) ?_
        refine lv_iadd hx hb dX9_leaf_74 ?_
        obtain ⟨b_9, hm⟩ := ite_some hm
        refine va_iast hx hb hK hP hD hS 5 0 rfl rfl (inb_vp b_9) dX9_leaf_75 (fun H locs hP hD hS => ?_)
        have hP : va_P (DG G) clP3 [(t1, .inr (8, [.ref ta0, .ref ta1, .ref ta2, .ref ta3, .ref ta4, .ref ta5, .ref ta6, .ref ta7, .ref ta8, .int (mm + 1)])), (ta0, .inl (cyA G 0, 32768, .inl (upd tf0 (Int32.toNatClampNeg mm) p1))), (ta1, .inl (cyA G 0, 32768, .inl (upd tf1 (Int32.toNatClampNeg mm) p2))), (ta2, .inl (cyA G 0, 32768, .inl (upd tf2 (Int32.toNatClampNeg mm) (-1)))), (ta3, .inl (cyA G 0, 32768, .inl (upd tf3 (Int32.toNatClampNeg mm) 1))), (ta4, .inl (cyA G 0, 32768, .inl (upd tf4 (Int32.toNatClampNeg mm) ((sa_0 (Int32.toNatClampNeg p1)) + p2)))), (ta5, .inl (cyA G 0, 32768, .inl (tf5))), (ta6, .inl (cyA G 0, 32768, .inl (tf6))), (ta7, .inl (cyA G 1, 32768, .inl (tf7)))] H := hP
        have hD : va_D A [(t1, .inr (8, [.ref ta0, .ref ta1, .ref ta2, .ref ta3, .ref ta4, .ref ta5, .ref ta6, .ref ta7, .ref ta8, .int (mm + 1)])), (ta0, .inl (cyA G 0, 32768, .inl (upd tf0 (Int32.toNatClampNeg mm) p1))), (ta1, .inl (cyA G 0, 32768, .inl (upd tf1 (Int32.toNatClampNeg mm) p2))), (ta2, .inl (cyA G 0, 32768, .inl (upd tf2 (Int32.toNatClampNeg mm) (-1)))), (ta3, .inl (cyA G 0, 32768, .inl (upd tf3 (Int32.toNatClampNeg mm) 1))), (ta4, .inl (cyA G 0, 32768, .inl (upd tf4 (Int32.toNatClampNeg mm) ((sa_0 (Int32.toNatClampNeg p1)) + p2)))), (ta5, .inl (cyA G 0, 32768, .inl (tf5))), (ta6, .inl (cyA G 0, 32768, .inl (tf6))), (ta7, .inl (cyA G 1, 32768, .inl (tf7)))] := hD
        refine lv_aload_n hx hb dX9_leaf_76 rfl (lv_at hl 1 rfl) ?_
        refine va_get (D := DG G) (ci := 8) (v := .ref ta5) (C := RX9) (T := TX9) (N := 10) hx hb hts inW_X9 hown hK hP 0 rfl rfl 5 (by decide) (hts _ wm45) (fun _ h9 => h9) rfl dX9_leaf_77 ?_
        refine lv_iload_n hx hb dX9_leaf_80 rfl (lv_at hl 0 rfl) ?_
        refine lv_iload_n hx hb dX9_leaf_81 rfl (lv_at hl 2 rfl) ?_
        refine lv_iconst (v := 1) hx hb dX9_leaf_82 (by decide) ?_
        refine lv_icmp_ne (tgt := 92) hx hb dX9_leaf_83 (by decide) (fun c_10 => ?_) (fun c_10 => ?_)
        · rw [if_neg c_10] at hm
          refine lv_iconst (v := 0) hx hb dX9_leaf_92 (by decide) ?_
          obtain ⟨b_11, hm⟩ := ite_some hm
          refine va_iast hx hb hK hP hD hS 6 0 rfl rfl (inb_vp b_11) dX9_leaf_93 (fun H locs hP hD hS => ?_)
          have hP : va_P (DG G) clP3 [(t1, .inr (8, [.ref ta0, .ref ta1, .ref ta2, .ref ta3, .ref ta4, .ref ta5, .ref ta6, .ref ta7, .ref ta8, .int (mm + 1)])), (ta0, .inl (cyA G 0, 32768, .inl (upd tf0 (Int32.toNatClampNeg mm) p1))), (ta1, .inl (cyA G 0, 32768, .inl (upd tf1 (Int32.toNatClampNeg mm) p2))), (ta2, .inl (cyA G 0, 32768, .inl (upd tf2 (Int32.toNatClampNeg mm) (-1)))), (ta3, .inl (cyA G 0, 32768, .inl (upd tf3 (Int32.toNatClampNeg mm) 1))), (ta4, .inl (cyA G 0, 32768, .inl (upd tf4 (Int32.toNatClampNeg mm) ((sa_0 (Int32.toNatClampNeg p1)) + p2)))), (ta5, .inl (cyA G 0, 32768, .inl (upd tf5 (Int32.toNatClampNeg mm) 0))), (ta6, .inl (cyA G 0, 32768, .inl (tf6))), (ta7, .inl (cyA G 1, 32768, .inl (tf7)))] H := hP
          have hD : va_D A [(t1, .inr (8, [.ref ta0, .ref ta1, .ref ta2, .ref ta3, .ref ta4, .ref ta5, .ref ta6, .ref ta7, .ref ta8, .int (mm + 1)])), (ta0, .inl (cyA G 0, 32768, .inl (upd tf0 (Int32.toNatClampNeg mm) p1))), (ta1, .inl (cyA G 0, 32768, .inl (upd tf1 (Int32.toNatClampNeg mm) p2))), (ta2, .inl (cyA G 0, 32768, .inl (upd tf2 (Int32.toNatClampNeg mm) (-1)))), (ta3, .inl (cyA G 0, 32768, .inl (upd tf3 (Int32.toNatClampNeg mm) 1))), (ta4, .inl (cyA G 0, 32768, .inl (upd tf4 (Int32.toNatClampNeg mm) ((sa_0 (Int32.toNatClampNeg p1)) + p2)))), (ta5, .inl (cyA G 0, 32768, .inl (upd tf5 (Int32.toNatClampNeg mm) 0))), (ta6, .inl (cyA G 0, 32768, .inl (tf6))), (ta7, .inl (cyA G 1, 32768, .inl (tf7)))] := hD
          refine lv_aload_n hx hb dX9_leaf_94 rfl (lv_at hl 1 rfl) ?_
          refine va_get (D := DG G) (ci := 8) (v := .ref ta6) (C := RX9) (T := TX9) (N := 10) hx hb hts inW_X9 hown hK hP 0 rfl rfl 6 (by decide) (hts _ wm46) (fun _ h9 => h9) rfl dX9_leaf_95 ?_
          refine lv_iload_n hx hb dX9_leaf_98 rfl (lv_at hl 0 rfl) ?_
          refine lv_iload_n hx hb dX9_leaf_99 rfl (lv_at hl 2 rfl) ?_
          refine lv_iconst (v := 4) hx hb dX9_leaf_100 (by decide) ?_
          refine lv_icmp_ne (tgt := 110) hx hb dX9_leaf_101 (by decide) (fun c_12 => ?_) (fun c_12 => ?_)
          · rw [if_neg c_12] at hm
            refine lv_iconst (v := 0) hx hb dX9_leaf_110 (by decide) ?_
            obtain ⟨b_13, hm⟩ := ite_some hm
            refine va_iast hx hb hK hP hD hS 7 0 rfl rfl (inb_vp b_13) dX9_leaf_111 (fun H locs hP hD hS => ?_)
            have hP : va_P (DG G) clP3 [(t1, .inr (8, [.ref ta0, .ref ta1, .ref ta2, .ref ta3, .ref ta4, .ref ta5, .ref ta6, .ref ta7, .ref ta8, .int (mm + 1)])), (ta0, .inl (cyA G 0, 32768, .inl (upd tf0 (Int32.toNatClampNeg mm) p1))), (ta1, .inl (cyA G 0, 32768, .inl (upd tf1 (Int32.toNatClampNeg mm) p2))), (ta2, .inl (cyA G 0, 32768, .inl (upd tf2 (Int32.toNatClampNeg mm) (-1)))), (ta3, .inl (cyA G 0, 32768, .inl (upd tf3 (Int32.toNatClampNeg mm) 1))), (ta4, .inl (cyA G 0, 32768, .inl (upd tf4 (Int32.toNatClampNeg mm) ((sa_0 (Int32.toNatClampNeg p1)) + p2)))), (ta5, .inl (cyA G 0, 32768, .inl (upd tf5 (Int32.toNatClampNeg mm) 0))), (ta6, .inl (cyA G 0, 32768, .inl (upd tf6 (Int32.toNatClampNeg mm) 0))), (ta7, .inl (cyA G 1, 32768, .inl (tf7)))] H := hP
            have hD : va_D A [(t1, .inr (8, [.ref ta0, .ref ta1, .ref ta2, .ref ta3, .ref ta4, .ref ta5, .ref ta6, .ref ta7, .ref ta8, .int (mm + 1)])), (ta0, .inl (cyA G 0, 32768, .inl (upd tf0 (Int32.toNatClampNeg mm) p1))), (ta1, .inl (cyA G 0, 32768, .inl (upd tf1 (Int32.toNatClampNeg mm) p2))), (ta2, .inl (cyA G 0, 32768, .inl (upd tf2 (Int32.toNatClampNeg mm) (-1)))), (ta3, .inl (cyA G 0, 32768, .inl (upd tf3 (Int32.toNatClampNeg mm) 1))), (ta4, .inl (cyA G 0, 32768, .inl (upd tf4 (Int32.toNatClampNeg mm) ((sa_0 (Int32.toNatClampNeg p1)) + p2)))), (ta5, .inl (cyA G 0, 32768, .inl (upd tf5 (Int32.toNatClampNeg mm) 0))), (ta6, .inl (cyA G 0, 32768, .inl (upd tf6 (Int32.toNatClampNeg mm) 0))), (ta7, .inl (cyA G 1, 32768, .inl (tf7)))] := hD
            refine lv_aload_n hx hb dX9_leaf_112 rfl (lv_at hl 1 rfl) ?_
            refine va_get (D := DG G) (ci := 8) (v := .ref ta7) (C := RX9) (T := TX9) (N := 10) hx hb hts inW_X9 hown hK hP 0 rfl rfl 7 (by decide) (hts _ wm47) (fun _ h9 => h9) rfl dX9_leaf_113 ?_
            refine lv_iload_n hx hb dX9_leaf_116 rfl (lv_at hl 0 rfl) ?_
            refine lv_iconst (v := 0) hx hb dX9_leaf_117 (by decide) ?_
            obtain ⟨b_14, hm⟩ := ite_some hm
            refine va_zast hx hb hK hP hD hS 8 1 rfl rfl (inb_vp b_14) dX9_leaf_118 (fun H locs hP hD hS => ?_)
            have hP : va_P (DG G) clP3 [(t1, .inr (8, [.ref ta0, .ref ta1, .ref ta2, .ref ta3, .ref ta4, .ref ta5, .ref ta6, .ref ta7, .ref ta8, .int (mm + 1)])), (ta0, .inl (cyA G 0, 32768, .inl (upd tf0 (Int32.toNatClampNeg mm) p1))), (ta1, .inl (cyA G 0, 32768, .inl (upd tf1 (Int32.toNatClampNeg mm) p2))), (ta2, .inl (cyA G 0, 32768, .inl (upd tf2 (Int32.toNatClampNeg mm) (-1)))), (ta3, .inl (cyA G 0, 32768, .inl (upd tf3 (Int32.toNatClampNeg mm) 1))), (ta4, .inl (cyA G 0, 32768, .inl (upd tf4 (Int32.toNatClampNeg mm) ((sa_0 (Int32.toNatClampNeg p1)) + p2)))), (ta5, .inl (cyA G 0, 32768, .inl (upd tf5 (Int32.toNatClampNeg mm) 0))), (ta6, .inl (cyA G 0, 32768, .inl (upd tf6 (Int32.toNatClampNeg mm) 0))), (ta7, .inl (cyA G 1, 32768, .inl (upd tf7 (Int32.toNatClampNeg mm) (vp_nar .boolean 0))))] H := hP
            have hD : va_D A [(t1, .inr (8, [.ref ta0, .ref ta1, .ref ta2, .ref ta3, .ref ta4, .ref ta5, .ref ta6, .ref ta7, .ref ta8, .int (mm + 1)])), (ta0, .inl (cyA G 0, 32768, .inl (upd tf0 (Int32.toNatClampNeg mm) p1))), (ta1, .inl (cyA G 0, 32768, .inl (upd tf1 (Int32.toNatClampNeg mm) p2))), (ta2, .inl (cyA G 0, 32768, .inl (upd tf2 (Int32.toNatClampNeg mm) (-1)))), (ta3, .inl (cyA G 0, 32768, .inl (upd tf3 (Int32.toNatClampNeg mm) 1))), (ta4, .inl (cyA G 0, 32768, .inl (upd tf4 (Int32.toNatClampNeg mm) ((sa_0 (Int32.toNatClampNeg p1)) + p2)))), (ta5, .inl (cyA G 0, 32768, .inl (upd tf5 (Int32.toNatClampNeg mm) 0))), (ta6, .inl (cyA G 0, 32768, .inl (upd tf6 (Int32.toNatClampNeg mm) 0))), (ta7, .inl (cyA G 1, 32768, .inl (upd tf7 (Int32.toNatClampNeg mm) (vp_nar .boolean 0))))] := hD
            refine lv_iload_n hx hb dX9_leaf_119 rfl (lv_at hl 0 rfl) ?_
            simp only [Option.some.injEq, Prod.mk.injEq] at hm
            obtain ⟨rfl, rfl, rfl, rfl, rfl, rfl, rfl, rfl, rfl, rfl⟩ := hm
            have hP9 := hP.sub (ws' := [(t1, .inr (8, [.ref ta0, .ref ta1, .ref ta2, .ref ta3, .ref ta4, .ref ta5, .ref ta6, .ref ta7, .ref ta8, .int (mm + 1)])), (ta0, .inl (cyA G 0, 32768, .inl (upd tf0 (Int32.toNatClampNeg mm) p1))), (ta1, .inl (cyA G 0, 32768, .inl (upd tf1 (Int32.toNatClampNeg mm) p2))), (ta2, .inl (cyA G 0, 32768, .inl (upd tf2 (Int32.toNatClampNeg mm) (-1)))), (ta3, .inl (cyA G 0, 32768, .inl (upd tf3 (Int32.toNatClampNeg mm) 1))), (ta4, .inl (cyA G 0, 32768, .inl (upd tf4 (Int32.toNatClampNeg mm) ((sa_0 (Int32.toNatClampNeg p1)) + p2)))), (ta5, .inl (cyA G 0, 32768, .inl (upd tf5 (Int32.toNatClampNeg mm) 0))), (ta6, .inl (cyA G 0, 32768, .inl (upd tf6 (Int32.toNatClampNeg mm) 0))), (ta7, .inl (cyA G 1, 32768, .inl (upd tf7 (Int32.toNatClampNeg mm) (vp_nar .boolean 0))))]) [0, 1, 2, 3, 4, 5, 6, 7, 8] rfl
            have hD9 := hD.sub (ws' := [(t1, .inr (8, [.ref ta0, .ref ta1, .ref ta2, .ref ta3, .ref ta4, .ref ta5, .ref ta6, .ref ta7, .ref ta8, .int (mm + 1)])), (ta0, .inl (cyA G 0, 32768, .inl (upd tf0 (Int32.toNatClampNeg mm) p1))), (ta1, .inl (cyA G 0, 32768, .inl (upd tf1 (Int32.toNatClampNeg mm) p2))), (ta2, .inl (cyA G 0, 32768, .inl (upd tf2 (Int32.toNatClampNeg mm) (-1)))), (ta3, .inl (cyA G 0, 32768, .inl (upd tf3 (Int32.toNatClampNeg mm) 1))), (ta4, .inl (cyA G 0, 32768, .inl (upd tf4 (Int32.toNatClampNeg mm) ((sa_0 (Int32.toNatClampNeg p1)) + p2)))), (ta5, .inl (cyA G 0, 32768, .inl (upd tf5 (Int32.toNatClampNeg mm) 0))), (ta6, .inl (cyA G 0, 32768, .inl (upd tf6 (Int32.toNatClampNeg mm) 0))), (ta7, .inl (cyA G 1, 32768, .inl (upd tf7 (Int32.toNatClampNeg mm) (vp_nar .boolean 0))))]) [0, 1, 2, 3, 4, 5, 6, 7, 8] (by decide) rfl
            refine W.widen (k := 0) (n := 0) (Nat.le_of_ble_eq_true rfl) (Nat.le_of_ble_eq_true rfl) ?_
            exact W.iret (v := mm) hx hb hr (fun t ht hW => ⟨⟨mm, (), rfl, rfl, ⟨by rw [ht]; exact hP9, hD9⟩⟩, hS.F ht⟩) hS.2.2 dX9_leaf_120 hlocks
          · rw [if_pos c_12] at hm
            refine lv_iconst (v := 1) hx hb dX9_leaf_104 (by decide) ?_
            refine lv_iload_n hx hb dX9_leaf_105 rfl (lv_at hl 3 rfl) ?_
            refine lv_ishl hx hb dX9_leaf_106 ?_
            refine lv_goto (tgt := 111) hx hb dX9_leaf_107 (by decide) ?_
            obtain ⟨b_15, hm⟩ := ite_some hm
            refine va_iast hx hb hK hP hD hS 7 0 rfl rfl (inb_vp b_15) dX9_leaf_111 (fun H locs hP hD hS => ?_)
            have hP : va_P (DG G) clP3 [(t1, .inr (8, [.ref ta0, .ref ta1, .ref ta2, .ref ta3, .ref ta4, .ref ta5, .ref ta6, .ref ta7, .ref ta8, .int (mm + 1)])), (ta0, .inl (cyA G 0, 32768, .inl (upd tf0 (Int32.toNatClampNeg mm) p1))), (ta1, .inl (cyA G 0, 32768, .inl (upd tf1 (Int32.toNatClampNeg mm) p2))), (ta2, .inl (cyA G 0, 32768, .inl (upd tf2 (Int32.toNatClampNeg mm) (-1)))), (ta3, .inl (cyA G 0, 32768, .inl (upd tf3 (Int32.toNatClampNeg mm) 1))), (ta4, .inl (cyA G 0, 32768, .inl (upd tf4 (Int32.toNatClampNeg mm) ((sa_0 (Int32.toNatClampNeg p1)) + p2)))), (ta5, .inl (cyA G 0, 32768, .inl (upd tf5 (Int32.toNatClampNeg mm) 0))), (ta6, .inl (cyA G 0, 32768, .inl (upd tf6 (Int32.toNatClampNeg mm) ((1 : Int32) <<< (p2 &&& 31))))), (ta7, .inl (cyA G 1, 32768, .inl (tf7)))] H := hP
            have hD : va_D A [(t1, .inr (8, [.ref ta0, .ref ta1, .ref ta2, .ref ta3, .ref ta4, .ref ta5, .ref ta6, .ref ta7, .ref ta8, .int (mm + 1)])), (ta0, .inl (cyA G 0, 32768, .inl (upd tf0 (Int32.toNatClampNeg mm) p1))), (ta1, .inl (cyA G 0, 32768, .inl (upd tf1 (Int32.toNatClampNeg mm) p2))), (ta2, .inl (cyA G 0, 32768, .inl (upd tf2 (Int32.toNatClampNeg mm) (-1)))), (ta3, .inl (cyA G 0, 32768, .inl (upd tf3 (Int32.toNatClampNeg mm) 1))), (ta4, .inl (cyA G 0, 32768, .inl (upd tf4 (Int32.toNatClampNeg mm) ((sa_0 (Int32.toNatClampNeg p1)) + p2)))), (ta5, .inl (cyA G 0, 32768, .inl (upd tf5 (Int32.toNatClampNeg mm) 0))), (ta6, .inl (cyA G 0, 32768, .inl (upd tf6 (Int32.toNatClampNeg mm) ((1 : Int32) <<< (p2 &&& 31))))), (ta7, .inl (cyA G 1, 32768, .inl (tf7)))] := hD
            refine lv_aload_n hx hb dX9_leaf_112 rfl (lv_at hl 1 rfl) ?_
            refine va_get (D := DG G) (ci := 8) (v := .ref ta7) (C := RX9) (T := TX9) (N := 10) hx hb hts inW_X9 hown hK hP 0 rfl rfl 7 (by decide) (hts _ wm47) (fun _ h9 => h9) rfl dX9_leaf_113 ?_
            refine lv_iload_n hx hb dX9_leaf_116 rfl (lv_at hl 0 rfl) ?_
            refine lv_iconst (v := 0) hx hb dX9_leaf_117 (by decide) ?_
            obtain ⟨b_16, hm⟩ := ite_some hm
            refine va_zast hx hb hK hP hD hS 8 1 rfl rfl (inb_vp b_16) dX9_leaf_118 (fun H locs hP hD hS => ?_)
            have hP : va_P (DG G) clP3 [(t1, .inr (8, [.ref ta0, .ref ta1, .ref ta2, .ref ta3, .ref ta4, .ref ta5, .ref ta6, .ref ta7, .ref ta8, .int (mm + 1)])), (ta0, .inl (cyA G 0, 32768, .inl (upd tf0 (Int32.toNatClampNeg mm) p1))), (ta1, .inl (cyA G 0, 32768, .inl (upd tf1 (Int32.toNatClampNeg mm) p2))), (ta2, .inl (cyA G 0, 32768, .inl (upd tf2 (Int32.toNatClampNeg mm) (-1)))), (ta3, .inl (cyA G 0, 32768, .inl (upd tf3 (Int32.toNatClampNeg mm) 1))), (ta4, .inl (cyA G 0, 32768, .inl (upd tf4 (Int32.toNatClampNeg mm) ((sa_0 (Int32.toNatClampNeg p1)) + p2)))), (ta5, .inl (cyA G 0, 32768, .inl (upd tf5 (Int32.toNatClampNeg mm) 0))), (ta6, .inl (cyA G 0, 32768, .inl (upd tf6 (Int32.toNatClampNeg mm) ((1 : Int32) <<< (p2 &&& 31))))), (ta7, .inl (cyA G 1, 32768, .inl (upd tf7 (Int32.toNatClampNeg mm) (vp_nar .boolean 0))))] H := hP
            have hD : va_D A [(t1, .inr (8, [.ref ta0, .ref ta1, .ref ta2, .ref ta3, .ref ta4, .ref ta5, .ref ta6, .ref ta7, .ref ta8, .int (mm + 1)])), (ta0, .inl (cyA G 0, 32768, .inl (upd tf0 (Int32.toNatClampNeg mm) p1))), (ta1, .inl (cyA G 0, 32768, .inl (upd tf1 (Int32.toNatClampNeg mm) p2))), (ta2, .inl (cyA G 0, 32768, .inl (upd tf2 (Int32.toNatClampNeg mm) (-1)))), (ta3, .inl (cyA G 0, 32768, .inl (upd tf3 (Int32.toNatClampNeg mm) 1))), (ta4, .inl (cyA G 0, 32768, .inl (upd tf4 (Int32.toNatClampNeg mm) ((sa_0 (Int32.toNatClampNeg p1)) + p2)))), (ta5, .inl (cyA G 0, 32768, .inl (upd tf5 (Int32.toNatClampNeg mm) 0))), (ta6, .inl (cyA G 0, 32768, .inl (upd tf6 (Int32.toNatClampNeg mm) ((1 : Int32) <<< (p2 &&& 31))))), (ta7, .inl (cyA G 1, 32768, .inl (upd tf7 (Int32.toNatClampNeg mm) (vp_nar .boolean 0))))] := hD
            refine lv_iload_n hx hb dX9_leaf_119 rfl (lv_at hl 0 rfl) ?_
            simp only [Option.some.injEq, Prod.mk.injEq] at hm
            obtain ⟨rfl, rfl, rfl, rfl, rfl, rfl, rfl, rfl, rfl, rfl⟩ := hm
            have hP9 := hP.sub (ws' := [(t1, .inr (8, [.ref ta0, .ref ta1, .ref ta2, .ref ta3, .ref ta4, .ref ta5, .ref ta6, .ref ta7, .ref ta8, .int (mm + 1)])), (ta0, .inl (cyA G 0, 32768, .inl (upd tf0 (Int32.toNatClampNeg mm) p1))), (ta1, .inl (cyA G 0, 32768, .inl (upd tf1 (Int32.toNatClampNeg mm) p2))), (ta2, .inl (cyA G 0, 32768, .inl (upd tf2 (Int32.toNatClampNeg mm) (-1)))), (ta3, .inl (cyA G 0, 32768, .inl (upd tf3 (Int32.toNatClampNeg mm) 1))), (ta4, .inl (cyA G 0, 32768, .inl (upd tf4 (Int32.toNatClampNeg mm) ((sa_0 (Int32.toNatClampNeg p1)) + p2)))), (ta5, .inl (cyA G 0, 32768, .inl (upd tf5 (Int32.toNatClampNeg mm) 0))), (ta6, .inl (cyA G 0, 32768, .inl (upd tf6 (Int32.toNatClampNeg mm) ((1 : Int32) <<< (p2 &&& 31))))), (ta7, .inl (cyA G 1, 32768, .inl (upd tf7 (Int32.toNatClampNeg mm) (vp_nar .boolean 0))))]) [0, 1, 2, 3, 4, 5, 6, 7, 8] rfl
            have hD9 := hD.sub (ws' := [(t1, .inr (8, [.ref ta0, .ref ta1, .ref ta2, .ref ta3, .ref ta4, .ref ta5, .ref ta6, .ref ta7, .ref ta8, .int (mm + 1)])), (ta0, .inl (cyA G 0, 32768, .inl (upd tf0 (Int32.toNatClampNeg mm) p1))), (ta1, .inl (cyA G 0, 32768, .inl (upd tf1 (Int32.toNatClampNeg mm) p2))), (ta2, .inl (cyA G 0, 32768, .inl (upd tf2 (Int32.toNatClampNeg mm) (-1)))), (ta3, .inl (cyA G 0, 32768, .inl (upd tf3 (Int32.toNatClampNeg mm) 1))), (ta4, .inl (cyA G 0, 32768, .inl (upd tf4 (Int32.toNatClampNeg mm) ((sa_0 (Int32.toNatClampNeg p1)) + p2)))), (ta5, .inl (cyA G 0, 32768, .inl (upd tf5 (Int32.toNatClampNeg mm) 0))), (ta6, .inl (cyA G 0, 32768, .inl (upd tf6 (Int32.toNatClampNeg mm) ((1 : Int32) <<< (p2 &&& 31))))), (ta7, .inl (cyA G 1, 32768, .inl (upd tf7 (Int32.toNatClampNeg mm) (vp_nar .boolean 0))))]) [0, 1, 2, 3, 4, 5, 6, 7, 8] (by decide) rfl
            refine W.widen (k := 0) (n := 0) (Nat.le_of_ble_eq_true rfl) (Nat.le_of_ble_eq_true rfl) ?_
            exact W.iret (v := mm) hx hb hr (fun t ht hW => ⟨⟨mm, (), rfl, rfl, ⟨by rw [ht]; exact hP9, hD9⟩⟩, hS.F ht⟩) hS.2.2 dX9_leaf_120 hlocks
        · rw [if_pos c_10] at hm
          refine lv_iload_n hx hb dX9_leaf_86 rfl (lv_at hl 3 rfl) ?_
          refine lv_iconst (v := 1) hx hb dX9_leaf_87 (by decide) ?_
          refine lv_iadd hx hb dX9_leaf_88 ?_
          refine lv_goto (tgt := 93) hx hb dX9_leaf_89 (by decide) ?_
          obtain ⟨b_17, hm⟩ := ite_some hm
          refine va_iast hx hb hK hP hD hS 6 0 rfl rfl (inb_vp b_17) dX9_leaf_93 (fun H locs hP hD hS => ?_)
          have hP : va_P (DG G) clP3 [(t1, .inr (8, [.ref ta0, .ref ta1, .ref ta2, .ref ta3, .ref ta4, .ref ta5, .ref ta6, .ref ta7, .ref ta8, .int (mm + 1)])), (ta0, .inl (cyA G 0, 32768, .inl (upd tf0 (Int32.toNatClampNeg mm) p1))), (ta1, .inl (cyA G 0, 32768, .inl (upd tf1 (Int32.toNatClampNeg mm) p2))), (ta2, .inl (cyA G 0, 32768, .inl (upd tf2 (Int32.toNatClampNeg mm) (-1)))), (ta3, .inl (cyA G 0, 32768, .inl (upd tf3 (Int32.toNatClampNeg mm) 1))), (ta4, .inl (cyA G 0, 32768, .inl (upd tf4 (Int32.toNatClampNeg mm) ((sa_0 (Int32.toNatClampNeg p1)) + p2)))), (ta5, .inl (cyA G 0, 32768, .inl (upd tf5 (Int32.toNatClampNeg mm) (p2 + 1)))), (ta6, .inl (cyA G 0, 32768, .inl (tf6))), (ta7, .inl (cyA G 1, 32768, .inl (tf7)))] H := hP
          have hD : va_D A [(t1, .inr (8, [.ref ta0, .ref ta1, .ref ta2, .ref ta3, .ref ta4, .ref ta5, .ref ta6, .ref ta7, .ref ta8, .int (mm + 1)])), (ta0, .inl (cyA G 0, 32768, .inl (upd tf0 (Int32.toNatClampNeg mm) p1))), (ta1, .inl (cyA G 0, 32768, .inl (upd tf1 (Int32.toNatClampNeg mm) p2))), (ta2, .inl (cyA G 0, 32768, .inl (upd tf2 (Int32.toNatClampNeg mm) (-1)))), (ta3, .inl (cyA G 0, 32768, .inl (upd tf3 (Int32.toNatClampNeg mm) 1))), (ta4, .inl (cyA G 0, 32768, .inl (upd tf4 (Int32.toNatClampNeg mm) ((sa_0 (Int32.toNatClampNeg p1)) + p2)))), (ta5, .inl (cyA G 0, 32768, .inl (upd tf5 (Int32.toNatClampNeg mm) (p2 + 1)))), (ta6, .inl (cyA G 0, 32768, .inl (tf6))), (ta7, .inl (cyA G 1, 32768, .inl (tf7)))] := hD
          refine lv_aload_n hx hb dX9_leaf_94 rfl (lv_at hl 1 rfl) ?_
          refine va_get (D := DG G) (ci := 8) (v := .ref ta6) (C := RX9) (T := TX9) (N := 10) hx hb hts inW_X9 hown hK hP 0 rfl rfl 6 (by decide) (hts _ wm46) (fun _ h9 => h9) rfl dX9_leaf_95 ?_
          refine lv_iload_n hx hb dX9_leaf_98 rfl (lv_at hl 0 rfl) ?_
          refine lv_iload_n hx hb dX9_leaf_99 rfl (lv_at hl 2 rfl) ?_
          refine lv_iconst (v := 4) hx hb dX9_leaf_100 (by decide) ?_
          refine lv_icmp_ne (tgt := 110) hx hb dX9_leaf_101 (by decide) (fun c_18 => ?_) (fun c_18 => ?_)
          · rw [if_neg c_18] at hm
            refine lv_iconst (v := 0) hx hb dX9_leaf_110 (by decide) ?_
            obtain ⟨b_19, hm⟩ := ite_some hm
            refine va_iast hx hb hK hP hD hS 7 0 rfl rfl (inb_vp b_19) dX9_leaf_111 (fun H locs hP hD hS => ?_)
            have hP : va_P (DG G) clP3 [(t1, .inr (8, [.ref ta0, .ref ta1, .ref ta2, .ref ta3, .ref ta4, .ref ta5, .ref ta6, .ref ta7, .ref ta8, .int (mm + 1)])), (ta0, .inl (cyA G 0, 32768, .inl (upd tf0 (Int32.toNatClampNeg mm) p1))), (ta1, .inl (cyA G 0, 32768, .inl (upd tf1 (Int32.toNatClampNeg mm) p2))), (ta2, .inl (cyA G 0, 32768, .inl (upd tf2 (Int32.toNatClampNeg mm) (-1)))), (ta3, .inl (cyA G 0, 32768, .inl (upd tf3 (Int32.toNatClampNeg mm) 1))), (ta4, .inl (cyA G 0, 32768, .inl (upd tf4 (Int32.toNatClampNeg mm) ((sa_0 (Int32.toNatClampNeg p1)) + p2)))), (ta5, .inl (cyA G 0, 32768, .inl (upd tf5 (Int32.toNatClampNeg mm) (p2 + 1)))), (ta6, .inl (cyA G 0, 32768, .inl (upd tf6 (Int32.toNatClampNeg mm) 0))), (ta7, .inl (cyA G 1, 32768, .inl (tf7)))] H := hP
            have hD : va_D A [(t1, .inr (8, [.ref ta0, .ref ta1, .ref ta2, .ref ta3, .ref ta4, .ref ta5, .ref ta6, .ref ta7, .ref ta8, .int (mm + 1)])), (ta0, .inl (cyA G 0, 32768, .inl (upd tf0 (Int32.toNatClampNeg mm) p1))), (ta1, .inl (cyA G 0, 32768, .inl (upd tf1 (Int32.toNatClampNeg mm) p2))), (ta2, .inl (cyA G 0, 32768, .inl (upd tf2 (Int32.toNatClampNeg mm) (-1)))), (ta3, .inl (cyA G 0, 32768, .inl (upd tf3 (Int32.toNatClampNeg mm) 1))), (ta4, .inl (cyA G 0, 32768, .inl (upd tf4 (Int32.toNatClampNeg mm) ((sa_0 (Int32.toNatClampNeg p1)) + p2)))), (ta5, .inl (cyA G 0, 32768, .inl (upd tf5 (Int32.toNatClampNeg mm) (p2 + 1)))), (ta6, .inl (cyA G 0, 32768, .inl (upd tf6 (Int32.toNatClampNeg mm) 0))), (ta7, .inl (cyA G 1, 32768, .inl (tf7)))] := hD
            refine lv_aload_n hx hb dX9_leaf_112 rfl (lv_at hl 1 rfl) ?_
            refine va_get (D := DG G) (ci := 8) (v := .ref ta7) (C := RX9) (T := TX9) (N := 10) hx hb hts inW_X9 hown hK hP 0 rfl rfl 7 (by decide) (hts _ wm47) (fun _ h9 => h9) rfl dX9_leaf_113 ?_
            refine lv_iload_n hx hb dX9_leaf_116 rfl (lv_at hl 0 rfl) ?_
            refine lv_iconst (v := 0) hx hb dX9_leaf_117 (by decide) ?_
            obtain ⟨b_20, hm⟩ := ite_some hm
            refine va_zast hx hb hK hP hD hS 8 1 rfl rfl (inb_vp b_20) dX9_leaf_118 (fun H locs hP hD hS => ?_)
            have hP : va_P (DG G) clP3 [(t1, .inr (8, [.ref ta0, .ref ta1, .ref ta2, .ref ta3, .ref ta4, .ref ta5, .ref ta6, .ref ta7, .ref ta8, .int (mm + 1)])), (ta0, .inl (cyA G 0, 32768, .inl (upd tf0 (Int32.toNatClampNeg mm) p1))), (ta1, .inl (cyA G 0, 32768, .inl (upd tf1 (Int32.toNatClampNeg mm) p2))), (ta2, .inl (cyA G 0, 32768, .inl (upd tf2 (Int32.toNatClampNeg mm) (-1)))), (ta3, .inl (cyA G 0, 32768, .inl (upd tf3 (Int32.toNatClampNeg mm) 1))), (ta4, .inl (cyA G 0, 32768, .inl (upd tf4 (Int32.toNatClampNeg mm) ((sa_0 (Int32.toNatClampNeg p1)) + p2)))), (ta5, .inl (cyA G 0, 32768, .inl (upd tf5 (Int32.toNatClampNeg mm) (p2 + 1)))), (ta6, .inl (cyA G 0, 32768, .inl (upd tf6 (Int32.toNatClampNeg mm) 0))), (ta7, .inl (cyA G 1, 32768, .inl (upd tf7 (Int32.toNatClampNeg mm) (vp_nar .boolean 0))))] H := hP
            have hD : va_D A [(t1, .inr (8, [.ref ta0, .ref ta1, .ref ta2, .ref ta3, .ref ta4, .ref ta5, .ref ta6, .ref ta7, .ref ta8, .int (mm + 1)])), (ta0, .inl (cyA G 0, 32768, .inl (upd tf0 (Int32.toNatClampNeg mm) p1))), (ta1, .inl (cyA G 0, 32768, .inl (upd tf1 (Int32.toNatClampNeg mm) p2))), (ta2, .inl (cyA G 0, 32768, .inl (upd tf2 (Int32.toNatClampNeg mm) (-1)))), (ta3, .inl (cyA G 0, 32768, .inl (upd tf3 (Int32.toNatClampNeg mm) 1))), (ta4, .inl (cyA G 0, 32768, .inl (upd tf4 (Int32.toNatClampNeg mm) ((sa_0 (Int32.toNatClampNeg p1)) + p2)))), (ta5, .inl (cyA G 0, 32768, .inl (upd tf5 (Int32.toNatClampNeg mm) (p2 + 1)))), (ta6, .inl (cyA G 0, 32768, .inl (upd tf6 (Int32.toNatClampNeg mm) 0))), (ta7, .inl (cyA G 1, 32768, .inl (upd tf7 (Int32.toNatClampNeg mm) (vp_nar .boolean 0))))] := hD
            refine lv_iload_n hx hb dX9_leaf_119 rfl (lv_at hl 0 rfl) ?_
            simp only [Option.some.injEq, Prod.mk.injEq] at hm
            obtain ⟨rfl, rfl, rfl, rfl, rfl, rfl, rfl, rfl, rfl, rfl⟩ := hm
            have hP9 := hP.sub (ws' := [(t1, .inr (8, [.ref ta0, .ref ta1, .ref ta2, .ref ta3, .ref ta4, .ref ta5, .ref ta6, .ref ta7, .ref ta8, .int (mm + 1)])), (ta0, .inl (cyA G 0, 32768, .inl (upd tf0 (Int32.toNatClampNeg mm) p1))), (ta1, .inl (cyA G 0, 32768, .inl (upd tf1 (Int32.toNatClampNeg mm) p2))), (ta2, .inl (cyA G 0, 32768, .inl (upd tf2 (Int32.toNatClampNeg mm) (-1)))), (ta3, .inl (cyA G 0, 32768, .inl (upd tf3 (Int32.toNatClampNeg mm) 1))), (ta4, .inl (cyA G 0, 32768, .inl (upd tf4 (Int32.toNatClampNeg mm) ((sa_0 (Int32.toNatClampNeg p1)) + p2)))), (ta5, .inl (cyA G 0, 32768, .inl (upd tf5 (Int32.toNatClampNeg mm) (p2 + 1)))), (ta6, .inl (cyA G 0, 32768, .inl (upd tf6 (Int32.toNatClampNeg mm) 0))), (ta7, .inl (cyA G 1, 32768, .inl (upd tf7 (Int32.toNatClampNeg mm) (vp_nar .boolean 0))))]) [0, 1, 2, 3, 4, 5, 6, 7, 8] rfl
            have hD9 := hD.sub (ws' := [(t1, .inr (8, [.ref ta0, .ref ta1, .ref ta2, .ref ta3, .ref ta4, .ref ta5, .ref ta6, .ref ta7, .ref ta8, .int (mm + 1)])), (ta0, .inl (cyA G 0, 32768, .inl (upd tf0 (Int32.toNatClampNeg mm) p1))), (ta1, .inl (cyA G 0, 32768, .inl (upd tf1 (Int32.toNatClampNeg mm) p2))), (ta2, .inl (cyA G 0, 32768, .inl (upd tf2 (Int32.toNatClampNeg mm) (-1)))), (ta3, .inl (cyA G 0, 32768, .inl (upd tf3 (Int32.toNatClampNeg mm) 1))), (ta4, .inl (cyA G 0, 32768, .inl (upd tf4 (Int32.toNatClampNeg mm) ((sa_0 (Int32.toNatClampNeg p1)) + p2)))), (ta5, .inl (cyA G 0, 32768, .inl (upd tf5 (Int32.toNatClampNeg mm) (p2 + 1)))), (ta6, .inl (cyA G 0, 32768, .inl (upd tf6 (Int32.toNatClampNeg mm) 0))), (ta7, .inl (cyA G 1, 32768, .inl (upd tf7 (Int32.toNatClampNeg mm) (vp_nar .boolean 0))))]) [0, 1, 2, 3, 4, 5, 6, 7, 8] (by decide) rfl
            refine W.widen (k := 0) (n := 0) (Nat.le_of_ble_eq_true rfl) (Nat.le_of_ble_eq_true rfl) ?_
            exact W.iret (v := mm) hx hb hr (fun t ht hW => ⟨⟨mm, (), rfl, rfl, ⟨by rw [ht]; exact hP9, hD9⟩⟩, hS.F ht⟩) hS.2.2 dX9_leaf_120 hlocks
          · rw [if_pos c_18] at hm
            refine lv_iconst (v := 1) hx hb dX9_leaf_104 (by decide) ?_
            refine lv_iload_n hx hb dX9_leaf_105 rfl (lv_at hl 3 rfl) ?_
            refine lv_ishl hx hb dX9_leaf_106 ?_
            refine lv_goto (tgt := 111) hx hb dX9_leaf_107 (by decide) ?_
            obtain ⟨b_21, hm⟩ := ite_some hm
            refine va_iast hx hb hK hP hD hS 7 0 rfl rfl (inb_vp b_21) dX9_leaf_111 (fun H locs hP hD hS => ?_)
            have hP : va_P (DG G) clP3 [(t1, .inr (8, [.ref ta0, .ref ta1, .ref ta2, .ref ta3, .ref ta4, .ref ta5, .ref ta6, .ref ta7, .ref ta8, .int (mm + 1)])), (ta0, .inl (cyA G 0, 32768, .inl (upd tf0 (Int32.toNatClampNeg mm) p1))), (ta1, .inl (cyA G 0, 32768, .inl (upd tf1 (Int32.toNatClampNeg mm) p2))), (ta2, .inl (cyA G 0, 32768, .inl (upd tf2 (Int32.toNatClampNeg mm) (-1)))), (ta3, .inl (cyA G 0, 32768, .inl (upd tf3 (Int32.toNatClampNeg mm) 1))), (ta4, .inl (cyA G 0, 32768, .inl (upd tf4 (Int32.toNatClampNeg mm) ((sa_0 (Int32.toNatClampNeg p1)) + p2)))), (ta5, .inl (cyA G 0, 32768, .inl (upd tf5 (Int32.toNatClampNeg mm) (p2 + 1)))), (ta6, .inl (cyA G 0, 32768, .inl (upd tf6 (Int32.toNatClampNeg mm) ((1 : Int32) <<< (p2 &&& 31))))), (ta7, .inl (cyA G 1, 32768, .inl (tf7)))] H := hP
            have hD : va_D A [(t1, .inr (8, [.ref ta0, .ref ta1, .ref ta2, .ref ta3, .ref ta4, .ref ta5, .ref ta6, .ref ta7, .ref ta8, .int (mm + 1)])), (ta0, .inl (cyA G 0, 32768, .inl (upd tf0 (Int32.toNatClampNeg mm) p1))), (ta1, .inl (cyA G 0, 32768, .inl (upd tf1 (Int32.toNatClampNeg mm) p2))), (ta2, .inl (cyA G 0, 32768, .inl (upd tf2 (Int32.toNatClampNeg mm) (-1)))), (ta3, .inl (cyA G 0, 32768, .inl (upd tf3 (Int32.toNatClampNeg mm) 1))), (ta4, .inl (cyA G 0, 32768, .inl (upd tf4 (Int32.toNatClampNeg mm) ((sa_0 (Int32.toNatClampNeg p1)) + p2)))), (ta5, .inl (cyA G 0, 32768, .inl (upd tf5 (Int32.toNatClampNeg mm) (p2 + 1)))), (ta6, .inl (cyA G 0, 32768, .inl (upd tf6 (Int32.toNatClampNeg mm) ((1 : Int32) <<< (p2 &&& 31))))), (ta7, .inl (cyA G 1, 32768, .inl (tf7)))] := hD
            refine lv_aload_n hx hb dX9_leaf_112 rfl (lv_at hl 1 rfl) ?_
            refine va_get (D := DG G) (ci := 8) (v := .ref ta7) (C := RX9) (T := TX9) (N := 10) hx hb hts inW_X9 hown hK hP 0 rfl rfl 7 (by decide) (hts _ wm47) (fun _ h9 => h9) rfl dX9_leaf_113 ?_
            refine lv_iload_n hx hb dX9_leaf_116 rfl (lv_at hl 0 rfl) ?_
            refine lv_iconst (v := 0) hx hb dX9_leaf_117 (by decide) ?_
            obtain ⟨b_22, hm⟩ := ite_some hm
            refine va_zast hx hb hK hP hD hS 8 1 rfl rfl (inb_vp b_22) dX9_leaf_118 (fun H locs hP hD hS => ?_)
            have hP : va_P (DG G) clP3 [(t1, .inr (8, [.ref ta0, .ref ta1, .ref ta2, .ref ta3, .ref ta4, .ref ta5, .ref ta6, .ref ta7, .ref ta8, .int (mm + 1)])), (ta0, .inl (cyA G 0, 32768, .inl (upd tf0 (Int32.toNatClampNeg mm) p1))), (ta1, .inl (cyA G 0, 32768, .inl (upd tf1 (Int32.toNatClampNeg mm) p2))), (ta2, .inl (cyA G 0, 32768, .inl (upd tf2 (Int32.toNatClampNeg mm) (-1)))), (ta3, .inl (cyA G 0, 32768, .inl (upd tf3 (Int32.toNatClampNeg mm) 1))), (ta4, .inl (cyA G 0, 32768, .inl (upd tf4 (Int32.toNatClampNeg mm) ((sa_0 (Int32.toNatClampNeg p1)) + p2)))), (ta5, .inl (cyA G 0, 32768, .inl (upd tf5 (Int32.toNatClampNeg mm) (p2 + 1)))), (ta6, .inl (cyA G 0, 32768, .inl (upd tf6 (Int32.toNatClampNeg mm) ((1 : Int32) <<< (p2 &&& 31))))), (ta7, .inl (cyA G 1, 32768, .inl (upd tf7 (Int32.toNatClampNeg mm) (vp_nar .boolean 0))))] H := hP
            have hD : va_D A [(t1, .inr (8, [.ref ta0, .ref ta1, .ref ta2, .ref ta3, .ref ta4, .ref ta5, .ref ta6, .ref ta7, .ref ta8, .int (mm + 1)])), (ta0, .inl (cyA G 0, 32768, .inl (upd tf0 (Int32.toNatClampNeg mm) p1))), (ta1, .inl (cyA G 0, 32768, .inl (upd tf1 (Int32.toNatClampNeg mm) p2))), (ta2, .inl (cyA G 0, 32768, .inl (upd tf2 (Int32.toNatClampNeg mm) (-1)))), (ta3, .inl (cyA G 0, 32768, .inl (upd tf3 (Int32.toNatClampNeg mm) 1))), (ta4, .inl (cyA G 0, 32768, .inl (upd tf4 (Int32.toNatClampNeg mm) ((sa_0 (Int32.toNatClampNeg p1)) + p2)))), (ta5, .inl (cyA G 0, 32768, .inl (upd tf5 (Int32.toNatClampNeg mm) (p2 + 1)))), (ta6, .inl (cyA G 0, 32768, .inl (upd tf6 (Int32.toNatClampNeg mm) ((1 : Int32) <<< (p2 &&& 31))))), (ta7, .inl (cyA G 1, 32768, .inl (upd tf7 (Int32.toNatClampNeg mm) (vp_nar .boolean 0))))] := hD
            refine lv_iload_n hx hb dX9_leaf_119 rfl (lv_at hl 0 rfl) ?_
            simp only [Option.some.injEq, Prod.mk.injEq] at hm
            obtain ⟨rfl, rfl, rfl, rfl, rfl, rfl, rfl, rfl, rfl, rfl⟩ := hm
            have hP9 := hP.sub (ws' := [(t1, .inr (8, [.ref ta0, .ref ta1, .ref ta2, .ref ta3, .ref ta4, .ref ta5, .ref ta6, .ref ta7, .ref ta8, .int (mm + 1)])), (ta0, .inl (cyA G 0, 32768, .inl (upd tf0 (Int32.toNatClampNeg mm) p1))), (ta1, .inl (cyA G 0, 32768, .inl (upd tf1 (Int32.toNatClampNeg mm) p2))), (ta2, .inl (cyA G 0, 32768, .inl (upd tf2 (Int32.toNatClampNeg mm) (-1)))), (ta3, .inl (cyA G 0, 32768, .inl (upd tf3 (Int32.toNatClampNeg mm) 1))), (ta4, .inl (cyA G 0, 32768, .inl (upd tf4 (Int32.toNatClampNeg mm) ((sa_0 (Int32.toNatClampNeg p1)) + p2)))), (ta5, .inl (cyA G 0, 32768, .inl (upd tf5 (Int32.toNatClampNeg mm) (p2 + 1)))), (ta6, .inl (cyA G 0, 32768, .inl (upd tf6 (Int32.toNatClampNeg mm) ((1 : Int32) <<< (p2 &&& 31))))), (ta7, .inl (cyA G 1, 32768, .inl (upd tf7 (Int32.toNatClampNeg mm) (vp_nar .boolean 0))))]) [0, 1, 2, 3, 4, 5, 6, 7, 8] rfl
            have hD9 := hD.sub (ws' := [(t1, .inr (8, [.ref ta0, .ref ta1, .ref ta2, .ref ta3, .ref ta4, .ref ta5, .ref ta6, .ref ta7, .ref ta8, .int (mm + 1)])), (ta0, .inl (cyA G 0, 32768, .inl (upd tf0 (Int32.toNatClampNeg mm) p1))), (ta1, .inl (cyA G 0, 32768, .inl (upd tf1 (Int32.toNatClampNeg mm) p2))), (ta2, .inl (cyA G 0, 32768, .inl (upd tf2 (Int32.toNatClampNeg mm) (-1)))), (ta3, .inl (cyA G 0, 32768, .inl (upd tf3 (Int32.toNatClampNeg mm) 1))), (ta4, .inl (cyA G 0, 32768, .inl (upd tf4 (Int32.toNatClampNeg mm) ((sa_0 (Int32.toNatClampNeg p1)) + p2)))), (ta5, .inl (cyA G 0, 32768, .inl (upd tf5 (Int32.toNatClampNeg mm) (p2 + 1)))), (ta6, .inl (cyA G 0, 32768, .inl (upd tf6 (Int32.toNatClampNeg mm) ((1 : Int32) <<< (p2 &&& 31))))), (ta7, .inl (cyA G 1, 32768, .inl (upd tf7 (Int32.toNatClampNeg mm) (vp_nar .boolean 0))))]) [0, 1, 2, 3, 4, 5, 6, 7, 8] (by decide) rfl
            refine W.widen (k := 0) (n := 0) (Nat.le_of_ble_eq_true rfl) (Nat.le_of_ble_eq_true rfl) ?_
            exact W.iret (v := mm) hx hb hr (fun t ht hW => ⟨⟨mm, (), rfl, rfl, ⟨by rw [ht]; exact hP9, hD9⟩⟩, hS.F ht⟩) hS.2.2 dX9_leaf_120 hlocks
      · rw [if_neg c_3] at hm
        refine lv_iconst (v := (-1)) hx hb dX9_leaf_18 (by decide) ?_
        simp only [Option.some.injEq, Prod.mk.injEq] at hm
        obtain ⟨rfl, rfl, rfl, rfl, rfl, rfl, rfl, rfl, rfl, rfl⟩ := hm
        have hP9 := hP.sub (ws' := [(t1, .inr (8, [.ref ta0, .ref ta1, .ref ta2, .ref ta3, .ref ta4, .ref ta5, .ref ta6, .ref ta7, .ref ta8, .int mm])), (ta0, .inl (cyA G 0, 32768, .inl (tf0))), (ta1, .inl (cyA G 0, 32768, .inl (tf1))), (ta2, .inl (cyA G 0, 32768, .inl (tf2))), (ta3, .inl (cyA G 0, 32768, .inl (tf3))), (ta4, .inl (cyA G 0, 32768, .inl (tf4))), (ta5, .inl (cyA G 0, 32768, .inl (tf5))), (ta6, .inl (cyA G 0, 32768, .inl (tf6))), (ta7, .inl (cyA G 1, 32768, .inl (tf7)))]) [0, 1, 2, 3, 4, 5, 6, 7, 8] rfl
        have hD9 := hD.sub (ws' := [(t1, .inr (8, [.ref ta0, .ref ta1, .ref ta2, .ref ta3, .ref ta4, .ref ta5, .ref ta6, .ref ta7, .ref ta8, .int mm])), (ta0, .inl (cyA G 0, 32768, .inl (tf0))), (ta1, .inl (cyA G 0, 32768, .inl (tf1))), (ta2, .inl (cyA G 0, 32768, .inl (tf2))), (ta3, .inl (cyA G 0, 32768, .inl (tf3))), (ta4, .inl (cyA G 0, 32768, .inl (tf4))), (ta5, .inl (cyA G 0, 32768, .inl (tf5))), (ta6, .inl (cyA G 0, 32768, .inl (tf6))), (ta7, .inl (cyA G 1, 32768, .inl (tf7)))]) [0, 1, 2, 3, 4, 5, 6, 7, 8] (by decide) rfl
        refine W.widen (k := 0) (n := 0) (Nat.le_of_ble_eq_true rfl) (Nat.le_of_ble_eq_true rfl) ?_
        exact W.iret (v := (-1)) hx hb hr (fun t ht hW => ⟨⟨(-1), (), rfl, rfl, ⟨by rw [ht]; exact hP9, hD9⟩⟩, hS.F ht⟩) hS.2.2 dX9_leaf_19 hlocks
def f_X9_pair  (mm : Int32) (tf0 : Nat → Int32) (tf1 : Nat → Int32) (tf2 : Nat → Int32) (tf3 : Nat → Int32) (tf4 : Nat → Int32) (tf5 : Nat → Int32) (tf6 : Nat → Int32) (tf7 : Nat → Int32) (p1 : Int32) (p2 : Int32) (p3 : Int32) : Option (Int32 × Int32 × (Nat → Int32) × (Nat → Int32) × (Nat → Int32) × (Nat → Int32) × (Nat → Int32) × (Nat → Int32) × (Nat → Int32) × (Nat → Int32)) := (if p1 < 5 then some ((-1), mm, tf0, tf1, tf2, tf3, tf4, tf5, tf6, tf7) else (if 7 < p1 then some ((-1), mm, tf0, tf1, tf2, tf3, tf4, tf5, tf6, tf7) else (if mm < 32768 then (if p2 < 0 then some ((-1), mm, tf0, tf1, tf2, tf3, tf4, tf5, tf6, tf7) else (if mm ≤ p2 then some ((-1), mm, tf0, tf1, tf2, tf3, tf4, tf5, tf6, tf7) else (if p3 < 0 then some ((-1), mm, tf0, tf1, tf2, tf3, tf4, tf5, tf6, tf7) else (if mm ≤ p3 then some ((-1), mm, tf0, tf1, tf2, tf3, tf4, tf5, tf6, tf7) else (if inb p2 32768 = true then (if inb p3 32768 = true then (if ((tf3 (Int32.toNatClampNeg p2)) + (tf3 (Int32.toNatClampNeg p3))) < 200 then (if inb mm 32768 = true then (if inb mm 32768 = true then (if inb mm 32768 = true then (if inb p2 32768 = true then (if inb p3 32768 = true then (if inb mm 32768 = true then (if inb (p1 - 5) 3 = true then (if inb p2 32768 = true then (if inb (p1 - 5) 3 = true then (if inb p3 32768 = true then (if inb (p1 - 5) 3 = true then (if inb mm 32768 = true then (if inb p2 32768 = true then (if p1 = 7 then (if inb p3 32768 = true then (if inb mm 32768 = true then (if inb p2 32768 = true then (if inb p3 32768 = true then (if inb mm 32768 = true then (if inb p2 32768 = true then (if (tf7 (Int32.toNatClampNeg p2)) = 0 then (if inb p3 32768 = true then (if (tf7 (Int32.toNatClampNeg p3)) = 0 then (if p1 = 7 then (if inb p2 32768 = true then (if ((upd tf0 (Int32.toNatClampNeg mm) p1) (Int32.toNatClampNeg p2)) = 6 then (if inb mm 32768 = true then some (mm, (mm + 1), upd tf0 (Int32.toNatClampNeg mm) p1, upd tf1 (Int32.toNatClampNeg mm) p2, upd tf2 (Int32.toNatClampNeg mm) p3, upd tf3 (Int32.toNatClampNeg mm) ((1 + (tf3 (Int32.toNatClampNeg p2))) + (tf3 (Int32.toNatClampNeg p3))), upd tf4 (Int32.toNatClampNeg mm) (((((sa_1 (Int32.toNatClampNeg (p1 - 5))) * (tf4 (Int32.toNatClampNeg p2))) + ((sa_2 (Int32.toNatClampNeg (p1 - 5))) * (tf4 (Int32.toNatClampNeg p3)))) + (sa_3 (Int32.toNatClampNeg (p1 - 5)))) - ((((sa_1 (Int32.toNatClampNeg (p1 - 5))) * (tf4 (Int32.toNatClampNeg p2))) + ((sa_2 (Int32.toNatClampNeg (p1 - 5))) * (tf4 (Int32.toNatClampNeg p3)))) + (sa_3 (Int32.toNatClampNeg (p1 - 5)))) / 1000003 * 1000003), upd tf5 (Int32.toNatClampNeg mm) (if (tf5 (Int32.toNatClampNeg p2)) < (tf5 (Int32.toNatClampNeg p3)) then (tf5 (Int32.toNatClampNeg p3)) else (tf5 (Int32.toNatClampNeg p2))), upd tf6 (Int32.toNatClampNeg mm) ((tf6 (Int32.toNatClampNeg p2)) ||| (tf6 (Int32.toNatClampNeg p3))), upd tf7 (Int32.toNatClampNeg mm) (vp_nar .boolean 1)) else none) else (if inb mm 32768 = true then some (mm, (mm + 1), upd tf0 (Int32.toNatClampNeg mm) p1, upd tf1 (Int32.toNatClampNeg mm) p2, upd tf2 (Int32.toNatClampNeg mm) p3, upd tf3 (Int32.toNatClampNeg mm) ((1 + (tf3 (Int32.toNatClampNeg p2))) + (tf3 (Int32.toNatClampNeg p3))), upd tf4 (Int32.toNatClampNeg mm) (((((sa_1 (Int32.toNatClampNeg (p1 - 5))) * (tf4 (Int32.toNatClampNeg p2))) + ((sa_2 (Int32.toNatClampNeg (p1 - 5))) * (tf4 (Int32.toNatClampNeg p3)))) + (sa_3 (Int32.toNatClampNeg (p1 - 5)))) - ((((sa_1 (Int32.toNatClampNeg (p1 - 5))) * (tf4 (Int32.toNatClampNeg p2))) + ((sa_2 (Int32.toNatClampNeg (p1 - 5))) * (tf4 (Int32.toNatClampNeg p3)))) + (sa_3 (Int32.toNatClampNeg (p1 - 5)))) / 1000003 * 1000003), upd tf5 (Int32.toNatClampNeg mm) (if (tf5 (Int32.toNatClampNeg p2)) < (tf5 (Int32.toNatClampNeg p3)) then (tf5 (Int32.toNatClampNeg p3)) else (tf5 (Int32.toNatClampNeg p2))), upd tf6 (Int32.toNatClampNeg mm) ((tf6 (Int32.toNatClampNeg p2)) ||| (tf6 (Int32.toNatClampNeg p3))), upd tf7 (Int32.toNatClampNeg mm) (vp_nar .boolean 0)) else none)) else none) else (if inb mm 32768 = true then some (mm, (mm + 1), upd tf0 (Int32.toNatClampNeg mm) p1, upd tf1 (Int32.toNatClampNeg mm) p2, upd tf2 (Int32.toNatClampNeg mm) p3, upd tf3 (Int32.toNatClampNeg mm) ((1 + (tf3 (Int32.toNatClampNeg p2))) + (tf3 (Int32.toNatClampNeg p3))), upd tf4 (Int32.toNatClampNeg mm) (((((sa_1 (Int32.toNatClampNeg (p1 - 5))) * (tf4 (Int32.toNatClampNeg p2))) + ((sa_2 (Int32.toNatClampNeg (p1 - 5))) * (tf4 (Int32.toNatClampNeg p3)))) + (sa_3 (Int32.toNatClampNeg (p1 - 5)))) - ((((sa_1 (Int32.toNatClampNeg (p1 - 5))) * (tf4 (Int32.toNatClampNeg p2))) + ((sa_2 (Int32.toNatClampNeg (p1 - 5))) * (tf4 (Int32.toNatClampNeg p3)))) + (sa_3 (Int32.toNatClampNeg (p1 - 5)))) / 1000003 * 1000003), upd tf5 (Int32.toNatClampNeg mm) (if (tf5 (Int32.toNatClampNeg p2)) < (tf5 (Int32.toNatClampNeg p3)) then (tf5 (Int32.toNatClampNeg p3)) else (tf5 (Int32.toNatClampNeg p2))), upd tf6 (Int32.toNatClampNeg mm) ((tf6 (Int32.toNatClampNeg p2)) ||| (tf6 (Int32.toNatClampNeg p3))), upd tf7 (Int32.toNatClampNeg mm) (vp_nar .boolean 0)) else none)) else (if inb mm 32768 = true then some (mm, (mm + 1), upd tf0 (Int32.toNatClampNeg mm) p1, upd tf1 (Int32.toNatClampNeg mm) p2, upd tf2 (Int32.toNatClampNeg mm) p3, upd tf3 (Int32.toNatClampNeg mm) ((1 + (tf3 (Int32.toNatClampNeg p2))) + (tf3 (Int32.toNatClampNeg p3))), upd tf4 (Int32.toNatClampNeg mm) (((((sa_1 (Int32.toNatClampNeg (p1 - 5))) * (tf4 (Int32.toNatClampNeg p2))) + ((sa_2 (Int32.toNatClampNeg (p1 - 5))) * (tf4 (Int32.toNatClampNeg p3)))) + (sa_3 (Int32.toNatClampNeg (p1 - 5)))) - ((((sa_1 (Int32.toNatClampNeg (p1 - 5))) * (tf4 (Int32.toNatClampNeg p2))) + ((sa_2 (Int32.toNatClampNeg (p1 - 5))) * (tf4 (Int32.toNatClampNeg p3)))) + (sa_3 (Int32.toNatClampNeg (p1 - 5)))) / 1000003 * 1000003), upd tf5 (Int32.toNatClampNeg mm) (if (tf5 (Int32.toNatClampNeg p2)) < (tf5 (Int32.toNatClampNeg p3)) then (tf5 (Int32.toNatClampNeg p3)) else (tf5 (Int32.toNatClampNeg p2))), upd tf6 (Int32.toNatClampNeg mm) ((tf6 (Int32.toNatClampNeg p2)) ||| (tf6 (Int32.toNatClampNeg p3))), upd tf7 (Int32.toNatClampNeg mm) (vp_nar .boolean 1)) else none)) else none) else (if inb mm 32768 = true then some (mm, (mm + 1), upd tf0 (Int32.toNatClampNeg mm) p1, upd tf1 (Int32.toNatClampNeg mm) p2, upd tf2 (Int32.toNatClampNeg mm) p3, upd tf3 (Int32.toNatClampNeg mm) ((1 + (tf3 (Int32.toNatClampNeg p2))) + (tf3 (Int32.toNatClampNeg p3))), upd tf4 (Int32.toNatClampNeg mm) (((((sa_1 (Int32.toNatClampNeg (p1 - 5))) * (tf4 (Int32.toNatClampNeg p2))) + ((sa_2 (Int32.toNatClampNeg (p1 - 5))) * (tf4 (Int32.toNatClampNeg p3)))) + (sa_3 (Int32.toNatClampNeg (p1 - 5)))) - ((((sa_1 (Int32.toNatClampNeg (p1 - 5))) * (tf4 (Int32.toNatClampNeg p2))) + ((sa_2 (Int32.toNatClampNeg (p1 - 5))) * (tf4 (Int32.toNatClampNeg p3)))) + (sa_3 (Int32.toNatClampNeg (p1 - 5)))) / 1000003 * 1000003), upd tf5 (Int32.toNatClampNeg mm) (if (tf5 (Int32.toNatClampNeg p2)) < (tf5 (Int32.toNatClampNeg p3)) then (tf5 (Int32.toNatClampNeg p3)) else (tf5 (Int32.toNatClampNeg p2))), upd tf6 (Int32.toNatClampNeg mm) ((tf6 (Int32.toNatClampNeg p2)) ||| (tf6 (Int32.toNatClampNeg p3))), upd tf7 (Int32.toNatClampNeg mm) (vp_nar .boolean 1)) else none)) else none) else none) else none) else none) else none) else none) else (if inb p3 32768 = true then (if inb mm 32768 = true then (if inb p2 32768 = true then (if inb p3 32768 = true then (if inb mm 32768 = true then (if inb p2 32768 = true then (if (tf7 (Int32.toNatClampNeg p2)) = 0 then (if inb p3 32768 = true then (if (tf7 (Int32.toNatClampNeg p3)) = 0 then (if p1 = 7 then (if inb p2 32768 = true then (if ((upd tf0 (Int32.toNatClampNeg mm) p1) (Int32.toNatClampNeg p2)) = 6 then (if inb mm 32768 = true then some (mm, (mm + 1), upd tf0 (Int32.toNatClampNeg mm) p1, upd tf1 (Int32.toNatClampNeg mm) p2, upd tf2 (Int32.toNatClampNeg mm) p3, upd tf3 (Int32.toNatClampNeg mm) ((1 + (tf3 (Int32.toNatClampNeg p2))) + (tf3 (Int32.toNatClampNeg p3))), upd tf4 (Int32.toNatClampNeg mm) (((((sa_1 (Int32.toNatClampNeg (p1 - 5))) * (tf4 (Int32.toNatClampNeg p2))) + ((sa_2 (Int32.toNatClampNeg (p1 - 5))) * (tf4 (Int32.toNatClampNeg p3)))) + (sa_3 (Int32.toNatClampNeg (p1 - 5)))) - ((((sa_1 (Int32.toNatClampNeg (p1 - 5))) * (tf4 (Int32.toNatClampNeg p2))) + ((sa_2 (Int32.toNatClampNeg (p1 - 5))) * (tf4 (Int32.toNatClampNeg p3)))) + (sa_3 (Int32.toNatClampNeg (p1 - 5)))) / 1000003 * 1000003), upd tf5 (Int32.toNatClampNeg mm) (if (tf5 (Int32.toNatClampNeg p2)) < ((tf5 (Int32.toNatClampNeg p3)) - 1) then ((tf5 (Int32.toNatClampNeg p3)) - 1) else (tf5 (Int32.toNatClampNeg p2))), upd tf6 (Int32.toNatClampNeg mm) ((tf6 (Int32.toNatClampNeg p2)) ||| (tf6 (Int32.toNatClampNeg p3))), upd tf7 (Int32.toNatClampNeg mm) (vp_nar .boolean 1)) else none) else (if inb mm 32768 = true then some (mm, (mm + 1), upd tf0 (Int32.toNatClampNeg mm) p1, upd tf1 (Int32.toNatClampNeg mm) p2, upd tf2 (Int32.toNatClampNeg mm) p3, upd tf3 (Int32.toNatClampNeg mm) ((1 + (tf3 (Int32.toNatClampNeg p2))) + (tf3 (Int32.toNatClampNeg p3))), upd tf4 (Int32.toNatClampNeg mm) (((((sa_1 (Int32.toNatClampNeg (p1 - 5))) * (tf4 (Int32.toNatClampNeg p2))) + ((sa_2 (Int32.toNatClampNeg (p1 - 5))) * (tf4 (Int32.toNatClampNeg p3)))) + (sa_3 (Int32.toNatClampNeg (p1 - 5)))) - ((((sa_1 (Int32.toNatClampNeg (p1 - 5))) * (tf4 (Int32.toNatClampNeg p2))) + ((sa_2 (Int32.toNatClampNeg (p1 - 5))) * (tf4 (Int32.toNatClampNeg p3)))) + (sa_3 (Int32.toNatClampNeg (p1 - 5)))) / 1000003 * 1000003), upd tf5 (Int32.toNatClampNeg mm) (if (tf5 (Int32.toNatClampNeg p2)) < ((tf5 (Int32.toNatClampNeg p3)) - 1) then ((tf5 (Int32.toNatClampNeg p3)) - 1) else (tf5 (Int32.toNatClampNeg p2))), upd tf6 (Int32.toNatClampNeg mm) ((tf6 (Int32.toNatClampNeg p2)) ||| (tf6 (Int32.toNatClampNeg p3))), upd tf7 (Int32.toNatClampNeg mm) (vp_nar .boolean 0)) else none)) else none) else (if inb mm 32768 = true then some (mm, (mm + 1), upd tf0 (Int32.toNatClampNeg mm) p1, upd tf1 (Int32.toNatClampNeg mm) p2, upd tf2 (Int32.toNatClampNeg mm) p3, upd tf3 (Int32.toNatClampNeg mm) ((1 + (tf3 (Int32.toNatClampNeg p2))) + (tf3 (Int32.toNatClampNeg p3))), upd tf4 (Int32.toNatClampNeg mm) (((((sa_1 (Int32.toNatClampNeg (p1 - 5))) * (tf4 (Int32.toNatClampNeg p2))) + ((sa_2 (Int32.toNatClampNeg (p1 - 5))) * (tf4 (Int32.toNatClampNeg p3)))) + (sa_3 (Int32.toNatClampNeg (p1 - 5)))) - ((((sa_1 (Int32.toNatClampNeg (p1 - 5))) * (tf4 (Int32.toNatClampNeg p2))) + ((sa_2 (Int32.toNatClampNeg (p1 - 5))) * (tf4 (Int32.toNatClampNeg p3)))) + (sa_3 (Int32.toNatClampNeg (p1 - 5)))) / 1000003 * 1000003), upd tf5 (Int32.toNatClampNeg mm) (if (tf5 (Int32.toNatClampNeg p2)) < ((tf5 (Int32.toNatClampNeg p3)) - 1) then ((tf5 (Int32.toNatClampNeg p3)) - 1) else (tf5 (Int32.toNatClampNeg p2))), upd tf6 (Int32.toNatClampNeg mm) ((tf6 (Int32.toNatClampNeg p2)) ||| (tf6 (Int32.toNatClampNeg p3))), upd tf7 (Int32.toNatClampNeg mm) (vp_nar .boolean 0)) else none)) else (if inb mm 32768 = true then some (mm, (mm + 1), upd tf0 (Int32.toNatClampNeg mm) p1, upd tf1 (Int32.toNatClampNeg mm) p2, upd tf2 (Int32.toNatClampNeg mm) p3, upd tf3 (Int32.toNatClampNeg mm) ((1 + (tf3 (Int32.toNatClampNeg p2))) + (tf3 (Int32.toNatClampNeg p3))), upd tf4 (Int32.toNatClampNeg mm) (((((sa_1 (Int32.toNatClampNeg (p1 - 5))) * (tf4 (Int32.toNatClampNeg p2))) + ((sa_2 (Int32.toNatClampNeg (p1 - 5))) * (tf4 (Int32.toNatClampNeg p3)))) + (sa_3 (Int32.toNatClampNeg (p1 - 5)))) - ((((sa_1 (Int32.toNatClampNeg (p1 - 5))) * (tf4 (Int32.toNatClampNeg p2))) + ((sa_2 (Int32.toNatClampNeg (p1 - 5))) * (tf4 (Int32.toNatClampNeg p3)))) + (sa_3 (Int32.toNatClampNeg (p1 - 5)))) / 1000003 * 1000003), upd tf5 (Int32.toNatClampNeg mm) (if (tf5 (Int32.toNatClampNeg p2)) < ((tf5 (Int32.toNatClampNeg p3)) - 1) then ((tf5 (Int32.toNatClampNeg p3)) - 1) else (tf5 (Int32.toNatClampNeg p2))), upd tf6 (Int32.toNatClampNeg mm) ((tf6 (Int32.toNatClampNeg p2)) ||| (tf6 (Int32.toNatClampNeg p3))), upd tf7 (Int32.toNatClampNeg mm) (vp_nar .boolean 1)) else none)) else none) else (if inb mm 32768 = true then some (mm, (mm + 1), upd tf0 (Int32.toNatClampNeg mm) p1, upd tf1 (Int32.toNatClampNeg mm) p2, upd tf2 (Int32.toNatClampNeg mm) p3, upd tf3 (Int32.toNatClampNeg mm) ((1 + (tf3 (Int32.toNatClampNeg p2))) + (tf3 (Int32.toNatClampNeg p3))), upd tf4 (Int32.toNatClampNeg mm) (((((sa_1 (Int32.toNatClampNeg (p1 - 5))) * (tf4 (Int32.toNatClampNeg p2))) + ((sa_2 (Int32.toNatClampNeg (p1 - 5))) * (tf4 (Int32.toNatClampNeg p3)))) + (sa_3 (Int32.toNatClampNeg (p1 - 5)))) - ((((sa_1 (Int32.toNatClampNeg (p1 - 5))) * (tf4 (Int32.toNatClampNeg p2))) + ((sa_2 (Int32.toNatClampNeg (p1 - 5))) * (tf4 (Int32.toNatClampNeg p3)))) + (sa_3 (Int32.toNatClampNeg (p1 - 5)))) / 1000003 * 1000003), upd tf5 (Int32.toNatClampNeg mm) (if (tf5 (Int32.toNatClampNeg p2)) < ((tf5 (Int32.toNatClampNeg p3)) - 1) then ((tf5 (Int32.toNatClampNeg p3)) - 1) else (tf5 (Int32.toNatClampNeg p2))), upd tf6 (Int32.toNatClampNeg mm) ((tf6 (Int32.toNatClampNeg p2)) ||| (tf6 (Int32.toNatClampNeg p3))), upd tf7 (Int32.toNatClampNeg mm) (vp_nar .boolean 1)) else none)) else none) else none) else none) else none) else none) else none)) else none) else none) else none) else none) else none) else none) else none) else none) else none) else none) else none) else none) else none) else some ((-1), mm, tf0, tf1, tf2, tf3, tf4, tf5, tf6, tf7)) else none) else none))))) else some ((-1), mm, tf0, tf1, tf2, tf3, tf4, tf5, tf6, tf7))))
set_option maxHeartbeats 4000000 in
set_option maxRecDepth 100000 in
theorem k_X9_pair (l : Launch) (hfl : l.stackTraces = false) (G : GC) (t1 : Nat) (p1 : Int32) (p2 : Int32) (p3 : Int32) (ta0 : Nat) (ta1 : Nat) (ta2 : Nat) (ta3 : Nat) (ta4 : Nat) (ta5 : Nat) (ta6 : Nat) (ta7 : Nat) (ta8 : Nat) (mm : Int32) (tf0 : Nat → Int32) (tf1 : Nat → Int32) (tf2 : Nat → Int32) (tf3 : Nat → Int32) (tf4 : Nat → Int32) (tf5 : Nat → Int32) (tf6 : Nat → Int32) (tf7 : Nat → Int32) (r9 : Int32) (mm_9 : Int32) (tf0_9 : Nat → Int32) (tf1_9 : Nat → Int32) (tf2_9 : Nat → Int32) (tf3_9 : Nat → Int32) (tf4_9 : Nat → Int32) (tf5_9 : Nat → Int32) (tf6_9 : Nat → Int32) (tf7_9 : Nat → Int32) (hm : f_X9_pair mm tf0 tf1 tf2 tf3 tf4 tf5 tf6 tf7 p1 p2 p3 = some (r9, mm_9, tf0_9, tf1_9, tf2_9, tf3_9, tf4_9, tf5_9, tf6_9, tf7_9)) (sz : Nat) : Met l yX9_pair (Cond.code yX9_pair cX9_pair 6 (some .int) :: W0) ({ frames := 1, cells := 0, slots := 0, locals := 15 }) (va_Pc [.ref t1, .int p1, .int p2, .int p3] (WD G [(t1, .inr (8, [.ref ta0, .ref ta1, .ref ta2, .ref ta3, .ref ta4, .ref ta5, .ref ta6, .ref ta7, .ref ta8, .int mm])), (ta0, .inl (cyA G 0, 32768, .inl (tf0))), (ta1, .inl (cyA G 0, 32768, .inl (tf1))), (ta2, .inl (cyA G 0, 32768, .inl (tf2))), (ta3, .inl (cyA G 0, 32768, .inl (tf3))), (ta4, .inl (cyA G 0, 32768, .inl (tf4))), (ta5, .inl (cyA G 0, 32768, .inl (tf5))), (ta6, .inl (cyA G 0, 32768, .inl (tf6))), (ta7, .inl (cyA G 1, 32768, .inl (tf7)))] sz)) (va_Qi (fun (r : Int32) (_ : Unit) => r = r9) (fun _ t => PW G (va_A [(t1, .inr (8, [.ref ta0, .ref ta1, .ref ta2, .ref ta3, .ref ta4, .ref ta5, .ref ta6, .ref ta7, .ref ta8, .int mm])), (ta0, .inl (cyA G 0, 32768, .inl (tf0))), (ta1, .inl (cyA G 0, 32768, .inl (tf1))), (ta2, .inl (cyA G 0, 32768, .inl (tf2))), (ta3, .inl (cyA G 0, 32768, .inl (tf3))), (ta4, .inl (cyA G 0, 32768, .inl (tf4))), (ta5, .inl (cyA G 0, 32768, .inl (tf5))), (ta6, .inl (cyA G 0, 32768, .inl (tf6))), (ta7, .inl (cyA G 1, 32768, .inl (tf7)))] sz) [(t1, .inr (8, [.ref ta0, .ref ta1, .ref ta2, .ref ta3, .ref ta4, .ref ta5, .ref ta6, .ref ta7, .ref ta8, .int mm_9])), (ta0, .inl (cyA G 0, 32768, .inl (tf0_9))), (ta1, .inl (cyA G 0, 32768, .inl (tf1_9))), (ta2, .inl (cyA G 0, 32768, .inl (tf2_9))), (ta3, .inl (cyA G 0, 32768, .inl (tf3_9))), (ta4, .inl (cyA G 0, 32768, .inl (tf4_9))), (ta5, .inl (cyA G 0, 32768, .inl (tf5_9))), (ta6, .inl (cyA G 0, 32768, .inl (tf6_9))), (ta7, .inl (cyA G 1, 32768, .inl (tf7_9)))] t) (va_A [(t1, .inr (8, [.ref ta0, .ref ta1, .ref ta2, .ref ta3, .ref ta4, .ref ta5, .ref ta6, .ref ta7, .ref ta8, .int mm])), (ta0, .inl (cyA G 0, 32768, .inl (tf0))), (ta1, .inl (cyA G 0, 32768, .inl (tf1))), (ta2, .inl (cyA G 0, 32768, .inl (tf2))), (ta3, .inl (cyA G 0, 32768, .inl (tf3))), (ta4, .inl (cyA G 0, 32768, .inl (tf4))), (ta5, .inl (cyA G 0, 32768, .inl (tf5))), (ta6, .inl (cyA G 0, 32768, .inl (tf6))), (ta7, .inl (cyA G 1, 32768, .inl (tf7)))] sz)) 0 0 (va_A [(t1, .inr (8, [.ref ta0, .ref ta1, .ref ta2, .ref ta3, .ref ta4, .ref ta5, .ref ta6, .ref ta7, .ref ta8, .int mm])), (ta0, .inl (cyA G 0, 32768, .inl (tf0))), (ta1, .inl (cyA G 0, 32768, .inl (tf1))), (ta2, .inl (cyA G 0, 32768, .inl (tf2))), (ta3, .inl (cyA G 0, 32768, .inl (tf3))), (ta4, .inl (cyA G 0, 32768, .inl (tf4))), (ta5, .inl (cyA G 0, 32768, .inl (tf5))), (ta6, .inl (cyA G 0, 32768, .inl (tf6))), (ta7, .inl (cyA G 1, 32768, .inl (tf7)))] sz) := by
  rw [f_X9_pair] at hm
  refine Met.ofW (cc := cX9_pair) (maxL := 6) (ret := (some .int)) (by decide) rfl ?_
  intro p e s m args below meth c s₁ B hml hv
  obtain ⟨rfl, hsz, hP, hK, hD0, hE⟩ := hv
  have hx := B.exec
  have hb := B.bytes
  have hr := B.returns
  have hts := w0_tail B.pre
  have hown : s.vm.findClass RX9 = some m.cls := findClass_of_methodNamed B.named
  have hlocks := B.notSynchronized
  subst hsz
  have hD := hD0.self (sz := s.heap.size)
  generalize hAe : va_A [(t1, .inr (8, [.ref ta0, .ref ta1, .ref ta2, .ref ta3, .ref ta4, .ref ta5, .ref ta6, .ref ta7, .ref ta8, .int mm])), (ta0, .inl (cyA G 0, 32768, .inl (tf0))), (ta1, .inl (cyA G 0, 32768, .inl (tf1))), (ta2, .inl (cyA G 0, 32768, .inl (tf2))), (ta3, .inl (cyA G 0, 32768, .inl (tf3))), (ta4, .inl (cyA G 0, 32768, .inl (tf4))), (ta5, .inl (cyA G 0, 32768, .inl (tf5))), (ta6, .inl (cyA G 0, 32768, .inl (tf6))), (ta7, .inl (cyA G 1, 32768, .inl (tf7)))] s.heap.size = A at hD hE ⊢
  have hA : ∀ q : Nat, s.heap.size ≤ q → A q := fun q h => by rw [← hAe]; exact Or.inr h
  have hS : va_S A s.heap s.heap [] := va_S.rf
  obtain ⟨H, hHe⟩ : ∃ H : Heap, H = s.heap := ⟨_, rfl⟩
  have hP : va_P (DG G) clP3 [(t1, .inr (8, [.ref ta0, .ref ta1, .ref ta2, .ref ta3, .ref ta4, .ref ta5, .ref ta6, .ref ta7, .ref ta8, .int mm])), (ta0, .inl (cyA G 0, 32768, .inl (tf0))), (ta1, .inl (cyA G 0, 32768, .inl (tf1))), (ta2, .inl (cyA G 0, 32768, .inl (tf2))), (ta3, .inl (cyA G 0, 32768, .inl (tf3))), (ta4, .inl (cyA G 0, 32768, .inl (tf4))), (ta5, .inl (cyA G 0, 32768, .inl (tf5))), (ta6, .inl (cyA G 0, 32768, .inl (tf6))), (ta7, .inl (cyA G 1, 32768, .inl (tf7)))] H := by rw [hHe]; exact hP
  have hS : va_S A s.heap H [] := by rw [hHe]; exact hS
  have hl := lv_entry ([.ref t1, .int p1, .int p2, .int p3]) (n := 6) (Nat.le_of_ble_eq_true rfl)
  rw [lg_entry_eq, ← hHe]
  generalize (lg_sl ([.ref t1, .int p1, .int p2, .int p3]) ++ List.replicate (6 - (lg_sl ([.ref t1, .int p1, .int p2, .int p3])).length) Slot.unset).toArray = ls at hl ⊢
  have hl : lv_has ls 6 [(0, .ref t1), (1, .int p1), (2, .int p2), (3, .int p3)] := hl
  refine lv_iload_n hx hb dX9_pair_0 rfl (lv_at hl 1 rfl) ?_
  refine lv_iconst (v := 5) hx hb dX9_pair_1 (by decide) ?_
  refine lv_icmp_lt (tgt := 20) hx hb dX9_pair_2 (by decide) (fun c_1 => ?_) (fun c_1 => ?_)
  · rw [if_pos c_1] at hm
    refine lv_iconst (v := (-1)) hx hb dX9_pair_20 (by decide) ?_
    simp only [Option.some.injEq, Prod.mk.injEq] at hm
    obtain ⟨rfl, rfl, rfl, rfl, rfl, rfl, rfl, rfl, rfl, rfl⟩ := hm
    have hP9 := hP.sub (ws' := [(t1, .inr (8, [.ref ta0, .ref ta1, .ref ta2, .ref ta3, .ref ta4, .ref ta5, .ref ta6, .ref ta7, .ref ta8, .int mm])), (ta0, .inl (cyA G 0, 32768, .inl (tf0))), (ta1, .inl (cyA G 0, 32768, .inl (tf1))), (ta2, .inl (cyA G 0, 32768, .inl (tf2))), (ta3, .inl (cyA G 0, 32768, .inl (tf3))), (ta4, .inl (cyA G 0, 32768, .inl (tf4))), (ta5, .inl (cyA G 0, 32768, .inl (tf5))), (ta6, .inl (cyA G 0, 32768, .inl (tf6))), (ta7, .inl (cyA G 1, 32768, .inl (tf7)))]) [0, 1, 2, 3, 4, 5, 6, 7, 8] rfl
    have hD9 := hD.sub (ws' := [(t1, .inr (8, [.ref ta0, .ref ta1, .ref ta2, .ref ta3, .ref ta4, .ref ta5, .ref ta6, .ref ta7, .ref ta8, .int mm])), (ta0, .inl (cyA G 0, 32768, .inl (tf0))), (ta1, .inl (cyA G 0, 32768, .inl (tf1))), (ta2, .inl (cyA G 0, 32768, .inl (tf2))), (ta3, .inl (cyA G 0, 32768, .inl (tf3))), (ta4, .inl (cyA G 0, 32768, .inl (tf4))), (ta5, .inl (cyA G 0, 32768, .inl (tf5))), (ta6, .inl (cyA G 0, 32768, .inl (tf6))), (ta7, .inl (cyA G 1, 32768, .inl (tf7)))]) [0, 1, 2, 3, 4, 5, 6, 7, 8] (by decide) rfl
    refine W.widen (k := 0) (n := 0) (Nat.le_of_ble_eq_true rfl) (Nat.le_of_ble_eq_true rfl) ?_
    exact W.iret (v := (-1)) hx hb hr (fun t ht hW => ⟨⟨(-1), (), rfl, rfl, ⟨by rw [ht]; exact hP9, hD9⟩⟩, hS.F ht⟩) hS.2.2 dX9_pair_21 hlocks
  · rw [if_neg c_1] at hm
    refine lv_iload_n hx hb dX9_pair_5 rfl (lv_at hl 1 rfl) ?_
    refine lv_bipush (v := 7) hx hb dX9_pair_6 (by decide) ?_
    refine lv_icmp_gt (tgt := 20) hx hb dX9_pair_8 (by decide) (fun c_2 => ?_) (fun c_2 => ?_)
    · rw [if_pos c_2] at hm
      refine lv_iconst (v := (-1)) hx hb dX9_pair_20 (by decide) ?_
      simp only [Option.some.injEq, Prod.mk.injEq] at hm
      obtain ⟨rfl, rfl, rfl, rfl, rfl, rfl, rfl, rfl, rfl, rfl⟩ := hm
      have hP9 := hP.sub (ws' := [(t1, .inr (8, [.ref ta0, .ref ta1, .ref ta2, .ref ta3, .ref ta4, .ref ta5, .ref ta6, .ref ta7, .ref ta8, .int mm])), (ta0, .inl (cyA G 0, 32768, .inl (tf0))), (ta1, .inl (cyA G 0, 32768, .inl (tf1))), (ta2, .inl (cyA G 0, 32768, .inl (tf2))), (ta3, .inl (cyA G 0, 32768, .inl (tf3))), (ta4, .inl (cyA G 0, 32768, .inl (tf4))), (ta5, .inl (cyA G 0, 32768, .inl (tf5))), (ta6, .inl (cyA G 0, 32768, .inl (tf6))), (ta7, .inl (cyA G 1, 32768, .inl (tf7)))]) [0, 1, 2, 3, 4, 5, 6, 7, 8] rfl
      have hD9 := hD.sub (ws' := [(t1, .inr (8, [.ref ta0, .ref ta1, .ref ta2, .ref ta3, .ref ta4, .ref ta5, .ref ta6, .ref ta7, .ref ta8, .int mm])), (ta0, .inl (cyA G 0, 32768, .inl (tf0))), (ta1, .inl (cyA G 0, 32768, .inl (tf1))), (ta2, .inl (cyA G 0, 32768, .inl (tf2))), (ta3, .inl (cyA G 0, 32768, .inl (tf3))), (ta4, .inl (cyA G 0, 32768, .inl (tf4))), (ta5, .inl (cyA G 0, 32768, .inl (tf5))), (ta6, .inl (cyA G 0, 32768, .inl (tf6))), (ta7, .inl (cyA G 1, 32768, .inl (tf7)))]) [0, 1, 2, 3, 4, 5, 6, 7, 8] (by decide) rfl
      refine W.widen (k := 0) (n := 0) (Nat.le_of_ble_eq_true rfl) (Nat.le_of_ble_eq_true rfl) ?_
      exact W.iret (v := (-1)) hx hb hr (fun t ht hW => ⟨⟨(-1), (), rfl, rfl, ⟨by rw [ht]; exact hP9, hD9⟩⟩, hS.F ht⟩) hS.2.2 dX9_pair_21 hlocks
    · rw [if_neg c_2] at hm
      refine lv_aload_n hx hb dX9_pair_11 rfl (lv_at hl 0 rfl) ?_
      refine va_get (D := DG G) (ci := 8) (v := .int mm) (C := RX9) (T := TX9) (N := 10) hx hb hts inW_X9 hown hK hP 0 rfl rfl 9 (by decide) (hts _ wm49) (fun _ h9 => h9) rfl dX9_pair_12 ?_
      refine lv_ldc (v := 32768) hx hb hown (hts _ wm39) dX9_pair_15 ?_
      refine lv_icmp_lt (tgt := 22) hx hb dX9_pair_17 (by decide) (fun c_3 => ?_) (fun c_3 => ?_)
      · rw [if_pos c_3] at hm
        refine lv_iload_n hx hb dX9_pair_22 rfl (lv_at hl 2 rfl) ?_
        refine lv_if_lt (tgt := 65) hx hb dX9_pair_23 (by decide) (fun c_4 => ?_) (fun c_4 => ?_)
        · rw [if_pos c_4] at hm
          refine lv_iconst (v := (-1)) hx hb dX9_pair_65 (by decide) ?_
          simp only [Option.some.injEq, Prod.mk.injEq] at hm
          obtain ⟨rfl, rfl, rfl, rfl, rfl, rfl, rfl, rfl, rfl, rfl⟩ := hm
          have hP9 := hP.sub (ws' := [(t1, .inr (8, [.ref ta0, .ref ta1, .ref ta2, .ref ta3, .ref ta4, .ref ta5, .ref ta6, .ref ta7, .ref ta8, .int mm])), (ta0, .inl (cyA G 0, 32768, .inl (tf0))), (ta1, .inl (cyA G 0, 32768, .inl (tf1))), (ta2, .inl (cyA G 0, 32768, .inl (tf2))), (ta3, .inl (cyA G 0, 32768, .inl (tf3))), (ta4, .inl (cyA G 0, 32768, .inl (tf4))), (ta5, .inl (cyA G 0, 32768, .inl (tf5))), (ta6, .inl (cyA G 0, 32768, .inl (tf6))), (ta7, .inl (cyA G 1, 32768, .inl (tf7)))]) [0, 1, 2, 3, 4, 5, 6, 7, 8] rfl
          have hD9 := hD.sub (ws' := [(t1, .inr (8, [.ref ta0, .ref ta1, .ref ta2, .ref ta3, .ref ta4, .ref ta5, .ref ta6, .ref ta7, .ref ta8, .int mm])), (ta0, .inl (cyA G 0, 32768, .inl (tf0))), (ta1, .inl (cyA G 0, 32768, .inl (tf1))), (ta2, .inl (cyA G 0, 32768, .inl (tf2))), (ta3, .inl (cyA G 0, 32768, .inl (tf3))), (ta4, .inl (cyA G 0, 32768, .inl (tf4))), (ta5, .inl (cyA G 0, 32768, .inl (tf5))), (ta6, .inl (cyA G 0, 32768, .inl (tf6))), (ta7, .inl (cyA G 1, 32768, .inl (tf7)))]) [0, 1, 2, 3, 4, 5, 6, 7, 8] (by decide) rfl
          refine W.widen (k := 0) (n := 0) (Nat.le_of_ble_eq_true rfl) (Nat.le_of_ble_eq_true rfl) ?_
          exact W.iret (v := (-1)) hx hb hr (fun t ht hW => ⟨⟨(-1), (), rfl, rfl, ⟨by rw [ht]; exact hP9, hD9⟩⟩, hS.F ht⟩) hS.2.2 dX9_pair_66 hlocks
        · rw [if_neg c_4] at hm
          refine lv_iload_n hx hb dX9_pair_26 rfl (lv_at hl 2 rfl) ?_
          refine lv_aload_n hx hb dX9_pair_27 rfl (lv_at hl 0 rfl) ?_
          refine va_get (D := DG G) (ci := 8) (v := .int mm) (C := RX9) (T := TX9) (N := 10) hx hb hts inW_X9 hown hK hP 0 rfl rfl 9 (by decide) (hts _ wm49) (fun _ h9 => h9) rfl dX9_pair_28 ?_
          refine lv_icmp_ge (tgt := 65) hx hb dX9_pair_31 (by decide) (fun c_5 => ?_) (fun c_5 => ?_)
          · rw [if_pos c_5] at hm
            refine lv_iconst (v := (-1)) hx hb dX9_pair_65 (by decide) ?_
            simp only [Option.some.injEq, Prod.mk.injEq] at hm
            obtain ⟨rfl, rfl, rfl, rfl, rfl, rfl, rfl, rfl, rfl, rfl⟩ := hm
            have hP9 := hP.sub (ws' := [(t1, .inr (8, [.ref ta0, .ref ta1, .ref ta2, .ref ta3, .ref ta4, .ref ta5, .ref ta6, .ref ta7, .ref ta8, .int mm])), (ta0, .inl (cyA G 0, 32768, .inl (tf0))), (ta1, .inl (cyA G 0, 32768, .inl (tf1))), (ta2, .inl (cyA G 0, 32768, .inl (tf2))), (ta3, .inl (cyA G 0, 32768, .inl (tf3))), (ta4, .inl (cyA G 0, 32768, .inl (tf4))), (ta5, .inl (cyA G 0, 32768, .inl (tf5))), (ta6, .inl (cyA G 0, 32768, .inl (tf6))), (ta7, .inl (cyA G 1, 32768, .inl (tf7)))]) [0, 1, 2, 3, 4, 5, 6, 7, 8] rfl
            have hD9 := hD.sub (ws' := [(t1, .inr (8, [.ref ta0, .ref ta1, .ref ta2, .ref ta3, .ref ta4, .ref ta5, .ref ta6, .ref ta7, .ref ta8, .int mm])), (ta0, .inl (cyA G 0, 32768, .inl (tf0))), (ta1, .inl (cyA G 0, 32768, .inl (tf1))), (ta2, .inl (cyA G 0, 32768, .inl (tf2))), (ta3, .inl (cyA G 0, 32768, .inl (tf3))), (ta4, .inl (cyA G 0, 32768, .inl (tf4))), (ta5, .inl (cyA G 0, 32768, .inl (tf5))), (ta6, .inl (cyA G 0, 32768, .inl (tf6))), (ta7, .inl (cyA G 1, 32768, .inl (tf7)))]) [0, 1, 2, 3, 4, 5, 6, 7, 8] (by decide) rfl
            refine W.widen (k := 0) (n := 0) (Nat.le_of_ble_eq_true rfl) (Nat.le_of_ble_eq_true rfl) ?_
            exact W.iret (v := (-1)) hx hb hr (fun t ht hW => ⟨⟨(-1), (), rfl, rfl, ⟨by rw [ht]; exact hP9, hD9⟩⟩, hS.F ht⟩) hS.2.2 dX9_pair_66 hlocks
          · rw [if_neg c_5] at hm
            refine lv_iload_n hx hb dX9_pair_34 rfl (lv_at hl 3 rfl) ?_
            refine lv_if_lt (tgt := 65) hx hb dX9_pair_35 (by decide) (fun c_6 => ?_) (fun c_6 => ?_)
            · rw [if_pos c_6] at hm
              refine lv_iconst (v := (-1)) hx hb dX9_pair_65 (by decide) ?_
              simp only [Option.some.injEq, Prod.mk.injEq] at hm
              obtain ⟨rfl, rfl, rfl, rfl, rfl, rfl, rfl, rfl, rfl, rfl⟩ := hm
              have hP9 := hP.sub (ws' := [(t1, .inr (8, [.ref ta0, .ref ta1, .ref ta2, .ref ta3, .ref ta4, .ref ta5, .ref ta6, .ref ta7, .ref ta8, .int mm])), (ta0, .inl (cyA G 0, 32768, .inl (tf0))), (ta1, .inl (cyA G 0, 32768, .inl (tf1))), (ta2, .inl (cyA G 0, 32768, .inl (tf2))), (ta3, .inl (cyA G 0, 32768, .inl (tf3))), (ta4, .inl (cyA G 0, 32768, .inl (tf4))), (ta5, .inl (cyA G 0, 32768, .inl (tf5))), (ta6, .inl (cyA G 0, 32768, .inl (tf6))), (ta7, .inl (cyA G 1, 32768, .inl (tf7)))]) [0, 1, 2, 3, 4, 5, 6, 7, 8] rfl
              have hD9 := hD.sub (ws' := [(t1, .inr (8, [.ref ta0, .ref ta1, .ref ta2, .ref ta3, .ref ta4, .ref ta5, .ref ta6, .ref ta7, .ref ta8, .int mm])), (ta0, .inl (cyA G 0, 32768, .inl (tf0))), (ta1, .inl (cyA G 0, 32768, .inl (tf1))), (ta2, .inl (cyA G 0, 32768, .inl (tf2))), (ta3, .inl (cyA G 0, 32768, .inl (tf3))), (ta4, .inl (cyA G 0, 32768, .inl (tf4))), (ta5, .inl (cyA G 0, 32768, .inl (tf5))), (ta6, .inl (cyA G 0, 32768, .inl (tf6))), (ta7, .inl (cyA G 1, 32768, .inl (tf7)))]) [0, 1, 2, 3, 4, 5, 6, 7, 8] (by decide) rfl
              refine W.widen (k := 0) (n := 0) (Nat.le_of_ble_eq_true rfl) (Nat.le_of_ble_eq_true rfl) ?_
              exact W.iret (v := (-1)) hx hb hr (fun t ht hW => ⟨⟨(-1), (), rfl, rfl, ⟨by rw [ht]; exact hP9, hD9⟩⟩, hS.F ht⟩) hS.2.2 dX9_pair_66 hlocks
            · rw [if_neg c_6] at hm
              refine lv_iload_n hx hb dX9_pair_38 rfl (lv_at hl 3 rfl) ?_
              refine lv_aload_n hx hb dX9_pair_39 rfl (lv_at hl 0 rfl) ?_
              refine va_get (D := DG G) (ci := 8) (v := .int mm) (C := RX9) (T := TX9) (N := 10) hx hb hts inW_X9 hown hK hP 0 rfl rfl 9 (by decide) (hts _ wm49) (fun _ h9 => h9) rfl dX9_pair_40 ?_
              refine lv_icmp_ge (tgt := 65) hx hb dX9_pair_43 (by decide) (fun c_7 => ?_) (fun c_7 => ?_)
              · rw [if_pos c_7] at hm
                refine lv_iconst (v := (-1)) hx hb dX9_pair_65 (by decide) ?_
                simp only [Option.some.injEq, Prod.mk.injEq] at hm
                obtain ⟨rfl, rfl, rfl, rfl, rfl, rfl, rfl, rfl, rfl, rfl⟩ := hm
                have hP9 := hP.sub (ws' := [(t1, .inr (8, [.ref ta0, .ref ta1, .ref ta2, .ref ta3, .ref ta4, .ref ta5, .ref ta6, .ref ta7, .ref ta8, .int mm])), (ta0, .inl (cyA G 0, 32768, .inl (tf0))), (ta1, .inl (cyA G 0, 32768, .inl (tf1))), (ta2, .inl (cyA G 0, 32768, .inl (tf2))), (ta3, .inl (cyA G 0, 32768, .inl (tf3))), (ta4, .inl (cyA G 0, 32768, .inl (tf4))), (ta5, .inl (cyA G 0, 32768, .inl (tf5))), (ta6, .inl (cyA G 0, 32768, .inl (tf6))), (ta7, .inl (cyA G 1, 32768, .inl (tf7)))]) [0, 1, 2, 3, 4, 5, 6, 7, 8] rfl
                have hD9 := hD.sub (ws' := [(t1, .inr (8, [.ref ta0, .ref ta1, .ref ta2, .ref ta3, .ref ta4, .ref ta5, .ref ta6, .ref ta7, .ref ta8, .int mm])), (ta0, .inl (cyA G 0, 32768, .inl (tf0))), (ta1, .inl (cyA G 0, 32768, .inl (tf1))), (ta2, .inl (cyA G 0, 32768, .inl (tf2))), (ta3, .inl (cyA G 0, 32768, .inl (tf3))), (ta4, .inl (cyA G 0, 32768, .inl (tf4))), (ta5, .inl (cyA G 0, 32768, .inl (tf5))), (ta6, .inl (cyA G 0, 32768, .inl (tf6))), (ta7, .inl (cyA G 1, 32768, .inl (tf7)))]) [0, 1, 2, 3, 4, 5, 6, 7, 8] (by decide) rfl
                refine W.widen (k := 0) (n := 0) (Nat.le_of_ble_eq_true rfl) (Nat.le_of_ble_eq_true rfl) ?_
                exact W.iret (v := (-1)) hx hb hr (fun t ht hW => ⟨⟨(-1), (), rfl, rfl, ⟨by rw [ht]; exact hP9, hD9⟩⟩, hS.F ht⟩) hS.2.2 dX9_pair_66 hlocks
              · rw [if_neg c_7] at hm
                refine lv_aload_n hx hb dX9_pair_46 rfl (lv_at hl 0 rfl) ?_
                refine va_get (D := DG G) (ci := 8) (v := .ref ta3) (C := RX9) (T := TX9) (N := 10) hx hb hts inW_X9 hown hK hP 0 rfl rfl 3 (by decide) (hts _ wm43) (fun _ h9 => h9) rfl dX9_pair_47 ?_
                refine lv_iload_n hx hb dX9_pair_50 rfl (lv_at hl 2 rfl) ?_
                obtain ⟨b_8, hm⟩ := ite_some hm
                refine va_iald hx hb hK hP 4 0 rfl rfl (inb_vp b_8) dX9_pair_51 ?_
                refine lv_aload_n hx hb dX9_pair_52 rfl (lv_at hl 0 rfl) ?_
                refine va_get (D := DG G) (ci := 8) (v := .ref ta3) (C := RX9) (T := TX9) (N := 10) hx hb hts inW_X9 hown hK hP 0 rfl rfl 3 (by decide) (hts _ wm43) (fun _ h9 => h9) rfl dX9_pair_53 ?_
                refine lv_iload_n hx hb dX9_pair_56 rfl (lv_at hl 3 rfl) ?_
                obtain ⟨b_9, hm⟩ := ite_some hm
                refine va_iald hx hb hK hP 4 0 rfl rfl (inb_vp b_9) dX9_pair_57 ?_
                refine lv_iadd hx hb dX9_pair_58 ?_
                refine lv_sipush (v := 200) hx hb dX9_pair_59 (by decide) ?_
                refine lv_icmp_lt (tgt := 67) hx hb dX9_pair_62 (by decide) (fun c_10 => ?_) (fun c_10 => ?_)
                · rw [if_pos c_10] at hm
                  refine lv_aload_n hx hb dX9_pair_67 rfl (lv_at hl 0 rfl) ?_
                  refine va_get (D := DG G) (ci := 8) (v := .int mm) (C := RX9) (T := TX9) (N := 10) hx hb hts inW_X9 hown hK hP 0 rfl rfl 9 (by decide) (hts _ wm49) (fun _ h9 => h9) rfl dX9_pair_68 ?_
                  refine lv_istore (lv' := [(4, .int mm), (0, .ref t1), (1, .int p1), (2, .int p2), (3, .int p3)]) hx hb dX9_pair_71 hl (by decide) rfl (fun ls hl => ?_)
                  refine lv_aload_n hx hb dX9_pair_73 rfl (lv_at hl 1 rfl) ?_
                  refine lv_dup hx hb dX9_pair_74 rfl ?_
                  refine va_get (D := DG G) (ci := 8) (v := .int mm) (C := RX9) (T := TX9) (N := 10) hx hb hts inW_X9 hown hK hP 0 rfl rfl 9 (by decide) (hts _ wm49) (fun _ h9 => h9) rfl dX9_pair_75 ?_
                  refine lv_iconst (v := 1) hx hb dX9_pair_78 (by decide) ?_
                  refine lv_iadd hx hb dX9_pair_79 ?_
                  refine va_put (D := DG G) (ci := 8) (v := .int (mm + 1)) (ty := tyX9 9) (C := RX9) (T := TX9) (N := 10) hx hb hts inW_X9 tyX9 tyX9_ok nmX9 hown hK hP hD hS 0 rfl rfl 9 (by decide) (hts _ wm49) (fun _ h9 => h9) rfl (by decide +kernel) rfl rfl (Nat.le_of_ble_eq_true rfl) dX9_pair_80 (fun H locs hP hD hS => ?_)
                  have hP : va_P (DG G) clP3 [(t1, .inr (8, [.ref ta0, .ref ta1, .ref ta2, .ref ta3, .ref ta4, .ref ta5, .ref ta6, .ref ta7, .ref ta8, .int (mm + 1)])), (ta0, .inl (cyA G 0, 32768, .inl (tf0))), (ta1, .inl (cyA G 0, 32768, .inl (tf1))), (ta2, .inl (cyA G 0, 32768, .inl (tf2))), (ta3, .inl (cyA G 0, 32768, .inl (tf3))), (ta4, .inl (cyA G 0, 32768, .inl (tf4))), (ta5, .inl (cyA G 0, 32768, .inl (tf5))), (ta6, .inl (cyA G 0, 32768, .inl (tf6))), (ta7, .inl (cyA G 1, 32768, .inl (tf7)))] H := hP
                  have hD : va_D A [(t1, .inr (8, [.ref ta0, .ref ta1, .ref ta2, .ref ta3, .ref ta4, .ref ta5, .ref ta6, .ref ta7, .ref ta8, .int (mm + 1)])), (ta0, .inl (cyA G 0, 32768, .inl (tf0))), (ta1, .inl (cyA G 0, 32768, .inl (tf1))), (ta2, .inl (cyA G 0, 32768, .inl (tf2))), (ta3, .inl (cyA G 0, 32768, .inl (tf3))), (ta4, .inl (cyA G 0, 32768, .inl (tf4))), (ta5, .inl (cyA G 0, 32768, .inl (tf5))), (ta6, .inl (cyA G 0, 32768, .inl (tf6))), (ta7, .inl (cyA G 1, 32768, .inl (tf7)))] := hD
                  refine lv_iload_n hx hb dX9_pair_83 rfl (lv_at hl 2 rfl) ?_
                  refine lv_iconst (v := 5) hx hb dX9_pair_84 (by decide) ?_
                  refine lv_isub hx hb dX9_pair_85 ?_
                  refine lv_istore (lv' := [(5, .int (p1 - 5)), (4, .int mm), (0, .ref t1), (1, .int p1), (2, .int p2), (3, .int p3)]) hx hb dX9_pair_86 hl (by decide) rfl (fun ls hl => ?_)
                  refine lv_aload_n hx hb dX9_pair_88 rfl (lv_at hl 2 rfl) ?_
                  refine va_get (D := DG G) (ci := 8) (v := .ref ta0) (C := RX9) (T := TX9) (N := 10) hx hb hts inW_X9 hown hK hP 0 rfl rfl 0 (by decide) (hts _ wm40) (fun _ h9 => h9) rfl dX9_pair_89 ?_
                  refine lv_iload hx hb dX9_pair_92 (lv_at hl 1 rfl) ?_
                  refine lv_iload_n hx hb dX9_pair_94 rfl (lv_at hl 3 rfl) ?_
                  obtain ⟨b_11, hm⟩ := ite_some hm
                  refine va_iast hx hb hK hP hD hS 1 0 rfl rfl (inb_vp b_11) dX9_pair_95 (fun H locs hP hD hS => ?_)
                  have hP : va_P (DG G) clP3 [(t1, .inr (8, [.ref ta0, .ref ta1, .ref ta2, .ref ta3, .ref ta4, .ref ta5, .ref ta6, .ref ta7, .ref ta8, .int (mm + 1)])), (ta0, .inl (cyA G 0, 32768, .inl (upd tf0 (Int32.toNatClampNeg mm) p1))), (ta1, .inl (cyA G 0, 32768, .inl (tf1))), (ta2, .inl (cyA G 0, 32768, .inl (tf2))), (ta3, .inl (cyA G 0, 32768, .inl (tf3))), (ta4, .inl (cyA G 0, 32768, .inl (tf4))), (ta5, .inl (cyA G 0, 32768, .inl (tf5))), (ta6, .inl (cyA G 0, 32768, .inl (tf6))), (ta7, .inl (cyA G 1, 32768, .inl (tf7)))] H := hP
                  have hD : va_D A [(t1, .inr (8, [.ref ta0, .ref ta1, .ref ta2, .ref ta3, .ref ta4, .ref ta5, .ref ta6, .ref ta7, .ref ta8, .int (mm + 1)])), (ta0, .inl (cyA G 0, 32768, .inl (upd tf0 (Int32.toNatClampNeg mm) p1))), (ta1, .inl (cyA G 0, 32768, .inl (tf1))), (ta2, .inl (cyA G 0, 32768, .inl (tf2))), (ta3, .inl (cyA G 0, 32768, .inl (tf3))), (ta4, .inl (cyA G 0, 32768, .inl (tf4))), (ta5, .inl (cyA G 0, 32768, .inl (tf5))), (ta6, .inl (cyA G 0, 32768, .inl (tf6))), (ta7, .inl (cyA G 1, 32768, .inl (tf7)))] := hD
                  refine lv_aload_n hx hb dX9_pair_96 rfl (lv_at hl 2 rfl) ?_
                  refine va_get (D := DG G) (ci := 8) (v := .ref ta1) (C := RX9) (T := TX9) (N := 10) hx hb hts inW_X9 hown hK hP 0 rfl rfl 1 (by decide) (hts _ wm41) (fun _ h9 => h9) rfl dX9_pair_97 ?_
                  refine lv_iload hx hb dX9_pair_100 (lv_at hl 1 rfl) ?_
                  refine lv_iload_n hx hb dX9_pair_102 rfl (lv_at hl 4 rfl) ?_
                  obtain ⟨b_12, hm⟩ := ite_some hm
                  refine va_iast hx hb hK hP hD hS 2 0 rfl rfl (inb_vp b_12) dX9_pair_103 (fun H locs hP hD hS => ?_)
                  have hP : va_P (DG G) clP3 [(t1, .inr (8, [.ref ta0, .ref ta1, .ref ta2, .ref ta3, .ref ta4, .ref ta5, .ref ta6, .ref ta7, .ref ta8, .int (mm + 1)])), (ta0, .inl (cyA G 0, 32768, .inl (upd tf0 (Int32.toNatClampNeg mm) p1))), (ta1, .inl (cyA G 0, 32768, .inl (upd tf1 (Int32.toNatClampNeg mm) p2))), (ta2, .inl (cyA G 0, 32768, .inl (tf2))), (ta3, .inl (cyA G 0, 32768, .inl (tf3))), (ta4, .inl (cyA G 0, 32768, .inl (tf4))), (ta5, .inl (cyA G 0, 32768, .inl (tf5))), (ta6, .inl (cyA G 0, 32768, .inl (tf6))), (ta7, .inl (cyA G 1, 32768, .inl (tf7)))] H := hP
                  have hD : va_D A [(t1, .inr (8, [.ref ta0, .ref ta1, .ref ta2, .ref ta3, .ref ta4, .ref ta5, .ref ta6, .ref ta7, .ref ta8, .int (mm + 1)])), (ta0, .inl (cyA G 0, 32768, .inl (upd tf0 (Int32.toNatClampNeg mm) p1))), (ta1, .inl (cyA G 0, 32768, .inl (upd tf1 (Int32.toNatClampNeg mm) p2))), (ta2, .inl (cyA G 0, 32768, .inl (tf2))), (ta3, .inl (cyA G 0, 32768, .inl (tf3))), (ta4, .inl (cyA G 0, 32768, .inl (tf4))), (ta5, .inl (cyA G 0, 32768, .inl (tf5))), (ta6, .inl (cyA G 0, 32768, .inl (tf6))), (ta7, .inl (cyA G 1, 32768, .inl (tf7)))] := hD
                  refine lv_aload_n hx hb dX9_pair_104 rfl (lv_at hl 2 rfl) ?_
                  refine va_get (D := DG G) (ci := 8) (v := .ref ta2) (C := RX9) (T := TX9) (N := 10) hx hb hts inW_X9 hown hK hP 0 rfl rfl 2 (by decide) (hts _ wm42) (fun _ h9 => h9) rfl dX9_pair_105 ?_
                  refine lv_iload hx hb dX9_pair_108 (lv_at hl 1 rfl) ?_
                  refine lv_iload_n hx hb dX9_pair_110 rfl (lv_at hl 5 rfl) ?_
                  obtain ⟨b_13, hm⟩ := ite_some hm
                  refine va_iast hx hb hK hP hD hS 3 0 rfl rfl (inb_vp b_13) dX9_pair_111 (fun H locs hP hD hS => ?_)
                  have hP : va_P (DG G) clP3 [(t1, .inr (8, [.ref ta0, .ref ta1, .ref ta2, .ref ta3, .ref ta4, .ref ta5, .ref ta6, .ref ta7, .ref ta8, .int (mm + 1)])), (ta0, .inl (cyA G 0, 32768, .inl (upd tf0 (Int32.toNatClampNeg mm) p1))), (ta1, .inl (cyA G 0, 32768, .inl (upd tf1 (Int32.toNatClampNeg mm) p2))), (ta2, .inl (cyA G 0, 32768, .inl (upd tf2 (Int32.toNatClampNeg mm) p3))), (ta3, .inl (cyA G 0, 32768, .inl (tf3))), (ta4, .inl (cyA G 0, 32768, .inl (tf4))), (ta5, .inl (cyA G 0, 32768, .inl (tf5))), (ta6, .inl (cyA G 0, 32768, .inl (tf6))), (ta7, .inl (cyA G 1, 32768, .inl (tf7)))] H := hP
                  have hD : va_D A [(t1, .inr (8, [.ref ta0, .ref ta1, .ref ta2, .ref ta3, .ref ta4, .ref ta5, .ref ta6, .ref ta7, .ref ta8, .int (mm + 1)])), (ta0, .inl (cyA G 0, 32768, .inl (upd tf0 (Int32.toNatClampNeg mm) p1))), (ta1, .inl (cyA G 0, 32768, .inl (upd tf1 (Int32.toNatClampNeg mm) p2))), (ta2, .inl (cyA G 0, 32768, .inl (upd tf2 (Int32.toNatClampNeg mm) p3))), (ta3, .inl (cyA G 0, 32768, .inl (tf3))), (ta4, .inl (cyA G 0, 32768, .inl (tf4))), (ta5, .inl (cyA G 0, 32768, .inl (tf5))), (ta6, .inl (cyA G 0, 32768, .inl (tf6))), (ta7, .inl (cyA G 1, 32768, .inl (tf7)))] := hD
                  refine lv_aload_n hx hb dX9_pair_112 rfl (lv_at hl 2 rfl) ?_
                  refine va_get (D := DG G) (ci := 8) (v := .ref ta3) (C := RX9) (T := TX9) (N := 10) hx hb hts inW_X9 hown hK hP 0 rfl rfl 3 (by decide) (hts _ wm43) (fun _ h9 => h9) rfl dX9_pair_113 ?_
                  refine lv_iload hx hb dX9_pair_116 (lv_at hl 1 rfl) ?_
                  refine lv_iconst (v := 1) hx hb dX9_pair_118 (by decide) ?_
                  refine lv_aload_n hx hb dX9_pair_119 rfl (lv_at hl 2 rfl) ?_
                  refine va_get (D := DG G) (ci := 8) (v := .ref ta3) (C := RX9) (T := TX9) (N := 10) hx hb hts inW_X9 hown hK hP 0 rfl rfl 3 (by decide) (hts _ wm43) (fun _ h9 => h9) rfl dX9_pair_120 ?_
                  refine lv_iload_n hx hb dX9_pair_123 rfl (lv_at hl 4 rfl) ?_
                  obtain ⟨b_14, hm⟩ := ite_some hm
                  refine va_iald hx hb hK hP 4 0 rfl rfl (inb_vp b_14) dX9_pair_124 ?_
                  refine lv_iadd hx hb dX9_pair_125 ?_
                  refine lv_aload_n hx hb dX9_pair_126 rfl (lv_at hl 2 rfl) ?_
                  refine va_get (D := DG G) (ci := 8) (v := .ref ta3) (C := RX9) (T := TX9) (N := 10) hx hb hts inW_X9 hown hK hP 0 rfl rfl 3 (by decide) (hts _ wm43) (fun _ h9 => h9) rfl dX9_pair_127 ?_
                  refine lv_iload_n hx hb dX9_pair_130 rfl (lv_at hl 5 rfl) ?_
                  obtain ⟨b_15, hm⟩ := ite_some hm
                  refine va_iald hx hb hK hP 4 0 rfl rfl (inb_vp b_15) dX9_pair_131 ?_
                  refine lv_iadd hx hb dX9_pair_132 ?_
                  obtain ⟨b_16, hm⟩ := ite_some hm
                  refine va_iast hx hb hK hP hD hS 4 0 rfl rfl (inb_vp b_16) dX9_pair_133 (fun H locs hP hD hS => ?_)
                  have hP : va_P (DG G) clP3 [(t1, .inr (8, [.ref ta0, .ref ta1, .ref ta2, .ref ta3, .ref ta4, .ref ta5, .ref ta6, .ref ta7, .ref ta8, .int (mm + 1)])), (ta0, .inl (cyA G 0, 32768, .inl (upd tf0 (Int32.toNatClampNeg mm) p1))), (ta1, .inl (cyA G 0, 32768, .inl (upd tf1 (Int32.toNatClampNeg mm) p2))), (ta2, .inl (cyA G 0, 32768, .inl (upd tf2 (Int32.toNatClampNeg mm) p3))), (ta3, .inl (cyA G 0, 32768, .inl (upd tf3 (Int32.toNatClampNeg mm) ((1 + (tf3 (Int32.toNatClampNeg p2))) + (tf3 (Int32.toNatClampNeg p3)))))), (ta4, .inl (cyA G 0, 32768, .inl (tf4))), (ta5, .inl (cyA G 0, 32768, .inl (tf5))), (ta6, .inl (cyA G 0, 32768, .inl (tf6))), (ta7, .inl (cyA G 1, 32768, .inl (tf7)))] H := hP
                  have hD : va_D A [(t1, .inr (8, [.ref ta0, .ref ta1, .ref ta2, .ref ta3, .ref ta4, .ref ta5, .ref ta6, .ref ta7, .ref ta8, .int (mm + 1)])), (ta0, .inl (cyA G 0, 32768, .inl (upd tf0 (Int32.toNatClampNeg mm) p1))), (ta1, .inl (cyA G 0, 32768, .inl (upd tf1 (Int32.toNatClampNeg mm) p2))), (ta2, .inl (cyA G 0, 32768, .inl (upd tf2 (Int32.toNatClampNeg mm) p3))), (ta3, .inl (cyA G 0, 32768, .inl (upd tf3 (Int32.toNatClampNeg mm) ((1 + (tf3 (Int32.toNatClampNeg p2))) + (tf3 (Int32.toNatClampNeg p3)))))), (ta4, .inl (cyA G 0, 32768, .inl (tf4))), (ta5, .inl (cyA G 0, 32768, .inl (tf5))), (ta6, .inl (cyA G 0, 32768, .inl (tf6))), (ta7, .inl (cyA G 1, 32768, .inl (tf7)))] := hD
                  refine lv_aload_n hx hb dX9_pair_134 rfl (lv_at hl 2 rfl) ?_
                  refine va_get (D := DG G) (ci := 8) (v := .ref ta4) (C := RX9) (T := TX9) (N := 10) hx hb hts inW_X9 hown hK hP 0 rfl rfl 4 (by decide) (hts _ wm44) (fun _ h9 => h9) rfl dX9_pair_135 ?_
                  refine lv_iload hx hb dX9_pair_138 (lv_at hl 1 rfl) ?_
                  obtain ⟨nl1, hZ1, hT1⟩ := EV.s1 hE
                  refine va_getsN (v := .ref nl1) hx hb hZ1 hS hown (va_Nw.use rfl (hE.1 _ nw467)) (fun _ h9 => h9) dX9_pair_140 ?_
                  refine lv_iload hx hb dX9_pair_143 (lv_at hl 0 rfl) ?_
                  obtain ⟨b_17, hm⟩ := ite_some hm
                  refine va_ti (v := .int (sa_1 (Int32.toNatClampNeg (p1 - 5)))) hx hb hT1 hS (inb_vp b_17) rfl dX9_pair_145 ?_
                  refine lv_aload_n hx hb dX9_pair_146 rfl (lv_at hl 2 rfl) ?_
                  refine va_get (D := DG G) (ci := 8) (v := .ref ta4) (C := RX9) (T := TX9) (N := 10) hx hb hts inW_X9 hown hK hP 0 rfl rfl 4 (by decide) (hts _ wm44) (fun _ h9 => h9) rfl dX9_pair_147 ?_
                  refine lv_iload_n hx hb dX9_pair_150 rfl (lv_at hl 4 rfl) ?_
                  obtain ⟨b_18, hm⟩ := ite_some hm
                  refine va_iald hx hb hK hP 5 0 rfl rfl (inb_vp b_18) dX9_pair_151 ?_
                  refine lv_imul hx hb dX9_pair_152 ?_
                  obtain ⟨nl2, hZ2, hT2⟩ := EV.s2 hE
                  refine va_getsN (v := .ref nl2) hx hb hZ2 hS hown (va_Nw.use rfl (hE.1 _ nw469)) (fun _ h9 => h9) dX9_pair_153 ?_
                  refine lv_iload hx hb dX9_pair_156 (lv_at hl 0 rfl) ?_
                  obtain ⟨b_19, hm⟩ := ite_some hm
                  refine va_ti (v := .int (sa_2 (Int32.toNatClampNeg (p1 - 5)))) hx hb hT2 hS (inb_vp b_19) rfl dX9_pair_158 ?_
                  refine lv_aload_n hx hb dX9_pair_159 rfl (lv_at hl 2 rfl) ?_
                  refine va_get (D := DG G) (ci := 8) (v := .ref ta4) (C := RX9) (T := TX9) (N := 10) hx hb hts inW_X9 hown hK hP 0 rfl rfl 4 (by decide) (hts _ wm44) (fun _ h9 => h9) rfl dX9_pair_160 ?_
                  refine lv_iload_n hx hb dX9_pair_163 rfl (lv_at hl 5 rfl) ?_
                  obtain ⟨b_20, hm⟩ := ite_some hm
                  refine va_iald hx hb hK hP 5 0 rfl rfl (inb_vp b_20) dX9_pair_164 ?_
                  refine lv_imul hx hb dX9_pair_165 ?_
                  refine lv_iadd hx hb dX9_pair_166 ?_
                  obtain ⟨nl3, hZ3, hT3⟩ := EV.s3 hE
                  refine va_getsN (v := .ref nl3) hx hb hZ3 hS hown (va_Nw.use rfl (hE.1 _ nw471)) (fun _ h9 => h9) dX9_pair_167 ?_
                  refine lv_iload hx hb dX9_pair_170 (lv_at hl 0 rfl) ?_
                  obtain ⟨b_21, hm⟩ := ite_some hm
                  refine va_ti (v := .int (sa_3 (Int32.toNatClampNeg (p1 - 5)))) hx hb hT3 hS (inb_vp b_21) rfl dX9_pair_172 ?_
                  refine lv_iadd hx hb dX9_pair_173 ?_
                  refine lv_ldc (v := 1000003) hx hb hown (hts _ wm473) dX9_pair_174 ?_
                  refine lv_irem hx hb dX9_pair_176 (by decide) ?_
                  obtain ⟨b_22, hm⟩ := ite_some hm
                  refine va_iast hx hb hK hP hD hS 5 0 rfl rfl (inb_vp b_22) dX9_pair_177 (fun H locs hP hD hS => ?_)
                  have hP : va_P (DG G) clP3 [(t1, .inr (8, [.ref ta0, .ref ta1, .ref ta2, .ref ta3, .ref ta4, .ref ta5, .ref ta6, .ref ta7, .ref ta8, .int (mm + 1)])), (ta0, .inl (cyA G 0, 32768, .inl (upd tf0 (Int32.toNatClampNeg mm) p1))), (ta1, .inl (cyA G 0, 32768, .inl (upd tf1 (Int32.toNatClampNeg mm) p2))), (ta2, .inl (cyA G 0, 32768, .inl (upd tf2 (Int32.toNatClampNeg mm) p3))), (ta3, .inl (cyA G 0, 32768, .inl (upd tf3 (Int32.toNatClampNeg mm) ((1 + (tf3 (Int32.toNatClampNeg p2))) + (tf3 (Int32.toNatClampNeg p3)))))), (ta4, .inl (cyA G 0, 32768, .inl (upd tf4 (Int32.toNatClampNeg mm) (((((sa_1 (Int32.toNatClampNeg (p1 - 5))) * (tf4 (Int32.toNatClampNeg p2))) + ((sa_2 (Int32.toNatClampNeg (p1 - 5))) * (tf4 (Int32.toNatClampNeg p3)))) + (sa_3 (Int32.toNatClampNeg (p1 - 5)))) - ((((sa_1 (Int32.toNatClampNeg (p1 - 5))) * (tf4 (Int32.toNatClampNeg p2))) + ((sa_2 (Int32.toNatClampNeg (p1 - 5))) * (tf4 (Int32.toNatClampNeg p3)))) + (sa_3 (Int32.toNatClampNeg (p1 - 5)))) / 1000003 * 1000003)))), (ta5, .inl (cyA G 0, 32768, .inl (tf5))), (ta6, .inl (cyA G 0, 32768, .inl (tf6))), (ta7, .inl (cyA G 1, 32768, .inl (tf7)))] H := hP
                  have hD : va_D A [(t1, .inr (8, [.ref ta0, .ref ta1, .ref ta2, .ref ta3, .ref ta4, .ref ta5, .ref ta6, .ref ta7, .ref ta8, .int (mm + 1)])), (ta0, .inl (cyA G 0, 32768, .inl (upd tf0 (Int32.toNatClampNeg mm) p1))), (ta1, .inl (cyA G 0, 32768, .inl (upd tf1 (Int32.toNatClampNeg mm) p2))), (ta2, .inl (cyA G 0, 32768, .inl (upd tf2 (Int32.toNatClampNeg mm) p3))), (ta3, .inl (cyA G 0, 32768, .inl (upd tf3 (Int32.toNatClampNeg mm) ((1 + (tf3 (Int32.toNatClampNeg p2))) + (tf3 (Int32.toNatClampNeg p3)))))), (ta4, .inl (cyA G 0, 32768, .inl (upd tf4 (Int32.toNatClampNeg mm) (((((sa_1 (Int32.toNatClampNeg (p1 - 5))) * (tf4 (Int32.toNatClampNeg p2))) + ((sa_2 (Int32.toNatClampNeg (p1 - 5))) * (tf4 (Int32.toNatClampNeg p3)))) + (sa_3 (Int32.toNatClampNeg (p1 - 5)))) - ((((sa_1 (Int32.toNatClampNeg (p1 - 5))) * (tf4 (Int32.toNatClampNeg p2))) + ((sa_2 (Int32.toNatClampNeg (p1 - 5))) * (tf4 (Int32.toNatClampNeg p3)))) + (sa_3 (Int32.toNatClampNeg (p1 - 5)))) / 1000003 * 1000003)))), (ta5, .inl (cyA G 0, 32768, .inl (tf5))), (ta6, .inl (cyA G 0, 32768, .inl (tf6))), (ta7, .inl (cyA G 1, 32768, .inl (tf7)))] := hD
                  refine lv_aload_n hx hb dX9_pair_178 rfl (lv_at hl 2 rfl) ?_
                  refine va_get (D := DG G) (ci := 8) (v := .ref ta5) (C := RX9) (T := TX9) (N := 10) hx hb hts inW_X9 hown hK hP 0 rfl rfl 5 (by decide) (hts _ wm45) (fun _ h9 => h9) rfl dX9_pair_179 ?_
                  refine lv_iload hx hb dX9_pair_182 (lv_at hl 1 rfl) ?_
                  refine lv_aload_n hx hb dX9_pair_184 rfl (lv_at hl 2 rfl) ?_
                  refine va_get (D := DG G) (ci := 8) (v := .ref ta5) (C := RX9) (T := TX9) (N := 10) hx hb hts inW_X9 hown hK hP 0 rfl rfl 5 (by decide) (hts _ wm45) (fun _ h9 => h9) rfl dX9_pair_185 ?_
                  refine lv_iload_n hx hb dX9_pair_188 rfl (lv_at hl 4 rfl) ?_
                  obtain ⟨b_23, hm⟩ := ite_some hm
                  refine va_iald hx hb hK hP 6 0 rfl rfl (inb_vp b_23) dX9_pair_189 ?_
                  refine lv_iload_n hx hb dX9_pair_190 rfl (lv_at hl 3 rfl) ?_
                  refine lv_bipush (v := 7) hx hb dX9_pair_191 (by decide) ?_
                  refine lv_icmp_ne (tgt := 205) hx hb dX9_pair_193 (by decide) (fun c_24 => ?_) (fun c_24 => ?_)
                  · rw [if_neg c_24] at hm
                    refine lv_aload_n hx hb dX9_pair_205 rfl (lv_at hl 2 rfl) ?_
                    refine va_get (D := DG G) (ci := 8) (v := .ref ta5) (C := RX9) (T := TX9) (N := 10) hx hb hts inW_X9 hown hK hP 0 rfl rfl 5 (by decide) (hts _ wm45) (fun _ h9 => h9) rfl dX9_pair_206 ?_
                    refine lv_iload_n hx hb dX9_pair_209 rfl (lv_at hl 5 rfl) ?_
                    obtain ⟨b_25, hm⟩ := ite_some hm
                    refine va_iald hx hb hK hP 6 0 rfl rfl (inb_vp b_25) dX9_pair_210 ?_
                    refine lv_iconst (v := 1) hx hb dX9_pair_211 (by decide) ?_
                    refine lv_isub hx hb dX9_pair_212 ?_
                    refine va_mmax hx hb (hml.trans hl.1.symm) hown (hts _ wm474) (hts _ wm182) (hts _ wm8) (hts _ wm183) (Nat.le_of_ble_eq_true rfl) (Nat.le_of_ble_eq_true rfl) (Nat.le_of_ble_eq_true rfl) (Nat.le_of_ble_eq_true rfl) dX9_pair_213 ?_
                    obtain ⟨b_26, hm⟩ := ite_some hm
                    refine va_iast hx hb hK hP hD hS 6 0 rfl rfl (inb_vp b_26) dX9_pair_216 (fun H locs hP hD hS => ?_)
                    have hP : va_P (DG G) clP3 [(t1, .inr (8, [.ref ta0, .ref ta1, .ref ta2, .ref ta3, .ref ta4, .ref ta5, .ref ta6, .ref ta7, .ref ta8, .int (mm + 1)])), (ta0, .inl (cyA G 0, 32768, .inl (upd tf0 (Int32.toNatClampNeg mm) p1))), (ta1, .inl (cyA G 0, 32768, .inl (upd tf1 (Int32.toNatClampNeg mm) p2))), (ta2, .inl (cyA G 0, 32768, .inl (upd tf2 (Int32.toNatClampNeg mm) p3))), (ta3, .inl (cyA G 0, 32768, .inl (upd tf3 (Int32.toNatClampNeg mm) ((1 + (tf3 (Int32.toNatClampNeg p2))) + (tf3 (Int32.toNatClampNeg p3)))))), (ta4, .inl (cyA G 0, 32768, .inl (upd tf4 (Int32.toNatClampNeg mm) (((((sa_1 (Int32.toNatClampNeg (p1 - 5))) * (tf4 (Int32.toNatClampNeg p2))) + ((sa_2 (Int32.toNatClampNeg (p1 - 5))) * (tf4 (Int32.toNatClampNeg p3)))) + (sa_3 (Int32.toNatClampNeg (p1 - 5)))) - ((((sa_1 (Int32.toNatClampNeg (p1 - 5))) * (tf4 (Int32.toNatClampNeg p2))) + ((sa_2 (Int32.toNatClampNeg (p1 - 5))) * (tf4 (Int32.toNatClampNeg p3)))) + (sa_3 (Int32.toNatClampNeg (p1 - 5)))) / 1000003 * 1000003)))), (ta5, .inl (cyA G 0, 32768, .inl (upd tf5 (Int32.toNatClampNeg mm) (if (tf5 (Int32.toNatClampNeg p2)) < ((tf5 (Int32.toNatClampNeg p3)) - 1) then ((tf5 (Int32.toNatClampNeg p3)) - 1) else (tf5 (Int32.toNatClampNeg p2)))))), (ta6, .inl (cyA G 0, 32768, .inl (tf6))), (ta7, .inl (cyA G 1, 32768, .inl (tf7)))] H := hP
                    have hD : va_D A [(t1, .inr (8, [.ref ta0, .ref ta1, .ref ta2, .ref ta3, .ref ta4, .ref ta5, .ref ta6, .ref ta7, .ref ta8, .int (mm + 1)])), (ta0, .inl (cyA G 0, 32768, .inl (upd tf0 (Int32.toNatClampNeg mm) p1))), (ta1, .inl (cyA G 0, 32768, .inl (upd tf1 (Int32.toNatClampNeg mm) p2))), (ta2, .inl (cyA G 0, 32768, .inl (upd tf2 (Int32.toNatClampNeg mm) p3))), (ta3, .inl (cyA G 0, 32768, .inl (upd tf3 (Int32.toNatClampNeg mm) ((1 + (tf3 (Int32.toNatClampNeg p2))) + (tf3 (Int32.toNatClampNeg p3)))))), (ta4, .inl (cyA G 0, 32768, .inl (upd tf4 (Int32.toNatClampNeg mm) (((((sa_1 (Int32.toNatClampNeg (p1 - 5))) * (tf4 (Int32.toNatClampNeg p2))) + ((sa_2 (Int32.toNatClampNeg (p1 - 5))) * (tf4 (Int32.toNatClampNeg p3)))) + (sa_3 (Int32.toNatClampNeg (p1 - 5)))) - ((((sa_1 (Int32.toNatClampNeg (p1 - 5))) * (tf4 (Int32.toNatClampNeg p2))) + ((sa_2 (Int32.toNatClampNeg (p1 - 5))) * (tf4 (Int32.toNatClampNeg p3)))) + (sa_3 (Int32.toNatClampNeg (p1 - 5)))) / 1000003 * 1000003)))), (ta5, .inl (cyA G 0, 32768, .inl (upd tf5 (Int32.toNatClampNeg mm) (if (tf5 (Int32.toNatClampNeg p2)) < ((tf5 (Int32.toNatClampNeg p3)) - 1) then ((tf5 (Int32.toNatClampNeg p3)) - 1) else (tf5 (Int32.toNatClampNeg p2)))))), (ta6, .inl (cyA G 0, 32768, .inl (tf6))), (ta7, .inl (cyA G 1, 32768, .inl (tf7)))] := hD
                    refine lv_aload_n hx hb dX9_pair_217 rfl (lv_at hl 2 rfl) ?_
                    refine va_get (D := DG G) (ci := 8) (v := .ref ta6) (C := RX9) (T := TX9) (N := 10) hx hb hts inW_X9 hown hK hP 0 rfl rfl 6 (by decide) (hts _ wm46) (fun _ h9 => h9) rfl dX9_pair_218 ?_
                    refine lv_iload hx hb dX9_pair_221 (lv_at hl 1 rfl) ?_
                    refine lv_aload_n hx hb dX9_pair_223 rfl (lv_at hl 2 rfl) ?_
                    refine va_get (D := DG G) (ci := 8) (v := .ref ta6) (C := RX9) (T := TX9) (N := 10) hx hb hts inW_X9 hown hK hP 0 rfl rfl 6 (by decide) (hts _ wm46) (fun _ h9 => h9) rfl dX9_pair_224 ?_
                    refine lv_iload_n hx hb dX9_pair_227 rfl (lv_at hl 4 rfl) ?_
                    obtain ⟨b_27, hm⟩ := ite_some hm
                    refine va_iald hx hb hK hP 7 0 rfl rfl (inb_vp b_27) dX9_pair_228 ?_
                    refine lv_aload_n hx hb dX9_pair_229 rfl (lv_at hl 2 rfl) ?_
                    refine va_get (D := DG G) (ci := 8) (v := .ref ta6) (C := RX9) (T := TX9) (N := 10) hx hb hts inW_X9 hown hK hP 0 rfl rfl 6 (by decide) (hts _ wm46) (fun _ h9 => h9) rfl dX9_pair_230 ?_
                    refine lv_iload_n hx hb dX9_pair_233 rfl (lv_at hl 5 rfl) ?_
                    obtain ⟨b_28, hm⟩ := ite_some hm
                    refine va_iald hx hb hK hP 7 0 rfl rfl (inb_vp b_28) dX9_pair_234 ?_
                    refine lv_ior hx hb dX9_pair_235 ?_
                    obtain ⟨b_29, hm⟩ := ite_some hm
                    refine va_iast hx hb hK hP hD hS 7 0 rfl rfl (inb_vp b_29) dX9_pair_236 (fun H locs hP hD hS => ?_)
                    have hP : va_P (DG G) clP3 [(t1, .inr (8, [.ref ta0, .ref ta1, .ref ta2, .ref ta3, .ref ta4, .ref ta5, .ref ta6, .ref ta7, .ref ta8, .int (mm + 1)])), (ta0, .inl (cyA G 0, 32768, .inl (upd tf0 (Int32.toNatClampNeg mm) p1))), (ta1, .inl (cyA G 0, 32768, .inl (upd tf1 (Int32.toNatClampNeg mm) p2))), (ta2, .inl (cyA G 0, 32768, .inl (upd tf2 (Int32.toNatClampNeg mm) p3))), (ta3, .inl (cyA G 0, 32768, .inl (upd tf3 (Int32.toNatClampNeg mm) ((1 + (tf3 (Int32.toNatClampNeg p2))) + (tf3 (Int32.toNatClampNeg p3)))))), (ta4, .inl (cyA G 0, 32768, .inl (upd tf4 (Int32.toNatClampNeg mm) (((((sa_1 (Int32.toNatClampNeg (p1 - 5))) * (tf4 (Int32.toNatClampNeg p2))) + ((sa_2 (Int32.toNatClampNeg (p1 - 5))) * (tf4 (Int32.toNatClampNeg p3)))) + (sa_3 (Int32.toNatClampNeg (p1 - 5)))) - ((((sa_1 (Int32.toNatClampNeg (p1 - 5))) * (tf4 (Int32.toNatClampNeg p2))) + ((sa_2 (Int32.toNatClampNeg (p1 - 5))) * (tf4 (Int32.toNatClampNeg p3)))) + (sa_3 (Int32.toNatClampNeg (p1 - 5)))) / 1000003 * 1000003)))), (ta5, .inl (cyA G 0, 32768, .inl (upd tf5 (Int32.toNatClampNeg mm) (if (tf5 (Int32.toNatClampNeg p2)) < ((tf5 (Int32.toNatClampNeg p3)) - 1) then ((tf5 (Int32.toNatClampNeg p3)) - 1) else (tf5 (Int32.toNatClampNeg p2)))))), (ta6, .inl (cyA G 0, 32768, .inl (upd tf6 (Int32.toNatClampNeg mm) ((tf6 (Int32.toNatClampNeg p2)) ||| (tf6 (Int32.toNatClampNeg p3)))))), (ta7, .inl (cyA G 1, 32768, .inl (tf7)))] H := hP
                    have hD : va_D A [(t1, .inr (8, [.ref ta0, .ref ta1, .ref ta2, .ref ta3, .ref ta4, .ref ta5, .ref ta6, .ref ta7, .ref ta8, .int (mm + 1)])), (ta0, .inl (cyA G 0, 32768, .inl (upd tf0 (Int32.toNatClampNeg mm) p1))), (ta1, .inl (cyA G 0, 32768, .inl (upd tf1 (Int32.toNatClampNeg mm) p2))), (ta2, .inl (cyA G 0, 32768, .inl (upd tf2 (Int32.toNatClampNeg mm) p3))), (ta3, .inl (cyA G 0, 32768, .inl (upd tf3 (Int32.toNatClampNeg mm) ((1 + (tf3 (Int32.toNatClampNeg p2))) + (tf3 (Int32.toNatClampNeg p3)))))), (ta4, .inl (cyA G 0, 32768, .inl (upd tf4 (Int32.toNatClampNeg mm) (((((sa_1 (Int32.toNatClampNeg (p1 - 5))) * (tf4 (Int32.toNatClampNeg p2))) + ((sa_2 (Int32.toNatClampNeg (p1 - 5))) * (tf4 (Int32.toNatClampNeg p3)))) + (sa_3 (Int32.toNatClampNeg (p1 - 5)))) - ((((sa_1 (Int32.toNatClampNeg (p1 - 5))) * (tf4 (Int32.toNatClampNeg p2))) + ((sa_2 (Int32.toNatClampNeg (p1 - 5))) * (tf4 (Int32.toNatClampNeg p3)))) + (sa_3 (Int32.toNatClampNeg (p1 - 5)))) / 1000003 * 1000003)))), (ta5, .inl (cyA G 0, 32768, .inl (upd tf5 (Int32.toNatClampNeg mm) (if (tf5 (Int32.toNatClampNeg p2)) < ((tf5 (Int32.toNatClampNeg p3)) - 1) then ((tf5 (Int32.toNatClampNeg p3)) - 1) else (tf5 (Int32.toNatClampNeg p2)))))), (ta6, .inl (cyA G 0, 32768, .inl (upd tf6 (Int32.toNatClampNeg mm) ((tf6 (Int32.toNatClampNeg p2)) ||| (tf6 (Int32.toNatClampNeg p3)))))), (ta7, .inl (cyA G 1, 32768, .inl (tf7)))] := hD
                    refine lv_aload_n hx hb dX9_pair_237 rfl (lv_at hl 2 rfl) ?_
                    refine va_get (D := DG G) (ci := 8) (v := .ref ta7) (C := RX9) (T := TX9) (N := 10) hx hb hts inW_X9 hown hK hP 0 rfl rfl 7 (by decide) (hts _ wm47) (fun _ h9 => h9) rfl dX9_pair_238 ?_
                    refine lv_iload hx hb dX9_pair_241 (lv_at hl 1 rfl) ?_
                    refine lv_aload_n hx hb dX9_pair_243 rfl (lv_at hl 2 rfl) ?_
                    refine va_get (D := DG G) (ci := 8) (v := .ref ta7) (C := RX9) (T := TX9) (N := 10) hx hb hts inW_X9 hown hK hP 0 rfl rfl 7 (by decide) (hts _ wm47) (fun _ h9 => h9) rfl dX9_pair_244 ?_
                    refine lv_iload_n hx hb dX9_pair_247 rfl (lv_at hl 4 rfl) ?_
                    obtain ⟨b_30, hm⟩ := ite_some hm
                    refine va_zald hx hb hK hP 8 1 rfl rfl (inb_vp b_30) dX9_pair_248 ?_
                    refine lv_if_ne (tgt := 278) hx hb dX9_pair_249 (by decide) (fun c_31 => ?_) (fun c_31 => ?_)
                    · rw [if_neg c_31] at hm
                      refine lv_iconst (v := 1) hx hb dX9_pair_278 (by decide) ?_
                      refine lv_goto (tgt := 283) hx hb dX9_pair_279 (by decide) ?_
                      obtain ⟨b_32, hm⟩ := ite_some hm
                      refine va_zast hx hb hK hP hD hS 8 1 rfl rfl (inb_vp b_32) dX9_pair_283 (fun H locs hP hD hS => ?_)
                      have hP : va_P (DG G) clP3 [(t1, .inr (8, [.ref ta0, .ref ta1, .ref ta2, .ref ta3, .ref ta4, .ref ta5, .ref ta6, .ref ta7, .ref ta8, .int (mm + 1)])), (ta0, .inl (cyA G 0, 32768, .inl (upd tf0 (Int32.toNatClampNeg mm) p1))), (ta1, .inl (cyA G 0, 32768, .inl (upd tf1 (Int32.toNatClampNeg mm) p2))), (ta2, .inl (cyA G 0, 32768, .inl (upd tf2 (Int32.toNatClampNeg mm) p3))), (ta3, .inl (cyA G 0, 32768, .inl (upd tf3 (Int32.toNatClampNeg mm) ((1 + (tf3 (Int32.toNatClampNeg p2))) + (tf3 (Int32.toNatClampNeg p3)))))), (ta4, .inl (cyA G 0, 32768, .inl (upd tf4 (Int32.toNatClampNeg mm) (((((sa_1 (Int32.toNatClampNeg (p1 - 5))) * (tf4 (Int32.toNatClampNeg p2))) + ((sa_2 (Int32.toNatClampNeg (p1 - 5))) * (tf4 (Int32.toNatClampNeg p3)))) + (sa_3 (Int32.toNatClampNeg (p1 - 5)))) - ((((sa_1 (Int32.toNatClampNeg (p1 - 5))) * (tf4 (Int32.toNatClampNeg p2))) + ((sa_2 (Int32.toNatClampNeg (p1 - 5))) * (tf4 (Int32.toNatClampNeg p3)))) + (sa_3 (Int32.toNatClampNeg (p1 - 5)))) / 1000003 * 1000003)))), (ta5, .inl (cyA G 0, 32768, .inl (upd tf5 (Int32.toNatClampNeg mm) (if (tf5 (Int32.toNatClampNeg p2)) < ((tf5 (Int32.toNatClampNeg p3)) - 1) then ((tf5 (Int32.toNatClampNeg p3)) - 1) else (tf5 (Int32.toNatClampNeg p2)))))), (ta6, .inl (cyA G 0, 32768, .inl (upd tf6 (Int32.toNatClampNeg mm) ((tf6 (Int32.toNatClampNeg p2)) ||| (tf6 (Int32.toNatClampNeg p3)))))), (ta7, .inl (cyA G 1, 32768, .inl (upd tf7 (Int32.toNatClampNeg mm) (vp_nar .boolean 1))))] H := hP
                      have hD : va_D A [(t1, .inr (8, [.ref ta0, .ref ta1, .ref ta2, .ref ta3, .ref ta4, .ref ta5, .ref ta6, .ref ta7, .ref ta8, .int (mm + 1)])), (ta0, .inl (cyA G 0, 32768, .inl (upd tf0 (Int32.toNatClampNeg mm) p1))), (ta1, .inl (cyA G 0, 32768, .inl (upd tf1 (Int32.toNatClampNeg mm) p2))), (ta2, .inl (cyA G 0, 32768, .inl (upd tf2 (Int32.toNatClampNeg mm) p3))), (ta3, .inl (cyA G 0, 32768, .inl (upd tf3 (Int32.toNatClampNeg mm) ((1 + (tf3 (Int32.toNatClampNeg p2))) + (tf3 (Int32.toNatClampNeg p3)))))), (ta4, .inl (cyA G 0, 32768, .inl (upd tf4 (Int32.toNatClampNeg mm) (((((sa_1 (Int32.toNatClampNeg (p1 - 5))) * (tf4 (Int32.toNatClampNeg p2))) + ((sa_2 (Int32.toNatClampNeg (p1 - 5))) * (tf4 (Int32.toNatClampNeg p3)))) + (sa_3 (Int32.toNatClampNeg (p1 - 5)))) - ((((sa_1 (Int32.toNatClampNeg (p1 - 5))) * (tf4 (Int32.toNatClampNeg p2))) + ((sa_2 (Int32.toNatClampNeg (p1 - 5))) * (tf4 (Int32.toNatClampNeg p3)))) + (sa_3 (Int32.toNatClampNeg (p1 - 5)))) / 1000003 * 1000003)))), (ta5, .inl (cyA G 0, 32768, .inl (upd tf5 (Int32.toNatClampNeg mm) (if (tf5 (Int32.toNatClampNeg p2)) < ((tf5 (Int32.toNatClampNeg p3)) - 1) then ((tf5 (Int32.toNatClampNeg p3)) - 1) else (tf5 (Int32.toNatClampNeg p2)))))), (ta6, .inl (cyA G 0, 32768, .inl (upd tf6 (Int32.toNatClampNeg mm) ((tf6 (Int32.toNatClampNeg p2)) ||| (tf6 (Int32.toNatClampNeg p3)))))), (ta7, .inl (cyA G 1, 32768, .inl (upd tf7 (Int32.toNatClampNeg mm) (vp_nar .boolean 1))))] := hD
                      refine lv_iload hx hb dX9_pair_284 (lv_at hl 1 rfl) ?_
                      simp only [Option.some.injEq, Prod.mk.injEq] at hm
                      obtain ⟨rfl, rfl, rfl, rfl, rfl, rfl, rfl, rfl, rfl, rfl⟩ := hm
                      have hP9 := hP.sub (ws' := [(t1, .inr (8, [.ref ta0, .ref ta1, .ref ta2, .ref ta3, .ref ta4, .ref ta5, .ref ta6, .ref ta7, .ref ta8, .int (mm + 1)])), (ta0, .inl (cyA G 0, 32768, .inl (upd tf0 (Int32.toNatClampNeg mm) p1))), (ta1, .inl (cyA G 0, 32768, .inl (upd tf1 (Int32.toNatClampNeg mm) p2))), (ta2, .inl (cyA G 0, 32768, .inl (upd tf2 (Int32.toNatClampNeg mm) p3))), (ta3, .inl (cyA G 0, 32768, .inl (upd tf3 (Int32.toNatClampNeg mm) ((1 + (tf3 (Int32.toNatClampNeg p2))) + (tf3 (Int32.toNatClampNeg p3)))))), (ta4, .inl (cyA G 0, 32768, .inl (upd tf4 (Int32.toNatClampNeg mm) (((((sa_1 (Int32.toNatClampNeg (p1 - 5))) * (tf4 (Int32.toNatClampNeg p2))) + ((sa_2 (Int32.toNatClampNeg (p1 - 5))) * (tf4 (Int32.toNatClampNeg p3)))) + (sa_3 (Int32.toNatClampNeg (p1 - 5)))) - ((((sa_1 (Int32.toNatClampNeg (p1 - 5))) * (tf4 (Int32.toNatClampNeg p2))) + ((sa_2 (Int32.toNatClampNeg (p1 - 5))) * (tf4 (Int32.toNatClampNeg p3)))) + (sa_3 (Int32.toNatClampNeg (p1 - 5)))) / 1000003 * 1000003)))), (ta5, .inl (cyA G 0, 32768, .inl (upd tf5 (Int32.toNatClampNeg mm) (if (tf5 (Int32.toNatClampNeg p2)) < ((tf5 (Int32.toNatClampNeg p3)) - 1) then ((tf5 (Int32.toNatClampNeg p3)) - 1) else (tf5 (Int32.toNatClampNeg p2)))))), (ta6, .inl (cyA G 0, 32768, .inl (upd tf6 (Int32.toNatClampNeg mm) ((tf6 (Int32.toNatClampNeg p2)) ||| (tf6 (Int32.toNatClampNeg p3)))))), (ta7, .inl (cyA G 1, 32768, .inl (upd tf7 (Int32.toNatClampNeg mm) (vp_nar .boolean 1))))]) [0, 1, 2, 3, 4, 5, 6, 7, 8] rfl
                      have hD9 := hD.sub (ws' := [(t1, .inr (8, [.ref ta0, .ref ta1, .ref ta2, .ref ta3, .ref ta4, .ref ta5, .ref ta6, .ref ta7, .ref ta8, .int (mm + 1)])), (ta0, .inl (cyA G 0, 32768, .inl (upd tf0 (Int32.toNatClampNeg mm) p1))), (ta1, .inl (cyA G 0, 32768, .inl (upd tf1 (Int32.toNatClampNeg mm) p2))), (ta2, .inl (cyA G 0, 32768, .inl (upd tf2 (Int32.toNatClampNeg mm) p3))), (ta3, .inl (cyA G 0, 32768, .inl (upd tf3 (Int32.toNatClampNeg mm) ((1 + (tf3 (Int32.toNatClampNeg p2))) + (tf3 (Int32.toNatClampNeg p3)))))), (ta4, .inl (cyA G 0, 32768, .inl (upd tf4 (Int32.toNatClampNeg mm) (((((sa_1 (Int32.toNatClampNeg (p1 - 5))) * (tf4 (Int32.toNatClampNeg p2))) + ((sa_2 (Int32.toNatClampNeg (p1 - 5))) * (tf4 (Int32.toNatClampNeg p3)))) + (sa_3 (Int32.toNatClampNeg (p1 - 5)))) - ((((sa_1 (Int32.toNatClampNeg (p1 - 5))) * (tf4 (Int32.toNatClampNeg p2))) + ((sa_2 (Int32.toNatClampNeg (p1 - 5))) * (tf4 (Int32.toNatClampNeg p3)))) + (sa_3 (Int32.toNatClampNeg (p1 - 5)))) / 1000003 * 1000003)))), (ta5, .inl (cyA G 0, 32768, .inl (upd tf5 (Int32.toNatClampNeg mm) (if (tf5 (Int32.toNatClampNeg p2)) < ((tf5 (Int32.toNatClampNeg p3)) - 1) then ((tf5 (Int32.toNatClampNeg p3)) - 1) else (tf5 (Int32.toNatClampNeg p2)))))), (ta6, .inl (cyA G 0, 32768, .inl (upd tf6 (Int32.toNatClampNeg mm) ((tf6 (Int32.toNatClampNeg p2)) ||| (tf6 (Int32.toNatClampNeg p3)))))), (ta7, .inl (cyA G 1, 32768, .inl (upd tf7 (Int32.toNatClampNeg mm) (vp_nar .boolean 1))))]) [0, 1, 2, 3, 4, 5, 6, 7, 8] (by decide) rfl
                      refine W.widen (k := 0) (n := 0) (Nat.le_of_ble_eq_true rfl) (Nat.le_of_ble_eq_true rfl) ?_
                      exact W.iret (v := mm) hx hb hr (fun t ht hW => ⟨⟨mm, (), rfl, rfl, ⟨by rw [ht]; exact hP9, hD9⟩⟩, hS.F ht⟩) hS.2.2 dX9_pair_286 hlocks
                    · rw [if_pos c_31] at hm
                      refine lv_aload_n hx hb dX9_pair_252 rfl (lv_at hl 2 rfl) ?_
                      refine va_get (D := DG G) (ci := 8) (v := .ref ta7) (C := RX9) (T := TX9) (N := 10) hx hb hts inW_X9 hown hK hP 0 rfl rfl 7 (by decide) (hts _ wm47) (fun _ h9 => h9) rfl dX9_pair_253 ?_
                      refine lv_iload_n hx hb dX9_pair_256 rfl (lv_at hl 5 rfl) ?_
                      obtain ⟨b_33, hm⟩ := ite_some hm
                      refine va_zald hx hb hK hP 8 1 rfl rfl (inb_vp b_33) dX9_pair_257 ?_
                      refine lv_if_ne (tgt := 278) hx hb dX9_pair_258 (by decide) (fun c_34 => ?_) (fun c_34 => ?_)
                      · rw [if_neg c_34] at hm
                        refine lv_iconst (v := 1) hx hb dX9_pair_278 (by decide) ?_
                        refine lv_goto (tgt := 283) hx hb dX9_pair_279 (by decide) ?_
                        obtain ⟨b_35, hm⟩ := ite_some hm
                        refine va_zast hx hb hK hP hD hS 8 1 rfl rfl (inb_vp b_35) dX9_pair_283 (fun H locs hP hD hS => ?_)
                        have hP : va_P (DG G) clP3 [(t1, .inr (8, [.ref ta0, .ref ta1, .ref ta2, .ref ta3, .ref ta4, .ref ta5, .ref ta6, .ref ta7, .ref ta8, .int (mm + 1)])), (ta0, .inl (cyA G 0, 32768, .inl (upd tf0 (Int32.toNatClampNeg mm) p1))), (ta1, .inl (cyA G 0, 32768, .inl (upd tf1 (Int32.toNatClampNeg mm) p2))), (ta2, .inl (cyA G 0, 32768, .inl (upd tf2 (Int32.toNatClampNeg mm) p3))), (ta3, .inl (cyA G 0, 32768, .inl (upd tf3 (Int32.toNatClampNeg mm) ((1 + (tf3 (Int32.toNatClampNeg p2))) + (tf3 (Int32.toNatClampNeg p3)))))), (ta4, .inl (cyA G 0, 32768, .inl (upd tf4 (Int32.toNatClampNeg mm) (((((sa_1 (Int32.toNatClampNeg (p1 - 5))) * (tf4 (Int32.toNatClampNeg p2))) + ((sa_2 (Int32.toNatClampNeg (p1 - 5))) * (tf4 (Int32.toNatClampNeg p3)))) + (sa_3 (Int32.toNatClampNeg (p1 - 5)))) - ((((sa_1 (Int32.toNatClampNeg (p1 - 5))) * (tf4 (Int32.toNatClampNeg p2))) + ((sa_2 (Int32.toNatClampNeg (p1 - 5))) * (tf4 (Int32.toNatClampNeg p3)))) + (sa_3 (Int32.toNatClampNeg (p1 - 5)))) / 1000003 * 1000003)))), (ta5, .inl (cyA G 0, 32768, .inl (upd tf5 (Int32.toNatClampNeg mm) (if (tf5 (Int32.toNatClampNeg p2)) < ((tf5 (Int32.toNatClampNeg p3)) - 1) then ((tf5 (Int32.toNatClampNeg p3)) - 1) else (tf5 (Int32.toNatClampNeg p2)))))), (ta6, .inl (cyA G 0, 32768, .inl (upd tf6 (Int32.toNatClampNeg mm) ((tf6 (Int32.toNatClampNeg p2)) ||| (tf6 (Int32.toNatClampNeg p3)))))), (ta7, .inl (cyA G 1, 32768, .inl (upd tf7 (Int32.toNatClampNeg mm) (vp_nar .boolean 1))))] H := hP
                        have hD : va_D A [(t1, .inr (8, [.ref ta0, .ref ta1, .ref ta2, .ref ta3, .ref ta4, .ref ta5, .ref ta6, .ref ta7, .ref ta8, .int (mm + 1)])), (ta0, .inl (cyA G 0, 32768, .inl (upd tf0 (Int32.toNatClampNeg mm) p1))), (ta1, .inl (cyA G 0, 32768, .inl (upd tf1 (Int32.toNatClampNeg mm) p2))), (ta2, .inl (cyA G 0, 32768, .inl (upd tf2 (Int32.toNatClampNeg mm) p3))), (ta3, .inl (cyA G 0, 32768, .inl (upd tf3 (Int32.toNatClampNeg mm) ((1 + (tf3 (Int32.toNatClampNeg p2))) + (tf3 (Int32.toNatClampNeg p3)))))), (ta4, .inl (cyA G 0, 32768, .inl (upd tf4 (Int32.toNatClampNeg mm) (((((sa_1 (Int32.toNatClampNeg (p1 - 5))) * (tf4 (Int32.toNatClampNeg p2))) + ((sa_2 (Int32.toNatClampNeg (p1 - 5))) * (tf4 (Int32.toNatClampNeg p3)))) + (sa_3 (Int32.toNatClampNeg (p1 - 5)))) - ((((sa_1 (Int32.toNatClampNeg (p1 - 5))) * (tf4 (Int32.toNatClampNeg p2))) + ((sa_2 (Int32.toNatClampNeg (p1 - 5))) * (tf4 (Int32.toNatClampNeg p3)))) + (sa_3 (Int32.toNatClampNeg (p1 - 5)))) / 1000003 * 1000003)))), (ta5, .inl (cyA G 0, 32768, .inl (upd tf5 (Int32.toNatClampNeg mm) (if (tf5 (Int32.toNatClampNeg p2)) < ((tf5 (Int32.toNatClampNeg p3)) - 1) then ((tf5 (Int32.toNatClampNeg p3)) - 1) else (tf5 (Int32.toNatClampNeg p2)))))), (ta6, .inl (cyA G 0, 32768, .inl (upd tf6 (Int32.toNatClampNeg mm) ((tf6 (Int32.toNatClampNeg p2)) ||| (tf6 (Int32.toNatClampNeg p3)))))), (ta7, .inl (cyA G 1, 32768, .inl (upd tf7 (Int32.toNatClampNeg mm) (vp_nar .boolean 1))))] := hD
                        refine lv_iload hx hb dX9_pair_284 (lv_at hl 1 rfl) ?_
                        simp only [Option.some.injEq, Prod.mk.injEq] at hm
                        obtain ⟨rfl, rfl, rfl, rfl, rfl, rfl, rfl, rfl, rfl, rfl⟩ := hm
                        have hP9 := hP.sub (ws' := [(t1, .inr (8, [.ref ta0, .ref ta1, .ref ta2, .ref ta3, .ref ta4, .ref ta5, .ref ta6, .ref ta7, .ref ta8, .int (mm + 1)])), (ta0, .inl (cyA G 0, 32768, .inl (upd tf0 (Int32.toNatClampNeg mm) p1))), (ta1, .inl (cyA G 0, 32768, .inl (upd tf1 (Int32.toNatClampNeg mm) p2))), (ta2, .inl (cyA G 0, 32768, .inl (upd tf2 (Int32.toNatClampNeg mm) p3))), (ta3, .inl (cyA G 0, 32768, .inl (upd tf3 (Int32.toNatClampNeg mm) ((1 + (tf3 (Int32.toNatClampNeg p2))) + (tf3 (Int32.toNatClampNeg p3)))))), (ta4, .inl (cyA G 0, 32768, .inl (upd tf4 (Int32.toNatClampNeg mm) (((((sa_1 (Int32.toNatClampNeg (p1 - 5))) * (tf4 (Int32.toNatClampNeg p2))) + ((sa_2 (Int32.toNatClampNeg (p1 - 5))) * (tf4 (Int32.toNatClampNeg p3)))) + (sa_3 (Int32.toNatClampNeg (p1 - 5)))) - ((((sa_1 (Int32.toNatClampNeg (p1 - 5))) * (tf4 (Int32.toNatClampNeg p2))) + ((sa_2 (Int32.toNatClampNeg (p1 - 5))) * (tf4 (Int32.toNatClampNeg p3)))) + (sa_3 (Int32.toNatClampNeg (p1 - 5)))) / 1000003 * 1000003)))), (ta5, .inl (cyA G 0, 32768, .inl (upd tf5 (Int32.toNatClampNeg mm) (if (tf5 (Int32.toNatClampNeg p2)) < ((tf5 (Int32.toNatClampNeg p3)) - 1) then ((tf5 (Int32.toNatClampNeg p3)) - 1) else (tf5 (Int32.toNatClampNeg p2)))))), (ta6, .inl (cyA G 0, 32768, .inl (upd tf6 (Int32.toNatClampNeg mm) ((tf6 (Int32.toNatClampNeg p2)) ||| (tf6 (Int32.toNatClampNeg p3)))))), (ta7, .inl (cyA G 1, 32768, .inl (upd tf7 (Int32.toNatClampNeg mm) (vp_nar .boolean 1))))]) [0, 1, 2, 3, 4, 5, 6, 7, 8] rfl
                        have hD9 := hD.sub (ws' := [(t1, .inr (8, [.ref ta0, .ref ta1, .ref ta2, .ref ta3, .ref ta4, .ref ta5, .ref ta6, .ref ta7, .ref ta8, .int (mm + 1)])), (ta0, .inl (cyA G 0, 32768, .inl (upd tf0 (Int32.toNatClampNeg mm) p1))), (ta1, .inl (cyA G 0, 32768, .inl (upd tf1 (Int32.toNatClampNeg mm) p2))), (ta2, .inl (cyA G 0, 32768, .inl (upd tf2 (Int32.toNatClampNeg mm) p3))), (ta3, .inl (cyA G 0, 32768, .inl (upd tf3 (Int32.toNatClampNeg mm) ((1 + (tf3 (Int32.toNatClampNeg p2))) + (tf3 (Int32.toNatClampNeg p3)))))), (ta4, .inl (cyA G 0, 32768, .inl (upd tf4 (Int32.toNatClampNeg mm) (((((sa_1 (Int32.toNatClampNeg (p1 - 5))) * (tf4 (Int32.toNatClampNeg p2))) + ((sa_2 (Int32.toNatClampNeg (p1 - 5))) * (tf4 (Int32.toNatClampNeg p3)))) + (sa_3 (Int32.toNatClampNeg (p1 - 5)))) - ((((sa_1 (Int32.toNatClampNeg (p1 - 5))) * (tf4 (Int32.toNatClampNeg p2))) + ((sa_2 (Int32.toNatClampNeg (p1 - 5))) * (tf4 (Int32.toNatClampNeg p3)))) + (sa_3 (Int32.toNatClampNeg (p1 - 5)))) / 1000003 * 1000003)))), (ta5, .inl (cyA G 0, 32768, .inl (upd tf5 (Int32.toNatClampNeg mm) (if (tf5 (Int32.toNatClampNeg p2)) < ((tf5 (Int32.toNatClampNeg p3)) - 1) then ((tf5 (Int32.toNatClampNeg p3)) - 1) else (tf5 (Int32.toNatClampNeg p2)))))), (ta6, .inl (cyA G 0, 32768, .inl (upd tf6 (Int32.toNatClampNeg mm) ((tf6 (Int32.toNatClampNeg p2)) ||| (tf6 (Int32.toNatClampNeg p3)))))), (ta7, .inl (cyA G 1, 32768, .inl (upd tf7 (Int32.toNatClampNeg mm) (vp_nar .boolean 1))))]) [0, 1, 2, 3, 4, 5, 6, 7, 8] (by decide) rfl
                        refine W.widen (k := 0) (n := 0) (Nat.le_of_ble_eq_true rfl) (Nat.le_of_ble_eq_true rfl) ?_
                        exact W.iret (v := mm) hx hb hr (fun t ht hW => ⟨⟨mm, (), rfl, rfl, ⟨by rw [ht]; exact hP9, hD9⟩⟩, hS.F ht⟩) hS.2.2 dX9_pair_286 hlocks
                      · rw [if_pos c_34] at hm
                        refine lv_iload_n hx hb dX9_pair_261 rfl (lv_at hl 3 rfl) ?_
                        refine lv_bipush (v := 7) hx hb dX9_pair_262 (by decide) ?_
                        refine lv_icmp_ne (tgt := 282) hx hb dX9_pair_264 (by decide) (fun c_36 => ?_) (fun c_36 => ?_)
                        · rw [if_neg c_36] at hm
                          refine lv_iconst (v := 0) hx hb dX9_pair_282 (by decide) ?_
                          obtain ⟨b_37, hm⟩ := ite_some hm
                          refine va_zast hx hb hK hP hD hS 8 1 rfl rfl (inb_vp b_37) dX9_pair_283 (fun H locs hP hD hS => ?_)
                          have hP : va_P (DG G) clP3 [(t1, .inr (8, [.ref ta0, .ref ta1, .ref ta2, .ref ta3, .ref ta4, .ref ta5, .ref ta6, .ref ta7, .ref ta8, .int (mm + 1)])), (ta0, .inl (cyA G 0, 32768, .inl (upd tf0 (Int32.toNatClampNeg mm) p1))), (ta1, .inl (cyA G 0, 32768, .inl (upd tf1 (Int32.toNatClampNeg mm) p2))), (ta2, .inl (cyA G 0, 32768, .inl (upd tf2 (Int32.toNatClampNeg mm) p3))), (ta3, .inl (cyA G 0, 32768, .inl (upd tf3 (Int32.toNatClampNeg mm) ((1 + (tf3 (Int32.toNatClampNeg p2))) + (tf3 (Int32.toNatClampNeg p3)))))), (ta4, .inl (cyA G 0, 32768, .inl (upd tf4 (Int32.toNatClampNeg mm) (((((sa_1 (Int32.toNatClampNeg (p1 - 5))) * (tf4 (Int32.toNatClampNeg p2))) + ((sa_2 (Int32.toNatClampNeg (p1 - 5))) * (tf4 (Int32.toNatClampNeg p3)))) + (sa_3 (Int32.toNatClampNeg (p1 - 5)))) - ((((sa_1 (Int32.toNatClampNeg (p1 - 5))) * (tf4 (Int32.toNatClampNeg p2))) + ((sa_2 (Int32.toNatClampNeg (p1 - 5))) * (tf4 (Int32.toNatClampNeg p3)))) + (sa_3 (Int32.toNatClampNeg (p1 - 5)))) / 1000003 * 1000003)))), (ta5, .inl (cyA G 0, 32768, .inl (upd tf5 (Int32.toNatClampNeg mm) (if (tf5 (Int32.toNatClampNeg p2)) < ((tf5 (Int32.toNatClampNeg p3)) - 1) then ((tf5 (Int32.toNatClampNeg p3)) - 1) else (tf5 (Int32.toNatClampNeg p2)))))), (ta6, .inl (cyA G 0, 32768, .inl (upd tf6 (Int32.toNatClampNeg mm) ((tf6 (Int32.toNatClampNeg p2)) ||| (tf6 (Int32.toNatClampNeg p3)))))), (ta7, .inl (cyA G 1, 32768, .inl (upd tf7 (Int32.toNatClampNeg mm) (vp_nar .boolean 0))))] H := hP
                          have hD : va_D A [(t1, .inr (8, [.ref ta0, .ref ta1, .ref ta2, .ref ta3, .ref ta4, .ref ta5, .ref ta6, .ref ta7, .ref ta8, .int (mm + 1)])), (ta0, .inl (cyA G 0, 32768, .inl (upd tf0 (Int32.toNatClampNeg mm) p1))), (ta1, .inl (cyA G 0, 32768, .inl (upd tf1 (Int32.toNatClampNeg mm) p2))), (ta2, .inl (cyA G 0, 32768, .inl (upd tf2 (Int32.toNatClampNeg mm) p3))), (ta3, .inl (cyA G 0, 32768, .inl (upd tf3 (Int32.toNatClampNeg mm) ((1 + (tf3 (Int32.toNatClampNeg p2))) + (tf3 (Int32.toNatClampNeg p3)))))), (ta4, .inl (cyA G 0, 32768, .inl (upd tf4 (Int32.toNatClampNeg mm) (((((sa_1 (Int32.toNatClampNeg (p1 - 5))) * (tf4 (Int32.toNatClampNeg p2))) + ((sa_2 (Int32.toNatClampNeg (p1 - 5))) * (tf4 (Int32.toNatClampNeg p3)))) + (sa_3 (Int32.toNatClampNeg (p1 - 5)))) - ((((sa_1 (Int32.toNatClampNeg (p1 - 5))) * (tf4 (Int32.toNatClampNeg p2))) + ((sa_2 (Int32.toNatClampNeg (p1 - 5))) * (tf4 (Int32.toNatClampNeg p3)))) + (sa_3 (Int32.toNatClampNeg (p1 - 5)))) / 1000003 * 1000003)))), (ta5, .inl (cyA G 0, 32768, .inl (upd tf5 (Int32.toNatClampNeg mm) (if (tf5 (Int32.toNatClampNeg p2)) < ((tf5 (Int32.toNatClampNeg p3)) - 1) then ((tf5 (Int32.toNatClampNeg p3)) - 1) else (tf5 (Int32.toNatClampNeg p2)))))), (ta6, .inl (cyA G 0, 32768, .inl (upd tf6 (Int32.toNatClampNeg mm) ((tf6 (Int32.toNatClampNeg p2)) ||| (tf6 (Int32.toNatClampNeg p3)))))), (ta7, .inl (cyA G 1, 32768, .inl (upd tf7 (Int32.toNatClampNeg mm) (vp_nar .boolean 0))))] := hD
                          refine lv_iload hx hb dX9_pair_284 (lv_at hl 1 rfl) ?_
                          simp only [Option.some.injEq, Prod.mk.injEq] at hm
                          obtain ⟨rfl, rfl, rfl, rfl, rfl, rfl, rfl, rfl, rfl, rfl⟩ := hm
                          have hP9 := hP.sub (ws' := [(t1, .inr (8, [.ref ta0, .ref ta1, .ref ta2, .ref ta3, .ref ta4, .ref ta5, .ref ta6, .ref ta7, .ref ta8, .int (mm + 1)])), (ta0, .inl (cyA G 0, 32768, .inl (upd tf0 (Int32.toNatClampNeg mm) p1))), (ta1, .inl (cyA G 0, 32768, .inl (upd tf1 (Int32.toNatClampNeg mm) p2))), (ta2, .inl (cyA G 0, 32768, .inl (upd tf2 (Int32.toNatClampNeg mm) p3))), (ta3, .inl (cyA G 0, 32768, .inl (upd tf3 (Int32.toNatClampNeg mm) ((1 + (tf3 (Int32.toNatClampNeg p2))) + (tf3 (Int32.toNatClampNeg p3)))))), (ta4, .inl (cyA G 0, 32768, .inl (upd tf4 (Int32.toNatClampNeg mm) (((((sa_1 (Int32.toNatClampNeg (p1 - 5))) * (tf4 (Int32.toNatClampNeg p2))) + ((sa_2 (Int32.toNatClampNeg (p1 - 5))) * (tf4 (Int32.toNatClampNeg p3)))) + (sa_3 (Int32.toNatClampNeg (p1 - 5)))) - ((((sa_1 (Int32.toNatClampNeg (p1 - 5))) * (tf4 (Int32.toNatClampNeg p2))) + ((sa_2 (Int32.toNatClampNeg (p1 - 5))) * (tf4 (Int32.toNatClampNeg p3)))) + (sa_3 (Int32.toNatClampNeg (p1 - 5)))) / 1000003 * 1000003)))), (ta5, .inl (cyA G 0, 32768, .inl (upd tf5 (Int32.toNatClampNeg mm) (if (tf5 (Int32.toNatClampNeg p2)) < ((tf5 (Int32.toNatClampNeg p3)) - 1) then ((tf5 (Int32.toNatClampNeg p3)) - 1) else (tf5 (Int32.toNatClampNeg p2)))))), (ta6, .inl (cyA G 0, 32768, .inl (upd tf6 (Int32.toNatClampNeg mm) ((tf6 (Int32.toNatClampNeg p2)) ||| (tf6 (Int32.toNatClampNeg p3)))))), (ta7, .inl (cyA G 1, 32768, .inl (upd tf7 (Int32.toNatClampNeg mm) (vp_nar .boolean 0))))]) [0, 1, 2, 3, 4, 5, 6, 7, 8] rfl
                          have hD9 := hD.sub (ws' := [(t1, .inr (8, [.ref ta0, .ref ta1, .ref ta2, .ref ta3, .ref ta4, .ref ta5, .ref ta6, .ref ta7, .ref ta8, .int (mm + 1)])), (ta0, .inl (cyA G 0, 32768, .inl (upd tf0 (Int32.toNatClampNeg mm) p1))), (ta1, .inl (cyA G 0, 32768, .inl (upd tf1 (Int32.toNatClampNeg mm) p2))), (ta2, .inl (cyA G 0, 32768, .inl (upd tf2 (Int32.toNatClampNeg mm) p3))), (ta3, .inl (cyA G 0, 32768, .inl (upd tf3 (Int32.toNatClampNeg mm) ((1 + (tf3 (Int32.toNatClampNeg p2))) + (tf3 (Int32.toNatClampNeg p3)))))), (ta4, .inl (cyA G 0, 32768, .inl (upd tf4 (Int32.toNatClampNeg mm) (((((sa_1 (Int32.toNatClampNeg (p1 - 5))) * (tf4 (Int32.toNatClampNeg p2))) + ((sa_2 (Int32.toNatClampNeg (p1 - 5))) * (tf4 (Int32.toNatClampNeg p3)))) + (sa_3 (Int32.toNatClampNeg (p1 - 5)))) - ((((sa_1 (Int32.toNatClampNeg (p1 - 5))) * (tf4 (Int32.toNatClampNeg p2))) + ((sa_2 (Int32.toNatClampNeg (p1 - 5))) * (tf4 (Int32.toNatClampNeg p3)))) + (sa_3 (Int32.toNatClampNeg (p1 - 5)))) / 1000003 * 1000003)))), (ta5, .inl (cyA G 0, 32768, .inl (upd tf5 (Int32.toNatClampNeg mm) (if (tf5 (Int32.toNatClampNeg p2)) < ((tf5 (Int32.toNatClampNeg p3)) - 1) then ((tf5 (Int32.toNatClampNeg p3)) - 1) else (tf5 (Int32.toNatClampNeg p2)))))), (ta6, .inl (cyA G 0, 32768, .inl (upd tf6 (Int32.toNatClampNeg mm) ((tf6 (Int32.toNatClampNeg p2)) ||| (tf6 (Int32.toNatClampNeg p3)))))), (ta7, .inl (cyA G 1, 32768, .inl (upd tf7 (Int32.toNatClampNeg mm) (vp_nar .boolean 0))))]) [0, 1, 2, 3, 4, 5, 6, 7, 8] (by decide) rfl
                          refine W.widen (k := 0) (n := 0) (Nat.le_of_ble_eq_true rfl) (Nat.le_of_ble_eq_true rfl) ?_
                          exact W.iret (v := mm) hx hb hr (fun t ht hW => ⟨⟨mm, (), rfl, rfl, ⟨by rw [ht]; exact hP9, hD9⟩⟩, hS.F ht⟩) hS.2.2 dX9_pair_286 hlocks
                        · rw [if_pos c_36] at hm
                          refine lv_aload_n hx hb dX9_pair_267 rfl (lv_at hl 2 rfl) ?_
                          refine va_get (D := DG G) (ci := 8) (v := .ref ta0) (C := RX9) (T := TX9) (N := 10) hx hb hts inW_X9 hown hK hP 0 rfl rfl 0 (by decide) (hts _ wm40) (fun _ h9 => h9) rfl dX9_pair_268 ?_
                          refine lv_iload_n hx hb dX9_pair_271 rfl (lv_at hl 4 rfl) ?_
                          obtain ⟨b_38, hm⟩ := ite_some hm
                          refine va_iald hx hb hK hP 1 0 rfl rfl (inb_vp b_38) dX9_pair_272 ?_
                          refine lv_bipush (v := 6) hx hb dX9_pair_273 (by decide) ?_
                          refine lv_icmp_ne (tgt := 282) hx hb dX9_pair_275 (by decide) (fun c_39 => ?_) (fun c_39 => ?_)
                          · rw [if_neg c_39] at hm
                            refine lv_iconst (v := 0) hx hb dX9_pair_282 (by decide) ?_
                            obtain ⟨b_40, hm⟩ := ite_some hm
                            refine va_zast hx hb hK hP hD hS 8 1 rfl rfl (inb_vp b_40) dX9_pair_283 (fun H locs hP hD hS => ?_)
                            have hP : va_P (DG G) clP3 [(t1, .inr (8, [.ref ta0, .ref ta1, .ref ta2, .ref ta3, .ref ta4, .ref ta5, .ref ta6, .ref ta7, .ref ta8, .int (mm + 1)])), (ta0, .inl (cyA G 0, 32768, .inl (upd tf0 (Int32.toNatClampNeg mm) p1))), (ta1, .inl (cyA G 0, 32768, .inl (upd tf1 (Int32.toNatClampNeg mm) p2))), (ta2, .inl (cyA G 0, 32768, .inl (upd tf2 (Int32.toNatClampNeg mm) p3))), (ta3, .inl (cyA G 0, 32768, .inl (upd tf3 (Int32.toNatClampNeg mm) ((1 + (tf3 (Int32.toNatClampNeg p2))) + (tf3 (Int32.toNatClampNeg p3)))))), (ta4, .inl (cyA G 0, 32768, .inl (upd tf4 (Int32.toNatClampNeg mm) (((((sa_1 (Int32.toNatClampNeg (p1 - 5))) * (tf4 (Int32.toNatClampNeg p2))) + ((sa_2 (Int32.toNatClampNeg (p1 - 5))) * (tf4 (Int32.toNatClampNeg p3)))) + (sa_3 (Int32.toNatClampNeg (p1 - 5)))) - ((((sa_1 (Int32.toNatClampNeg (p1 - 5))) * (tf4 (Int32.toNatClampNeg p2))) + ((sa_2 (Int32.toNatClampNeg (p1 - 5))) * (tf4 (Int32.toNatClampNeg p3)))) + (sa_3 (Int32.toNatClampNeg (p1 - 5)))) / 1000003 * 1000003)))), (ta5, .inl (cyA G 0, 32768, .inl (upd tf5 (Int32.toNatClampNeg mm) (if (tf5 (Int32.toNatClampNeg p2)) < ((tf5 (Int32.toNatClampNeg p3)) - 1) then ((tf5 (Int32.toNatClampNeg p3)) - 1) else (tf5 (Int32.toNatClampNeg p2)))))), (ta6, .inl (cyA G 0, 32768, .inl (upd tf6 (Int32.toNatClampNeg mm) ((tf6 (Int32.toNatClampNeg p2)) ||| (tf6 (Int32.toNatClampNeg p3)))))), (ta7, .inl (cyA G 1, 32768, .inl (upd tf7 (Int32.toNatClampNeg mm) (vp_nar .boolean 0))))] H := hP
                            have hD : va_D A [(t1, .inr (8, [.ref ta0, .ref ta1, .ref ta2, .ref ta3, .ref ta4, .ref ta5, .ref ta6, .ref ta7, .ref ta8, .int (mm + 1)])), (ta0, .inl (cyA G 0, 32768, .inl (upd tf0 (Int32.toNatClampNeg mm) p1))), (ta1, .inl (cyA G 0, 32768, .inl (upd tf1 (Int32.toNatClampNeg mm) p2))), (ta2, .inl (cyA G 0, 32768, .inl (upd tf2 (Int32.toNatClampNeg mm) p3))), (ta3, .inl (cyA G 0, 32768, .inl (upd tf3 (Int32.toNatClampNeg mm) ((1 + (tf3 (Int32.toNatClampNeg p2))) + (tf3 (Int32.toNatClampNeg p3)))))), (ta4, .inl (cyA G 0, 32768, .inl (upd tf4 (Int32.toNatClampNeg mm) (((((sa_1 (Int32.toNatClampNeg (p1 - 5))) * (tf4 (Int32.toNatClampNeg p2))) + ((sa_2 (Int32.toNatClampNeg (p1 - 5))) * (tf4 (Int32.toNatClampNeg p3)))) + (sa_3 (Int32.toNatClampNeg (p1 - 5)))) - ((((sa_1 (Int32.toNatClampNeg (p1 - 5))) * (tf4 (Int32.toNatClampNeg p2))) + ((sa_2 (Int32.toNatClampNeg (p1 - 5))) * (tf4 (Int32.toNatClampNeg p3)))) + (sa_3 (Int32.toNatClampNeg (p1 - 5)))) / 1000003 * 1000003)))), (ta5, .inl (cyA G 0, 32768, .inl (upd tf5 (Int32.toNatClampNeg mm) (if (tf5 (Int32.toNatClampNeg p2)) < ((tf5 (Int32.toNatClampNeg p3)) - 1) then ((tf5 (Int32.toNatClampNeg p3)) - 1) else (tf5 (Int32.toNatClampNeg p2)))))), (ta6, .inl (cyA G 0, 32768, .inl (upd tf6 (Int32.toNatClampNeg mm) ((tf6 (Int32.toNatClampNeg p2)) ||| (tf6 (Int32.toNatClampNeg p3)))))), (ta7, .inl (cyA G 1, 32768, .inl (upd tf7 (Int32.toNatClampNeg mm) (vp_nar .boolean 0))))] := hD
                            refine lv_iload hx hb dX9_pair_284 (lv_at hl 1 rfl) ?_
                            simp only [Option.some.injEq, Prod.mk.injEq] at hm
                            obtain ⟨rfl, rfl, rfl, rfl, rfl, rfl, rfl, rfl, rfl, rfl⟩ := hm
                            have hP9 := hP.sub (ws' := [(t1, .inr (8, [.ref ta0, .ref ta1, .ref ta2, .ref ta3, .ref ta4, .ref ta5, .ref ta6, .ref ta7, .ref ta8, .int (mm + 1)])), (ta0, .inl (cyA G 0, 32768, .inl (upd tf0 (Int32.toNatClampNeg mm) p1))), (ta1, .inl (cyA G 0, 32768, .inl (upd tf1 (Int32.toNatClampNeg mm) p2))), (ta2, .inl (cyA G 0, 32768, .inl (upd tf2 (Int32.toNatClampNeg mm) p3))), (ta3, .inl (cyA G 0, 32768, .inl (upd tf3 (Int32.toNatClampNeg mm) ((1 + (tf3 (Int32.toNatClampNeg p2))) + (tf3 (Int32.toNatClampNeg p3)))))), (ta4, .inl (cyA G 0, 32768, .inl (upd tf4 (Int32.toNatClampNeg mm) (((((sa_1 (Int32.toNatClampNeg (p1 - 5))) * (tf4 (Int32.toNatClampNeg p2))) + ((sa_2 (Int32.toNatClampNeg (p1 - 5))) * (tf4 (Int32.toNatClampNeg p3)))) + (sa_3 (Int32.toNatClampNeg (p1 - 5)))) - ((((sa_1 (Int32.toNatClampNeg (p1 - 5))) * (tf4 (Int32.toNatClampNeg p2))) + ((sa_2 (Int32.toNatClampNeg (p1 - 5))) * (tf4 (Int32.toNatClampNeg p3)))) + (sa_3 (Int32.toNatClampNeg (p1 - 5)))) / 1000003 * 1000003)))), (ta5, .inl (cyA G 0, 32768, .inl (upd tf5 (Int32.toNatClampNeg mm) (if (tf5 (Int32.toNatClampNeg p2)) < ((tf5 (Int32.toNatClampNeg p3)) - 1) then ((tf5 (Int32.toNatClampNeg p3)) - 1) else (tf5 (Int32.toNatClampNeg p2)))))), (ta6, .inl (cyA G 0, 32768, .inl (upd tf6 (Int32.toNatClampNeg mm) ((tf6 (Int32.toNatClampNeg p2)) ||| (tf6 (Int32.toNatClampNeg p3)))))), (ta7, .inl (cyA G 1, 32768, .inl (upd tf7 (Int32.toNatClampNeg mm) (vp_nar .boolean 0))))]) [0, 1, 2, 3, 4, 5, 6, 7, 8] rfl
                            have hD9 := hD.sub (ws' := [(t1, .inr (8, [.ref ta0, .ref ta1, .ref ta2, .ref ta3, .ref ta4, .ref ta5, .ref ta6, .ref ta7, .ref ta8, .int (mm + 1)])), (ta0, .inl (cyA G 0, 32768, .inl (upd tf0 (Int32.toNatClampNeg mm) p1))), (ta1, .inl (cyA G 0, 32768, .inl (upd tf1 (Int32.toNatClampNeg mm) p2))), (ta2, .inl (cyA G 0, 32768, .inl (upd tf2 (Int32.toNatClampNeg mm) p3))), (ta3, .inl (cyA G 0, 32768, .inl (upd tf3 (Int32.toNatClampNeg mm) ((1 + (tf3 (Int32.toNatClampNeg p2))) + (tf3 (Int32.toNatClampNeg p3)))))), (ta4, .inl (cyA G 0, 32768, .inl (upd tf4 (Int32.toNatClampNeg mm) (((((sa_1 (Int32.toNatClampNeg (p1 - 5))) * (tf4 (Int32.toNatClampNeg p2))) + ((sa_2 (Int32.toNatClampNeg (p1 - 5))) * (tf4 (Int32.toNatClampNeg p3)))) + (sa_3 (Int32.toNatClampNeg (p1 - 5)))) - ((((sa_1 (Int32.toNatClampNeg (p1 - 5))) * (tf4 (Int32.toNatClampNeg p2))) + ((sa_2 (Int32.toNatClampNeg (p1 - 5))) * (tf4 (Int32.toNatClampNeg p3)))) + (sa_3 (Int32.toNatClampNeg (p1 - 5)))) / 1000003 * 1000003)))), (ta5, .inl (cyA G 0, 32768, .inl (upd tf5 (Int32.toNatClampNeg mm) (if (tf5 (Int32.toNatClampNeg p2)) < ((tf5 (Int32.toNatClampNeg p3)) - 1) then ((tf5 (Int32.toNatClampNeg p3)) - 1) else (tf5 (Int32.toNatClampNeg p2)))))), (ta6, .inl (cyA G 0, 32768, .inl (upd tf6 (Int32.toNatClampNeg mm) ((tf6 (Int32.toNatClampNeg p2)) ||| (tf6 (Int32.toNatClampNeg p3)))))), (ta7, .inl (cyA G 1, 32768, .inl (upd tf7 (Int32.toNatClampNeg mm) (vp_nar .boolean 0))))]) [0, 1, 2, 3, 4, 5, 6, 7, 8] (by decide) rfl
                            refine W.widen (k := 0) (n := 0) (Nat.le_of_ble_eq_true rfl) (Nat.le_of_ble_eq_true rfl) ?_
                            exact W.iret (v := mm) hx hb hr (fun t ht hW => ⟨⟨mm, (), rfl, rfl, ⟨by rw [ht]; exact hP9, hD9⟩⟩, hS.F ht⟩) hS.2.2 dX9_pair_286 hlocks
                          · rw [if_pos c_39] at hm
                            refine lv_iconst (v := 1) hx hb dX9_pair_278 (by decide) ?_
                            refine lv_goto (tgt := 283) hx hb dX9_pair_279 (by decide) ?_
                            obtain ⟨b_41, hm⟩ := ite_some hm
                            refine va_zast hx hb hK hP hD hS 8 1 rfl rfl (inb_vp b_41) dX9_pair_283 (fun H locs hP hD hS => ?_)
                            have hP : va_P (DG G) clP3 [(t1, .inr (8, [.ref ta0, .ref ta1, .ref ta2, .ref ta3, .ref ta4, .ref ta5, .ref ta6, .ref ta7, .ref ta8, .int (mm + 1)])), (ta0, .inl (cyA G 0, 32768, .inl (upd tf0 (Int32.toNatClampNeg mm) p1))), (ta1, .inl (cyA G 0, 32768, .inl (upd tf1 (Int32.toNatClampNeg mm) p2))), (ta2, .inl (cyA G 0, 32768, .inl (upd tf2 (Int32.toNatClampNeg mm) p3))), (ta3, .inl (cyA G 0, 32768, .inl (upd tf3 (Int32.toNatClampNeg mm) ((1 + (tf3 (Int32.toNatClampNeg p2))) + (tf3 (Int32.toNatClampNeg p3)))))), (ta4, .inl (cyA G 0, 32768, .inl (upd tf4 (Int32.toNatClampNeg mm) (((((sa_1 (Int32.toNatClampNeg (p1 - 5))) * (tf4 (Int32.toNatClampNeg p2))) + ((sa_2 (Int32.toNatClampNeg (p1 - 5))) * (tf4 (Int32.toNatClampNeg p3)))) + (sa_3 (Int32.toNatClampNeg (p1 - 5)))) - ((((sa_1 (Int32.toNatClampNeg (p1 - 5))) * (tf4 (Int32.toNatClampNeg p2))) + ((sa_2 (Int32.toNatClampNeg (p1 - 5))) * (tf4 (Int32.toNatClampNeg p3)))) + (sa_3 (Int32.toNatClampNeg (p1 - 5)))) / 1000003 * 1000003)))), (ta5, .inl (cyA G 0, 32768, .inl (upd tf5 (Int32.toNatClampNeg mm) (if (tf5 (Int32.toNatClampNeg p2)) < ((tf5 (Int32.toNatClampNeg p3)) - 1) then ((tf5 (Int32.toNatClampNeg p3)) - 1) else (tf5 (Int32.toNatClampNeg p2)))))), (ta6, .inl (cyA G 0, 32768, .inl (upd tf6 (Int32.toNatClampNeg mm) ((tf6 (Int32.toNatClampNeg p2)) ||| (tf6 (Int32.toNatClampNeg p3)))))), (ta7, .inl (cyA G 1, 32768, .inl (upd tf7 (Int32.toNatClampNeg mm) (vp_nar .boolean 1))))] H := hP
                            have hD : va_D A [(t1, .inr (8, [.ref ta0, .ref ta1, .ref ta2, .ref ta3, .ref ta4, .ref ta5, .ref ta6, .ref ta7, .ref ta8, .int (mm + 1)])), (ta0, .inl (cyA G 0, 32768, .inl (upd tf0 (Int32.toNatClampNeg mm) p1))), (ta1, .inl (cyA G 0, 32768, .inl (upd tf1 (Int32.toNatClampNeg mm) p2))), (ta2, .inl (cyA G 0, 32768, .inl (upd tf2 (Int32.toNatClampNeg mm) p3))), (ta3, .inl (cyA G 0, 32768, .inl (upd tf3 (Int32.toNatClampNeg mm) ((1 + (tf3 (Int32.toNatClampNeg p2))) + (tf3 (Int32.toNatClampNeg p3)))))), (ta4, .inl (cyA G 0, 32768, .inl (upd tf4 (Int32.toNatClampNeg mm) (((((sa_1 (Int32.toNatClampNeg (p1 - 5))) * (tf4 (Int32.toNatClampNeg p2))) + ((sa_2 (Int32.toNatClampNeg (p1 - 5))) * (tf4 (Int32.toNatClampNeg p3)))) + (sa_3 (Int32.toNatClampNeg (p1 - 5)))) - ((((sa_1 (Int32.toNatClampNeg (p1 - 5))) * (tf4 (Int32.toNatClampNeg p2))) + ((sa_2 (Int32.toNatClampNeg (p1 - 5))) * (tf4 (Int32.toNatClampNeg p3)))) + (sa_3 (Int32.toNatClampNeg (p1 - 5)))) / 1000003 * 1000003)))), (ta5, .inl (cyA G 0, 32768, .inl (upd tf5 (Int32.toNatClampNeg mm) (if (tf5 (Int32.toNatClampNeg p2)) < ((tf5 (Int32.toNatClampNeg p3)) - 1) then ((tf5 (Int32.toNatClampNeg p3)) - 1) else (tf5 (Int32.toNatClampNeg p2)))))), (ta6, .inl (cyA G 0, 32768, .inl (upd tf6 (Int32.toNatClampNeg mm) ((tf6 (Int32.toNatClampNeg p2)) ||| (tf6 (Int32.toNatClampNeg p3)))))), (ta7, .inl (cyA G 1, 32768, .inl (upd tf7 (Int32.toNatClampNeg mm) (vp_nar .boolean 1))))] := hD
                            refine lv_iload hx hb dX9_pair_284 (lv_at hl 1 rfl) ?_
                            simp only [Option.some.injEq, Prod.mk.injEq] at hm
                            obtain ⟨rfl, rfl, rfl, rfl, rfl, rfl, rfl, rfl, rfl, rfl⟩ := hm
                            have hP9 := hP.sub (ws' := [(t1, .inr (8, [.ref ta0, .ref ta1, .ref ta2, .ref ta3, .ref ta4, .ref ta5, .ref ta6, .ref ta7, .ref ta8, .int (mm + 1)])), (ta0, .inl (cyA G 0, 32768, .inl (upd tf0 (Int32.toNatClampNeg mm) p1))), (ta1, .inl (cyA G 0, 32768, .inl (upd tf1 (Int32.toNatClampNeg mm) p2))), (ta2, .inl (cyA G 0, 32768, .inl (upd tf2 (Int32.toNatClampNeg mm) p3))), (ta3, .inl (cyA G 0, 32768, .inl (upd tf3 (Int32.toNatClampNeg mm) ((1 + (tf3 (Int32.toNatClampNeg p2))) + (tf3 (Int32.toNatClampNeg p3)))))), (ta4, .inl (cyA G 0, 32768, .inl (upd tf4 (Int32.toNatClampNeg mm) (((((sa_1 (Int32.toNatClampNeg (p1 - 5))) * (tf4 (Int32.toNatClampNeg p2))) + ((sa_2 (Int32.toNatClampNeg (p1 - 5))) * (tf4 (Int32.toNatClampNeg p3)))) + (sa_3 (Int32.toNatClampNeg (p1 - 5)))) - ((((sa_1 (Int32.toNatClampNeg (p1 - 5))) * (tf4 (Int32.toNatClampNeg p2))) + ((sa_2 (Int32.toNatClampNeg (p1 - 5))) * (tf4 (Int32.toNatClampNeg p3)))) + (sa_3 (Int32.toNatClampNeg (p1 - 5)))) / 1000003 * 1000003)))), (ta5, .inl (cyA G 0, 32768, .inl (upd tf5 (Int32.toNatClampNeg mm) (if (tf5 (Int32.toNatClampNeg p2)) < ((tf5 (Int32.toNatClampNeg p3)) - 1) then ((tf5 (Int32.toNatClampNeg p3)) - 1) else (tf5 (Int32.toNatClampNeg p2)))))), (ta6, .inl (cyA G 0, 32768, .inl (upd tf6 (Int32.toNatClampNeg mm) ((tf6 (Int32.toNatClampNeg p2)) ||| (tf6 (Int32.toNatClampNeg p3)))))), (ta7, .inl (cyA G 1, 32768, .inl (upd tf7 (Int32.toNatClampNeg mm) (vp_nar .boolean 1))))]) [0, 1, 2, 3, 4, 5, 6, 7, 8] rfl
                            have hD9 := hD.sub (ws' := [(t1, .inr (8, [.ref ta0, .ref ta1, .ref ta2, .ref ta3, .ref ta4, .ref ta5, .ref ta6, .ref ta7, .ref ta8, .int (mm + 1)])), (ta0, .inl (cyA G 0, 32768, .inl (upd tf0 (Int32.toNatClampNeg mm) p1))), (ta1, .inl (cyA G 0, 32768, .inl (upd tf1 (Int32.toNatClampNeg mm) p2))), (ta2, .inl (cyA G 0, 32768, .inl (upd tf2 (Int32.toNatClampNeg mm) p3))), (ta3, .inl (cyA G 0, 32768, .inl (upd tf3 (Int32.toNatClampNeg mm) ((1 + (tf3 (Int32.toNatClampNeg p2))) + (tf3 (Int32.toNatClampNeg p3)))))), (ta4, .inl (cyA G 0, 32768, .inl (upd tf4 (Int32.toNatClampNeg mm) (((((sa_1 (Int32.toNatClampNeg (p1 - 5))) * (tf4 (Int32.toNatClampNeg p2))) + ((sa_2 (Int32.toNatClampNeg (p1 - 5))) * (tf4 (Int32.toNatClampNeg p3)))) + (sa_3 (Int32.toNatClampNeg (p1 - 5)))) - ((((sa_1 (Int32.toNatClampNeg (p1 - 5))) * (tf4 (Int32.toNatClampNeg p2))) + ((sa_2 (Int32.toNatClampNeg (p1 - 5))) * (tf4 (Int32.toNatClampNeg p3)))) + (sa_3 (Int32.toNatClampNeg (p1 - 5)))) / 1000003 * 1000003)))), (ta5, .inl (cyA G 0, 32768, .inl (upd tf5 (Int32.toNatClampNeg mm) (if (tf5 (Int32.toNatClampNeg p2)) < ((tf5 (Int32.toNatClampNeg p3)) - 1) then ((tf5 (Int32.toNatClampNeg p3)) - 1) else (tf5 (Int32.toNatClampNeg p2)))))), (ta6, .inl (cyA G 0, 32768, .inl (upd tf6 (Int32.toNatClampNeg mm) ((tf6 (Int32.toNatClampNeg p2)) ||| (tf6 (Int32.toNatClampNeg p3)))))), (ta7, .inl (cyA G 1, 32768, .inl (upd tf7 (Int32.toNatClampNeg mm) (vp_nar .boolean 1))))]) [0, 1, 2, 3, 4, 5, 6, 7, 8] (by decide) rfl
                            refine W.widen (k := 0) (n := 0) (Nat.le_of_ble_eq_true rfl) (Nat.le_of_ble_eq_true rfl) ?_
                            exact W.iret (v := mm) hx hb hr (fun t ht hW => ⟨⟨mm, (), rfl, rfl, ⟨by rw [ht]; exact hP9, hD9⟩⟩, hS.F ht⟩) hS.2.2 dX9_pair_286 hlocks
                  · rw [if_pos c_24] at hm
                    refine lv_aload_n hx hb dX9_pair_196 rfl (lv_at hl 2 rfl) ?_
                    refine va_get (D := DG G) (ci := 8) (v := .ref ta5) (C := RX9) (T := TX9) (N := 10) hx hb hts inW_X9 hown hK hP 0 rfl rfl 5 (by decide) (hts _ wm45) (fun _ h9 => h9) rfl dX9_pair_197 ?_
                    refine lv_iload_n hx hb dX9_pair_200 rfl (lv_at hl 5 rfl) ?_
                    obtain ⟨b_42, hm⟩ := ite_some hm
                    refine va_iald hx hb hK hP 6 0 rfl rfl (inb_vp b_42) dX9_pair_201 ?_
                    refine lv_goto (tgt := 213) hx hb dX9_pair_202 (by decide) ?_
                    refine va_mmax hx hb (hml.trans hl.1.symm) hown (hts _ wm474) (hts _ wm182) (hts _ wm8) (hts _ wm183) (Nat.le_of_ble_eq_true rfl) (Nat.le_of_ble_eq_true rfl) (Nat.le_of_ble_eq_true rfl) (Nat.le_of_ble_eq_true rfl) dX9_pair_213 ?_
                    obtain ⟨b_43, hm⟩ := ite_some hm
                    refine va_iast hx hb hK hP hD hS 6 0 rfl rfl (inb_vp b_43) dX9_pair_216 (fun H locs hP hD hS => ?_)
                    have hP : va_P (DG G) clP3 [(t1, .inr (8, [.ref ta0, .ref ta1, .ref ta2, .ref ta3, .ref ta4, .ref ta5, .ref ta6, .ref ta7, .ref ta8, .int (mm + 1)])), (ta0, .inl (cyA G 0, 32768, .inl (upd tf0 (Int32.toNatClampNeg mm) p1))), (ta1, .inl (cyA G 0, 32768, .inl (upd tf1 (Int32.toNatClampNeg mm) p2))), (ta2, .inl (cyA G 0, 32768, .inl (upd tf2 (Int32.toNatClampNeg mm) p3))), (ta3, .inl (cyA G 0, 32768, .inl (upd tf3 (Int32.toNatClampNeg mm) ((1 + (tf3 (Int32.toNatClampNeg p2))) + (tf3 (Int32.toNatClampNeg p3)))))), (ta4, .inl (cyA G 0, 32768, .inl (upd tf4 (Int32.toNatClampNeg mm) (((((sa_1 (Int32.toNatClampNeg (p1 - 5))) * (tf4 (Int32.toNatClampNeg p2))) + ((sa_2 (Int32.toNatClampNeg (p1 - 5))) * (tf4 (Int32.toNatClampNeg p3)))) + (sa_3 (Int32.toNatClampNeg (p1 - 5)))) - ((((sa_1 (Int32.toNatClampNeg (p1 - 5))) * (tf4 (Int32.toNatClampNeg p2))) + ((sa_2 (Int32.toNatClampNeg (p1 - 5))) * (tf4 (Int32.toNatClampNeg p3)))) + (sa_3 (Int32.toNatClampNeg (p1 - 5)))) / 1000003 * 1000003)))), (ta5, .inl (cyA G 0, 32768, .inl (upd tf5 (Int32.toNatClampNeg mm) (if (tf5 (Int32.toNatClampNeg p2)) < (tf5 (Int32.toNatClampNeg p3)) then (tf5 (Int32.toNatClampNeg p3)) else (tf5 (Int32.toNatClampNeg p2)))))), (ta6, .inl (cyA G 0, 32768, .inl (tf6))), (ta7, .inl (cyA G 1, 32768, .inl (tf7)))] H := hP
                    have hD : va_D A [(t1, .inr (8, [.ref ta0, .ref ta1, .ref ta2, .ref ta3, .ref ta4, .ref ta5, .ref ta6, .ref ta7, .ref ta8, .int (mm + 1)])), (ta0, .inl (cyA G 0, 32768, .inl (upd tf0 (Int32.toNatClampNeg mm) p1))), (ta1, .inl (cyA G 0, 32768, .inl (upd tf1 (Int32.toNatClampNeg mm) p2))), (ta2, .inl (cyA G 0, 32768, .inl (upd tf2 (Int32.toNatClampNeg mm) p3))), (ta3, .inl (cyA G 0, 32768, .inl (upd tf3 (Int32.toNatClampNeg mm) ((1 + (tf3 (Int32.toNatClampNeg p2))) + (tf3 (Int32.toNatClampNeg p3)))))), (ta4, .inl (cyA G 0, 32768, .inl (upd tf4 (Int32.toNatClampNeg mm) (((((sa_1 (Int32.toNatClampNeg (p1 - 5))) * (tf4 (Int32.toNatClampNeg p2))) + ((sa_2 (Int32.toNatClampNeg (p1 - 5))) * (tf4 (Int32.toNatClampNeg p3)))) + (sa_3 (Int32.toNatClampNeg (p1 - 5)))) - ((((sa_1 (Int32.toNatClampNeg (p1 - 5))) * (tf4 (Int32.toNatClampNeg p2))) + ((sa_2 (Int32.toNatClampNeg (p1 - 5))) * (tf4 (Int32.toNatClampNeg p3)))) + (sa_3 (Int32.toNatClampNeg (p1 - 5)))) / 1000003 * 1000003)))), (ta5, .inl (cyA G 0, 32768, .inl (upd tf5 (Int32.toNatClampNeg mm) (if (tf5 (Int32.toNatClampNeg p2)) < (tf5 (Int32.toNatClampNeg p3)) then (tf5 (Int32.toNatClampNeg p3)) else (tf5 (Int32.toNatClampNeg p2)))))), (ta6, .inl (cyA G 0, 32768, .inl (tf6))), (ta7, .inl (cyA G 1, 32768, .inl (tf7)))] := hD
                    refine lv_aload_n hx hb dX9_pair_217 rfl (lv_at hl 2 rfl) ?_
                    refine va_get (D := DG G) (ci := 8) (v := .ref ta6) (C := RX9) (T := TX9) (N := 10) hx hb hts inW_X9 hown hK hP 0 rfl rfl 6 (by decide) (hts _ wm46) (fun _ h9 => h9) rfl dX9_pair_218 ?_
                    refine lv_iload hx hb dX9_pair_221 (lv_at hl 1 rfl) ?_
                    refine lv_aload_n hx hb dX9_pair_223 rfl (lv_at hl 2 rfl) ?_
                    refine va_get (D := DG G) (ci := 8) (v := .ref ta6) (C := RX9) (T := TX9) (N := 10) hx hb hts inW_X9 hown hK hP 0 rfl rfl 6 (by decide) (hts _ wm46) (fun _ h9 => h9) rfl dX9_pair_224 ?_
                    refine lv_iload_n hx hb dX9_pair_227 rfl (lv_at hl 4 rfl) ?_
                    obtain ⟨b_44, hm⟩ := ite_some hm
                    refine va_iald hx hb hK hP 7 0 rfl rfl (inb_vp b_44) dX9_pair_228 ?_
                    refine lv_aload_n hx hb dX9_pair_229 rfl (lv_at hl 2 rfl) ?_
                    refine va_get (D := DG G) (ci := 8) (v := .ref ta6) (C := RX9) (T := TX9) (N := 10) hx hb hts inW_X9 hown hK hP 0 rfl rfl 6 (by decide) (hts _ wm46) (fun _ h9 => h9) rfl dX9_pair_230 ?_
                    refine lv_iload_n hx hb dX9_pair_233 rfl (lv_at hl 5 rfl) ?_
                    obtain ⟨b_45, hm⟩ := ite_some hm
                    refine va_iald hx hb hK hP 7 0 rfl rfl (inb_vp b_45) dX9_pair_234 ?_
                    refine lv_ior hx hb dX9_pair_235 ?_
                    obtain ⟨b_46, hm⟩ := ite_some hm
                    refine va_iast hx hb hK hP hD hS 7 0 rfl rfl (inb_vp b_46) dX9_pair_236 (fun H locs hP hD hS => ?_)
                    have hP : va_P (DG G) clP3 [(t1, .inr (8, [.ref ta0, .ref ta1, .ref ta2, .ref ta3, .ref ta4, .ref ta5, .ref ta6, .ref ta7, .ref ta8, .int (mm + 1)])), (ta0, .inl (cyA G 0, 32768, .inl (upd tf0 (Int32.toNatClampNeg mm) p1))), (ta1, .inl (cyA G 0, 32768, .inl (upd tf1 (Int32.toNatClampNeg mm) p2))), (ta2, .inl (cyA G 0, 32768, .inl (upd tf2 (Int32.toNatClampNeg mm) p3))), (ta3, .inl (cyA G 0, 32768, .inl (upd tf3 (Int32.toNatClampNeg mm) ((1 + (tf3 (Int32.toNatClampNeg p2))) + (tf3 (Int32.toNatClampNeg p3)))))), (ta4, .inl (cyA G 0, 32768, .inl (upd tf4 (Int32.toNatClampNeg mm) (((((sa_1 (Int32.toNatClampNeg (p1 - 5))) * (tf4 (Int32.toNatClampNeg p2))) + ((sa_2 (Int32.toNatClampNeg (p1 - 5))) * (tf4 (Int32.toNatClampNeg p3)))) + (sa_3 (Int32.toNatClampNeg (p1 - 5)))) - ((((sa_1 (Int32.toNatClampNeg (p1 - 5))) * (tf4 (Int32.toNatClampNeg p2))) + ((sa_2 (Int32.toNatClampNeg (p1 - 5))) * (tf4 (Int32.toNatClampNeg p3)))) + (sa_3 (Int32.toNatClampNeg (p1 - 5)))) / 1000003 * 1000003)))), (ta5, .inl (cyA G 0, 32768, .inl (upd tf5 (Int32.toNatClampNeg mm) (if (tf5 (Int32.toNatClampNeg p2)) < (tf5 (Int32.toNatClampNeg p3)) then (tf5 (Int32.toNatClampNeg p3)) else (tf5 (Int32.toNatClampNeg p2)))))), (ta6, .inl (cyA G 0, 32768, .inl (upd tf6 (Int32.toNatClampNeg mm) ((tf6 (Int32.toNatClampNeg p2)) ||| (tf6 (Int32.toNatClampNeg p3)))))), (ta7, .inl (cyA G 1, 32768, .inl (tf7)))] H := hP
                    have hD : va_D A [(t1, .inr (8, [.ref ta0, .ref ta1, .ref ta2, .ref ta3, .ref ta4, .ref ta5, .ref ta6, .ref ta7, .ref ta8, .int (mm + 1)])), (ta0, .inl (cyA G 0, 32768, .inl (upd tf0 (Int32.toNatClampNeg mm) p1))), (ta1, .inl (cyA G 0, 32768, .inl (upd tf1 (Int32.toNatClampNeg mm) p2))), (ta2, .inl (cyA G 0, 32768, .inl (upd tf2 (Int32.toNatClampNeg mm) p3))), (ta3, .inl (cyA G 0, 32768, .inl (upd tf3 (Int32.toNatClampNeg mm) ((1 + (tf3 (Int32.toNatClampNeg p2))) + (tf3 (Int32.toNatClampNeg p3)))))), (ta4, .inl (cyA G 0, 32768, .inl (upd tf4 (Int32.toNatClampNeg mm) (((((sa_1 (Int32.toNatClampNeg (p1 - 5))) * (tf4 (Int32.toNatClampNeg p2))) + ((sa_2 (Int32.toNatClampNeg (p1 - 5))) * (tf4 (Int32.toNatClampNeg p3)))) + (sa_3 (Int32.toNatClampNeg (p1 - 5)))) - ((((sa_1 (Int32.toNatClampNeg (p1 - 5))) * (tf4 (Int32.toNatClampNeg p2))) + ((sa_2 (Int32.toNatClampNeg (p1 - 5))) * (tf4 (Int32.toNatClampNeg p3)))) + (sa_3 (Int32.toNatClampNeg (p1 - 5)))) / 1000003 * 1000003)))), (ta5, .inl (cyA G 0, 32768, .inl (upd tf5 (Int32.toNatClampNeg mm) (if (tf5 (Int32.toNatClampNeg p2)) < (tf5 (Int32.toNatClampNeg p3)) then (tf5 (Int32.toNatClampNeg p3)) else (tf5 (Int32.toNatClampNeg p2)))))), (ta6, .inl (cyA G 0, 32768, .inl (upd tf6 (Int32.toNatClampNeg mm) ((tf6 (Int32.toNatClampNeg p2)) ||| (tf6 (Int32.toNatClampNeg p3)))))), (ta7, .inl (cyA G 1, 32768, .inl (tf7)))] := hD
                    refine lv_aload_n hx hb dX9_pair_237 rfl (lv_at hl 2 rfl) ?_
                    refine va_get (D := DG G) (ci := 8) (v := .ref ta7) (C := RX9) (T := TX9) (N := 10) hx hb hts inW_X9 hown hK hP 0 rfl rfl 7 (by decide) (hts _ wm47) (fun _ h9 => h9) rfl dX9_pair_238 ?_
                    refine lv_iload hx hb dX9_pair_241 (lv_at hl 1 rfl) ?_
                    refine lv_aload_n hx hb dX9_pair_243 rfl (lv_at hl 2 rfl) ?_
                    refine va_get (D := DG G) (ci := 8) (v := .ref ta7) (C := RX9) (T := TX9) (N := 10) hx hb hts inW_X9 hown hK hP 0 rfl rfl 7 (by decide) (hts _ wm47) (fun _ h9 => h9) rfl dX9_pair_244 ?_
                    refine lv_iload_n hx hb dX9_pair_247 rfl (lv_at hl 4 rfl) ?_
                    obtain ⟨b_47, hm⟩ := ite_some hm
                    refine va_zald hx hb hK hP 8 1 rfl rfl (inb_vp b_47) dX9_pair_248 ?_
                    refine lv_if_ne (tgt := 278) hx hb dX9_pair_249 (by decide) (fun c_48 => ?_) (fun c_48 => ?_)
                    · rw [if_neg c_48] at hm
                      refine lv_iconst (v := 1) hx hb dX9_pair_278 (by decide) ?_
                      refine lv_goto (tgt := 283) hx hb dX9_pair_279 (by decide) ?_
                      obtain ⟨b_49, hm⟩ := ite_some hm
                      refine va_zast hx hb hK hP hD hS 8 1 rfl rfl (inb_vp b_49) dX9_pair_283 (fun H locs hP hD hS => ?_)
                      have hP : va_P (DG G) clP3 [(t1, .inr (8, [.ref ta0, .ref ta1, .ref ta2, .ref ta3, .ref ta4, .ref ta5, .ref ta6, .ref ta7, .ref ta8, .int (mm + 1)])), (ta0, .inl (cyA G 0, 32768, .inl (upd tf0 (Int32.toNatClampNeg mm) p1))), (ta1, .inl (cyA G 0, 32768, .inl (upd tf1 (Int32.toNatClampNeg mm) p2))), (ta2, .inl (cyA G 0, 32768, .inl (upd tf2 (Int32.toNatClampNeg mm) p3))), (ta3, .inl (cyA G 0, 32768, .inl (upd tf3 (Int32.toNatClampNeg mm) ((1 + (tf3 (Int32.toNatClampNeg p2))) + (tf3 (Int32.toNatClampNeg p3)))))), (ta4, .inl (cyA G 0, 32768, .inl (upd tf4 (Int32.toNatClampNeg mm) (((((sa_1 (Int32.toNatClampNeg (p1 - 5))) * (tf4 (Int32.toNatClampNeg p2))) + ((sa_2 (Int32.toNatClampNeg (p1 - 5))) * (tf4 (Int32.toNatClampNeg p3)))) + (sa_3 (Int32.toNatClampNeg (p1 - 5)))) - ((((sa_1 (Int32.toNatClampNeg (p1 - 5))) * (tf4 (Int32.toNatClampNeg p2))) + ((sa_2 (Int32.toNatClampNeg (p1 - 5))) * (tf4 (Int32.toNatClampNeg p3)))) + (sa_3 (Int32.toNatClampNeg (p1 - 5)))) / 1000003 * 1000003)))), (ta5, .inl (cyA G 0, 32768, .inl (upd tf5 (Int32.toNatClampNeg mm) (if (tf5 (Int32.toNatClampNeg p2)) < (tf5 (Int32.toNatClampNeg p3)) then (tf5 (Int32.toNatClampNeg p3)) else (tf5 (Int32.toNatClampNeg p2)))))), (ta6, .inl (cyA G 0, 32768, .inl (upd tf6 (Int32.toNatClampNeg mm) ((tf6 (Int32.toNatClampNeg p2)) ||| (tf6 (Int32.toNatClampNeg p3)))))), (ta7, .inl (cyA G 1, 32768, .inl (upd tf7 (Int32.toNatClampNeg mm) (vp_nar .boolean 1))))] H := hP
                      have hD : va_D A [(t1, .inr (8, [.ref ta0, .ref ta1, .ref ta2, .ref ta3, .ref ta4, .ref ta5, .ref ta6, .ref ta7, .ref ta8, .int (mm + 1)])), (ta0, .inl (cyA G 0, 32768, .inl (upd tf0 (Int32.toNatClampNeg mm) p1))), (ta1, .inl (cyA G 0, 32768, .inl (upd tf1 (Int32.toNatClampNeg mm) p2))), (ta2, .inl (cyA G 0, 32768, .inl (upd tf2 (Int32.toNatClampNeg mm) p3))), (ta3, .inl (cyA G 0, 32768, .inl (upd tf3 (Int32.toNatClampNeg mm) ((1 + (tf3 (Int32.toNatClampNeg p2))) + (tf3 (Int32.toNatClampNeg p3)))))), (ta4, .inl (cyA G 0, 32768, .inl (upd tf4 (Int32.toNatClampNeg mm) (((((sa_1 (Int32.toNatClampNeg (p1 - 5))) * (tf4 (Int32.toNatClampNeg p2))) + ((sa_2 (Int32.toNatClampNeg (p1 - 5))) * (tf4 (Int32.toNatClampNeg p3)))) + (sa_3 (Int32.toNatClampNeg (p1 - 5)))) - ((((sa_1 (Int32.toNatClampNeg (p1 - 5))) * (tf4 (Int32.toNatClampNeg p2))) + ((sa_2 (Int32.toNatClampNeg (p1 - 5))) * (tf4 (Int32.toNatClampNeg p3)))) + (sa_3 (Int32.toNatClampNeg (p1 - 5)))) / 1000003 * 1000003)))), (ta5, .inl (cyA G 0, 32768, .inl (upd tf5 (Int32.toNatClampNeg mm) (if (tf5 (Int32.toNatClampNeg p2)) < (tf5 (Int32.toNatClampNeg p3)) then (tf5 (Int32.toNatClampNeg p3)) else (tf5 (Int32.toNatClampNeg p2)))))), (ta6, .inl (cyA G 0, 32768, .inl (upd tf6 (Int32.toNatClampNeg mm) ((tf6 (Int32.toNatClampNeg p2)) ||| (tf6 (Int32.toNatClampNeg p3)))))), (ta7, .inl (cyA G 1, 32768, .inl (upd tf7 (Int32.toNatClampNeg mm) (vp_nar .boolean 1))))] := hD
                      refine lv_iload hx hb dX9_pair_284 (lv_at hl 1 rfl) ?_
                      simp only [Option.some.injEq, Prod.mk.injEq] at hm
                      obtain ⟨rfl, rfl, rfl, rfl, rfl, rfl, rfl, rfl, rfl, rfl⟩ := hm
                      have hP9 := hP.sub (ws' := [(t1, .inr (8, [.ref ta0, .ref ta1, .ref ta2, .ref ta3, .ref ta4, .ref ta5, .ref ta6, .ref ta7, .ref ta8, .int (mm + 1)])), (ta0, .inl (cyA G 0, 32768, .inl (upd tf0 (Int32.toNatClampNeg mm) p1))), (ta1, .inl (cyA G 0, 32768, .inl (upd tf1 (Int32.toNatClampNeg mm) p2))), (ta2, .inl (cyA G 0, 32768, .inl (upd tf2 (Int32.toNatClampNeg mm) p3))), (ta3, .inl (cyA G 0, 32768, .inl (upd tf3 (Int32.toNatClampNeg mm) ((1 + (tf3 (Int32.toNatClampNeg p2))) + (tf3 (Int32.toNatClampNeg p3)))))), (ta4, .inl (cyA G 0, 32768, .inl (upd tf4 (Int32.toNatClampNeg mm) (((((sa_1 (Int32.toNatClampNeg (p1 - 5))) * (tf4 (Int32.toNatClampNeg p2))) + ((sa_2 (Int32.toNatClampNeg (p1 - 5))) * (tf4 (Int32.toNatClampNeg p3)))) + (sa_3 (Int32.toNatClampNeg (p1 - 5)))) - ((((sa_1 (Int32.toNatClampNeg (p1 - 5))) * (tf4 (Int32.toNatClampNeg p2))) + ((sa_2 (Int32.toNatClampNeg (p1 - 5))) * (tf4 (Int32.toNatClampNeg p3)))) + (sa_3 (Int32.toNatClampNeg (p1 - 5)))) / 1000003 * 1000003)))), (ta5, .inl (cyA G 0, 32768, .inl (upd tf5 (Int32.toNatClampNeg mm) (if (tf5 (Int32.toNatClampNeg p2)) < (tf5 (Int32.toNatClampNeg p3)) then (tf5 (Int32.toNatClampNeg p3)) else (tf5 (Int32.toNatClampNeg p2)))))), (ta6, .inl (cyA G 0, 32768, .inl (upd tf6 (Int32.toNatClampNeg mm) ((tf6 (Int32.toNatClampNeg p2)) ||| (tf6 (Int32.toNatClampNeg p3)))))), (ta7, .inl (cyA G 1, 32768, .inl (upd tf7 (Int32.toNatClampNeg mm) (vp_nar .boolean 1))))]) [0, 1, 2, 3, 4, 5, 6, 7, 8] rfl
                      have hD9 := hD.sub (ws' := [(t1, .inr (8, [.ref ta0, .ref ta1, .ref ta2, .ref ta3, .ref ta4, .ref ta5, .ref ta6, .ref ta7, .ref ta8, .int (mm + 1)])), (ta0, .inl (cyA G 0, 32768, .inl (upd tf0 (Int32.toNatClampNeg mm) p1))), (ta1, .inl (cyA G 0, 32768, .inl (upd tf1 (Int32.toNatClampNeg mm) p2))), (ta2, .inl (cyA G 0, 32768, .inl (upd tf2 (Int32.toNatClampNeg mm) p3))), (ta3, .inl (cyA G 0, 32768, .inl (upd tf3 (Int32.toNatClampNeg mm) ((1 + (tf3 (Int32.toNatClampNeg p2))) + (tf3 (Int32.toNatClampNeg p3)))))), (ta4, .inl (cyA G 0, 32768, .inl (upd tf4 (Int32.toNatClampNeg mm) (((((sa_1 (Int32.toNatClampNeg (p1 - 5))) * (tf4 (Int32.toNatClampNeg p2))) + ((sa_2 (Int32.toNatClampNeg (p1 - 5))) * (tf4 (Int32.toNatClampNeg p3)))) + (sa_3 (Int32.toNatClampNeg (p1 - 5)))) - ((((sa_1 (Int32.toNatClampNeg (p1 - 5))) * (tf4 (Int32.toNatClampNeg p2))) + ((sa_2 (Int32.toNatClampNeg (p1 - 5))) * (tf4 (Int32.toNatClampNeg p3)))) + (sa_3 (Int32.toNatClampNeg (p1 - 5)))) / 1000003 * 1000003)))), (ta5, .inl (cyA G 0, 32768, .inl (upd tf5 (Int32.toNatClampNeg mm) (if (tf5 (Int32.toNatClampNeg p2)) < (tf5 (Int32.toNatClampNeg p3)) then (tf5 (Int32.toNatClampNeg p3)) else (tf5 (Int32.toNatClampNeg p2)))))), (ta6, .inl (cyA G 0, 32768, .inl (upd tf6 (Int32.toNatClampNeg mm) ((tf6 (Int32.toNatClampNeg p2)) ||| (tf6 (Int32.toNatClampNeg p3)))))), (ta7, .inl (cyA G 1, 32768, .inl (upd tf7 (Int32.toNatClampNeg mm) (vp_nar .boolean 1))))]) [0, 1, 2, 3, 4, 5, 6, 7, 8] (by decide) rfl
                      refine W.widen (k := 0) (n := 0) (Nat.le_of_ble_eq_true rfl) (Nat.le_of_ble_eq_true rfl) ?_
                      exact W.iret (v := mm) hx hb hr (fun t ht hW => ⟨⟨mm, (), rfl, rfl, ⟨by rw [ht]; exact hP9, hD9⟩⟩, hS.F ht⟩) hS.2.2 dX9_pair_286 hlocks
                    · rw [if_pos c_48] at hm
                      refine lv_aload_n hx hb dX9_pair_252 rfl (lv_at hl 2 rfl) ?_
                      refine va_get (D := DG G) (ci := 8) (v := .ref ta7) (C := RX9) (T := TX9) (N := 10) hx hb hts inW_X9 hown hK hP 0 rfl rfl 7 (by decide) (hts _ wm47) (fun _ h9 => h9) rfl dX9_pair_253 ?_
                      refine lv_iload_n hx hb dX9_pair_256 rfl (lv_at hl 5 rfl) ?_
                      obtain ⟨b_50, hm⟩ := ite_some hm
                      refine va_zald hx hb hK hP 8 1 rfl rfl (inb_vp b_50) dX9_pair_257 ?_
                      refine lv_if_ne (tgt := 278) hx hb dX9_pair_258 (by decide) (fun c_51 => ?_) (fun c_51 => ?_)
                      · rw [if_neg c_51] at hm
                        refine lv_iconst (v := 1) hx hb dX9_pair_278 (by decide) ?_
                        refine lv_goto (tgt := 283) hx hb dX9_pair_279 (by decide) ?_
                        obtain ⟨b_52, hm⟩ := ite_some hm
                        refine va_zast hx hb hK hP hD hS 8 1 rfl rfl (inb_vp b_52) dX9_pair_283 (fun H locs hP hD hS => ?_)
                        have hP : va_P (DG G) clP3 [(t1, .inr (8, [.ref ta0, .ref ta1, .ref ta2, .ref ta3, .ref ta4, .ref ta5, .ref ta6, .ref ta7, .ref ta8, .int (mm + 1)])), (ta0, .inl (cyA G 0, 32768, .inl (upd tf0 (Int32.toNatClampNeg mm) p1))), (ta1, .inl (cyA G 0, 32768, .inl (upd tf1 (Int32.toNatClampNeg mm) p2))), (ta2, .inl (cyA G 0, 32768, .inl (upd tf2 (Int32.toNatClampNeg mm) p3))), (ta3, .inl (cyA G 0, 32768, .inl (upd tf3 (Int32.toNatClampNeg mm) ((1 + (tf3 (Int32.toNatClampNeg p2))) + (tf3 (Int32.toNatClampNeg p3)))))), (ta4, .inl (cyA G 0, 32768, .inl (upd tf4 (Int32.toNatClampNeg mm) (((((sa_1 (Int32.toNatClampNeg (p1 - 5))) * (tf4 (Int32.toNatClampNeg p2))) + ((sa_2 (Int32.toNatClampNeg (p1 - 5))) * (tf4 (Int32.toNatClampNeg p3)))) + (sa_3 (Int32.toNatClampNeg (p1 - 5)))) - ((((sa_1 (Int32.toNatClampNeg (p1 - 5))) * (tf4 (Int32.toNatClampNeg p2))) + ((sa_2 (Int32.toNatClampNeg (p1 - 5))) * (tf4 (Int32.toNatClampNeg p3)))) + (sa_3 (Int32.toNatClampNeg (p1 - 5)))) / 1000003 * 1000003)))), (ta5, .inl (cyA G 0, 32768, .inl (upd tf5 (Int32.toNatClampNeg mm) (if (tf5 (Int32.toNatClampNeg p2)) < (tf5 (Int32.toNatClampNeg p3)) then (tf5 (Int32.toNatClampNeg p3)) else (tf5 (Int32.toNatClampNeg p2)))))), (ta6, .inl (cyA G 0, 32768, .inl (upd tf6 (Int32.toNatClampNeg mm) ((tf6 (Int32.toNatClampNeg p2)) ||| (tf6 (Int32.toNatClampNeg p3)))))), (ta7, .inl (cyA G 1, 32768, .inl (upd tf7 (Int32.toNatClampNeg mm) (vp_nar .boolean 1))))] H := hP
                        have hD : va_D A [(t1, .inr (8, [.ref ta0, .ref ta1, .ref ta2, .ref ta3, .ref ta4, .ref ta5, .ref ta6, .ref ta7, .ref ta8, .int (mm + 1)])), (ta0, .inl (cyA G 0, 32768, .inl (upd tf0 (Int32.toNatClampNeg mm) p1))), (ta1, .inl (cyA G 0, 32768, .inl (upd tf1 (Int32.toNatClampNeg mm) p2))), (ta2, .inl (cyA G 0, 32768, .inl (upd tf2 (Int32.toNatClampNeg mm) p3))), (ta3, .inl (cyA G 0, 32768, .inl (upd tf3 (Int32.toNatClampNeg mm) ((1 + (tf3 (Int32.toNatClampNeg p2))) + (tf3 (Int32.toNatClampNeg p3)))))), (ta4, .inl (cyA G 0, 32768, .inl (upd tf4 (Int32.toNatClampNeg mm) (((((sa_1 (Int32.toNatClampNeg (p1 - 5))) * (tf4 (Int32.toNatClampNeg p2))) + ((sa_2 (Int32.toNatClampNeg (p1 - 5))) * (tf4 (Int32.toNatClampNeg p3)))) + (sa_3 (Int32.toNatClampNeg (p1 - 5)))) - ((((sa_1 (Int32.toNatClampNeg (p1 - 5))) * (tf4 (Int32.toNatClampNeg p2))) + ((sa_2 (Int32.toNatClampNeg (p1 - 5))) * (tf4 (Int32.toNatClampNeg p3)))) + (sa_3 (Int32.toNatClampNeg (p1 - 5)))) / 1000003 * 1000003)))), (ta5, .inl (cyA G 0, 32768, .inl (upd tf5 (Int32.toNatClampNeg mm) (if (tf5 (Int32.toNatClampNeg p2)) < (tf5 (Int32.toNatClampNeg p3)) then (tf5 (Int32.toNatClampNeg p3)) else (tf5 (Int32.toNatClampNeg p2)))))), (ta6, .inl (cyA G 0, 32768, .inl (upd tf6 (Int32.toNatClampNeg mm) ((tf6 (Int32.toNatClampNeg p2)) ||| (tf6 (Int32.toNatClampNeg p3)))))), (ta7, .inl (cyA G 1, 32768, .inl (upd tf7 (Int32.toNatClampNeg mm) (vp_nar .boolean 1))))] := hD
                        refine lv_iload hx hb dX9_pair_284 (lv_at hl 1 rfl) ?_
                        simp only [Option.some.injEq, Prod.mk.injEq] at hm
                        obtain ⟨rfl, rfl, rfl, rfl, rfl, rfl, rfl, rfl, rfl, rfl⟩ := hm
                        have hP9 := hP.sub (ws' := [(t1, .inr (8, [.ref ta0, .ref ta1, .ref ta2, .ref ta3, .ref ta4, .ref ta5, .ref ta6, .ref ta7, .ref ta8, .int (mm + 1)])), (ta0, .inl (cyA G 0, 32768, .inl (upd tf0 (Int32.toNatClampNeg mm) p1))), (ta1, .inl (cyA G 0, 32768, .inl (upd tf1 (Int32.toNatClampNeg mm) p2))), (ta2, .inl (cyA G 0, 32768, .inl (upd tf2 (Int32.toNatClampNeg mm) p3))), (ta3, .inl (cyA G 0, 32768, .inl (upd tf3 (Int32.toNatClampNeg mm) ((1 + (tf3 (Int32.toNatClampNeg p2))) + (tf3 (Int32.toNatClampNeg p3)))))), (ta4, .inl (cyA G 0, 32768, .inl (upd tf4 (Int32.toNatClampNeg mm) (((((sa_1 (Int32.toNatClampNeg (p1 - 5))) * (tf4 (Int32.toNatClampNeg p2))) + ((sa_2 (Int32.toNatClampNeg (p1 - 5))) * (tf4 (Int32.toNatClampNeg p3)))) + (sa_3 (Int32.toNatClampNeg (p1 - 5)))) - ((((sa_1 (Int32.toNatClampNeg (p1 - 5))) * (tf4 (Int32.toNatClampNeg p2))) + ((sa_2 (Int32.toNatClampNeg (p1 - 5))) * (tf4 (Int32.toNatClampNeg p3)))) + (sa_3 (Int32.toNatClampNeg (p1 - 5)))) / 1000003 * 1000003)))), (ta5, .inl (cyA G 0, 32768, .inl (upd tf5 (Int32.toNatClampNeg mm) (if (tf5 (Int32.toNatClampNeg p2)) < (tf5 (Int32.toNatClampNeg p3)) then (tf5 (Int32.toNatClampNeg p3)) else (tf5 (Int32.toNatClampNeg p2)))))), (ta6, .inl (cyA G 0, 32768, .inl (upd tf6 (Int32.toNatClampNeg mm) ((tf6 (Int32.toNatClampNeg p2)) ||| (tf6 (Int32.toNatClampNeg p3)))))), (ta7, .inl (cyA G 1, 32768, .inl (upd tf7 (Int32.toNatClampNeg mm) (vp_nar .boolean 1))))]) [0, 1, 2, 3, 4, 5, 6, 7, 8] rfl
                        have hD9 := hD.sub (ws' := [(t1, .inr (8, [.ref ta0, .ref ta1, .ref ta2, .ref ta3, .ref ta4, .ref ta5, .ref ta6, .ref ta7, .ref ta8, .int (mm + 1)])), (ta0, .inl (cyA G 0, 32768, .inl (upd tf0 (Int32.toNatClampNeg mm) p1))), (ta1, .inl (cyA G 0, 32768, .inl (upd tf1 (Int32.toNatClampNeg mm) p2))), (ta2, .inl (cyA G 0, 32768, .inl (upd tf2 (Int32.toNatClampNeg mm) p3))), (ta3, .inl (cyA G 0, 32768, .inl (upd tf3 (Int32.toNatClampNeg mm) ((1 + (tf3 (Int32.toNatClampNeg p2))) + (tf3 (Int32.toNatClampNeg p3)))))), (ta4, .inl (cyA G 0, 32768, .inl (upd tf4 (Int32.toNatClampNeg mm) (((((sa_1 (Int32.toNatClampNeg (p1 - 5))) * (tf4 (Int32.toNatClampNeg p2))) + ((sa_2 (Int32.toNatClampNeg (p1 - 5))) * (tf4 (Int32.toNatClampNeg p3)))) + (sa_3 (Int32.toNatClampNeg (p1 - 5)))) - ((((sa_1 (Int32.toNatClampNeg (p1 - 5))) * (tf4 (Int32.toNatClampNeg p2))) + ((sa_2 (Int32.toNatClampNeg (p1 - 5))) * (tf4 (Int32.toNatClampNeg p3)))) + (sa_3 (Int32.toNatClampNeg (p1 - 5)))) / 1000003 * 1000003)))), (ta5, .inl (cyA G 0, 32768, .inl (upd tf5 (Int32.toNatClampNeg mm) (if (tf5 (Int32.toNatClampNeg p2)) < (tf5 (Int32.toNatClampNeg p3)) then (tf5 (Int32.toNatClampNeg p3)) else (tf5 (Int32.toNatClampNeg p2)))))), (ta6, .inl (cyA G 0, 32768, .inl (upd tf6 (Int32.toNatClampNeg mm) ((tf6 (Int32.toNatClampNeg p2)) ||| (tf6 (Int32.toNatClampNeg p3)))))), (ta7, .inl (cyA G 1, 32768, .inl (upd tf7 (Int32.toNatClampNeg mm) (vp_nar .boolean 1))))]) [0, 1, 2, 3, 4, 5, 6, 7, 8] (by decide) rfl
                        refine W.widen (k := 0) (n := 0) (Nat.le_of_ble_eq_true rfl) (Nat.le_of_ble_eq_true rfl) ?_
                        exact W.iret (v := mm) hx hb hr (fun t ht hW => ⟨⟨mm, (), rfl, rfl, ⟨by rw [ht]; exact hP9, hD9⟩⟩, hS.F ht⟩) hS.2.2 dX9_pair_286 hlocks
                      · rw [if_pos c_51] at hm
                        refine lv_iload_n hx hb dX9_pair_261 rfl (lv_at hl 3 rfl) ?_
                        refine lv_bipush (v := 7) hx hb dX9_pair_262 (by decide) ?_
                        refine lv_icmp_ne (tgt := 282) hx hb dX9_pair_264 (by decide) (fun c_53 => ?_) (fun c_53 => ?_)
                        · rw [if_neg c_53] at hm
                          refine lv_iconst (v := 0) hx hb dX9_pair_282 (by decide) ?_
                          obtain ⟨b_54, hm⟩ := ite_some hm
                          refine va_zast hx hb hK hP hD hS 8 1 rfl rfl (inb_vp b_54) dX9_pair_283 (fun H locs hP hD hS => ?_)
                          have hP : va_P (DG G) clP3 [(t1, .inr (8, [.ref ta0, .ref ta1, .ref ta2, .ref ta3, .ref ta4, .ref ta5, .ref ta6, .ref ta7, .ref ta8, .int (mm + 1)])), (ta0, .inl (cyA G 0, 32768, .inl (upd tf0 (Int32.toNatClampNeg mm) p1))), (ta1, .inl (cyA G 0, 32768, .inl (upd tf1 (Int32.toNatClampNeg mm) p2))), (ta2, .inl (cyA G 0, 32768, .inl (upd tf2 (Int32.toNatClampNeg mm) p3))), (ta3, .inl (cyA G 0, 32768, .inl (upd tf3 (Int32.toNatClampNeg mm) ((1 + (tf3 (Int32.toNatClampNeg p2))) + (tf3 (Int32.toNatClampNeg p3)))))), (ta4, .inl (cyA G 0, 32768, .inl (upd tf4 (Int32.toNatClampNeg mm) (((((sa_1 (Int32.toNatClampNeg (p1 - 5))) * (tf4 (Int32.toNatClampNeg p2))) + ((sa_2 (Int32.toNatClampNeg (p1 - 5))) * (tf4 (Int32.toNatClampNeg p3)))) + (sa_3 (Int32.toNatClampNeg (p1 - 5)))) - ((((sa_1 (Int32.toNatClampNeg (p1 - 5))) * (tf4 (Int32.toNatClampNeg p2))) + ((sa_2 (Int32.toNatClampNeg (p1 - 5))) * (tf4 (Int32.toNatClampNeg p3)))) + (sa_3 (Int32.toNatClampNeg (p1 - 5)))) / 1000003 * 1000003)))), (ta5, .inl (cyA G 0, 32768, .inl (upd tf5 (Int32.toNatClampNeg mm) (if (tf5 (Int32.toNatClampNeg p2)) < (tf5 (Int32.toNatClampNeg p3)) then (tf5 (Int32.toNatClampNeg p3)) else (tf5 (Int32.toNatClampNeg p2)))))), (ta6, .inl (cyA G 0, 32768, .inl (upd tf6 (Int32.toNatClampNeg mm) ((tf6 (Int32.toNatClampNeg p2)) ||| (tf6 (Int32.toNatClampNeg p3)))))), (ta7, .inl (cyA G 1, 32768, .inl (upd tf7 (Int32.toNatClampNeg mm) (vp_nar .boolean 0))))] H := hP
                          have hD : va_D A [(t1, .inr (8, [.ref ta0, .ref ta1, .ref ta2, .ref ta3, .ref ta4, .ref ta5, .ref ta6, .ref ta7, .ref ta8, .int (mm + 1)])), (ta0, .inl (cyA G 0, 32768, .inl (upd tf0 (Int32.toNatClampNeg mm) p1))), (ta1, .inl (cyA G 0, 32768, .inl (upd tf1 (Int32.toNatClampNeg mm) p2))), (ta2, .inl (cyA G 0, 32768, .inl (upd tf2 (Int32.toNatClampNeg mm) p3))), (ta3, .inl (cyA G 0, 32768, .inl (upd tf3 (Int32.toNatClampNeg mm) ((1 + (tf3 (Int32.toNatClampNeg p2))) + (tf3 (Int32.toNatClampNeg p3)))))), (ta4, .inl (cyA G 0, 32768, .inl (upd tf4 (Int32.toNatClampNeg mm) (((((sa_1 (Int32.toNatClampNeg (p1 - 5))) * (tf4 (Int32.toNatClampNeg p2))) + ((sa_2 (Int32.toNatClampNeg (p1 - 5))) * (tf4 (Int32.toNatClampNeg p3)))) + (sa_3 (Int32.toNatClampNeg (p1 - 5)))) - ((((sa_1 (Int32.toNatClampNeg (p1 - 5))) * (tf4 (Int32.toNatClampNeg p2))) + ((sa_2 (Int32.toNatClampNeg (p1 - 5))) * (tf4 (Int32.toNatClampNeg p3)))) + (sa_3 (Int32.toNatClampNeg (p1 - 5)))) / 1000003 * 1000003)))), (ta5, .inl (cyA G 0, 32768, .inl (upd tf5 (Int32.toNatClampNeg mm) (if (tf5 (Int32.toNatClampNeg p2)) < (tf5 (Int32.toNatClampNeg p3)) then (tf5 (Int32.toNatClampNeg p3)) else (tf5 (Int32.toNatClampNeg p2)))))), (ta6, .inl (cyA G 0, 32768, .inl (upd tf6 (Int32.toNatClampNeg mm) ((tf6 (Int32.toNatClampNeg p2)) ||| (tf6 (Int32.toNatClampNeg p3)))))), (ta7, .inl (cyA G 1, 32768, .inl (upd tf7 (Int32.toNatClampNeg mm) (vp_nar .boolean 0))))] := hD
                          refine lv_iload hx hb dX9_pair_284 (lv_at hl 1 rfl) ?_
                          simp only [Option.some.injEq, Prod.mk.injEq] at hm
                          obtain ⟨rfl, rfl, rfl, rfl, rfl, rfl, rfl, rfl, rfl, rfl⟩ := hm
                          have hP9 := hP.sub (ws' := [(t1, .inr (8, [.ref ta0, .ref ta1, .ref ta2, .ref ta3, .ref ta4, .ref ta5, .ref ta6, .ref ta7, .ref ta8, .int (mm + 1)])), (ta0, .inl (cyA G 0, 32768, .inl (upd tf0 (Int32.toNatClampNeg mm) p1))), (ta1, .inl (cyA G 0, 32768, .inl (upd tf1 (Int32.toNatClampNeg mm) p2))), (ta2, .inl (cyA G 0, 32768, .inl (upd tf2 (Int32.toNatClampNeg mm) p3))), (ta3, .inl (cyA G 0, 32768, .inl (upd tf3 (Int32.toNatClampNeg mm) ((1 + (tf3 (Int32.toNatClampNeg p2))) + (tf3 (Int32.toNatClampNeg p3)))))), (ta4, .inl (cyA G 0, 32768, .inl (upd tf4 (Int32.toNatClampNeg mm) (((((sa_1 (Int32.toNatClampNeg (p1 - 5))) * (tf4 (Int32.toNatClampNeg p2))) + ((sa_2 (Int32.toNatClampNeg (p1 - 5))) * (tf4 (Int32.toNatClampNeg p3)))) + (sa_3 (Int32.toNatClampNeg (p1 - 5)))) - ((((sa_1 (Int32.toNatClampNeg (p1 - 5))) * (tf4 (Int32.toNatClampNeg p2))) + ((sa_2 (Int32.toNatClampNeg (p1 - 5))) * (tf4 (Int32.toNatClampNeg p3)))) + (sa_3 (Int32.toNatClampNeg (p1 - 5)))) / 1000003 * 1000003)))), (ta5, .inl (cyA G 0, 32768, .inl (upd tf5 (Int32.toNatClampNeg mm) (if (tf5 (Int32.toNatClampNeg p2)) < (tf5 (Int32.toNatClampNeg p3)) then (tf5 (Int32.toNatClampNeg p3)) else (tf5 (Int32.toNatClampNeg p2)))))), (ta6, .inl (cyA G 0, 32768, .inl (upd tf6 (Int32.toNatClampNeg mm) ((tf6 (Int32.toNatClampNeg p2)) ||| (tf6 (Int32.toNatClampNeg p3)))))), (ta7, .inl (cyA G 1, 32768, .inl (upd tf7 (Int32.toNatClampNeg mm) (vp_nar .boolean 0))))]) [0, 1, 2, 3, 4, 5, 6, 7, 8] rfl
                          have hD9 := hD.sub (ws' := [(t1, .inr (8, [.ref ta0, .ref ta1, .ref ta2, .ref ta3, .ref ta4, .ref ta5, .ref ta6, .ref ta7, .ref ta8, .int (mm + 1)])), (ta0, .inl (cyA G 0, 32768, .inl (upd tf0 (Int32.toNatClampNeg mm) p1))), (ta1, .inl (cyA G 0, 32768, .inl (upd tf1 (Int32.toNatClampNeg mm) p2))), (ta2, .inl (cyA G 0, 32768, .inl (upd tf2 (Int32.toNatClampNeg mm) p3))), (ta3, .inl (cyA G 0, 32768, .inl (upd tf3 (Int32.toNatClampNeg mm) ((1 + (tf3 (Int32.toNatClampNeg p2))) + (tf3 (Int32.toNatClampNeg p3)))))), (ta4, .inl (cyA G 0, 32768, .inl (upd tf4 (Int32.toNatClampNeg mm) (((((sa_1 (Int32.toNatClampNeg (p1 - 5))) * (tf4 (Int32.toNatClampNeg p2))) + ((sa_2 (Int32.toNatClampNeg (p1 - 5))) * (tf4 (Int32.toNatClampNeg p3)))) + (sa_3 (Int32.toNatClampNeg (p1 - 5)))) - ((((sa_1 (Int32.toNatClampNeg (p1 - 5))) * (tf4 (Int32.toNatClampNeg p2))) + ((sa_2 (Int32.toNatClampNeg (p1 - 5))) * (tf4 (Int32.toNatClampNeg p3)))) + (sa_3 (Int32.toNatClampNeg (p1 - 5)))) / 1000003 * 1000003)))), (ta5, .inl (cyA G 0, 32768, .inl (upd tf5 (Int32.toNatClampNeg mm) (if (tf5 (Int32.toNatClampNeg p2)) < (tf5 (Int32.toNatClampNeg p3)) then (tf5 (Int32.toNatClampNeg p3)) else (tf5 (Int32.toNatClampNeg p2)))))), (ta6, .inl (cyA G 0, 32768, .inl (upd tf6 (Int32.toNatClampNeg mm) ((tf6 (Int32.toNatClampNeg p2)) ||| (tf6 (Int32.toNatClampNeg p3)))))), (ta7, .inl (cyA G 1, 32768, .inl (upd tf7 (Int32.toNatClampNeg mm) (vp_nar .boolean 0))))]) [0, 1, 2, 3, 4, 5, 6, 7, 8] (by decide) rfl
                          refine W.widen (k := 0) (n := 0) (Nat.le_of_ble_eq_true rfl) (Nat.le_of_ble_eq_true rfl) ?_
                          exact W.iret (v := mm) hx hb hr (fun t ht hW => ⟨⟨mm, (), rfl, rfl, ⟨by rw [ht]; exact hP9, hD9⟩⟩, hS.F ht⟩) hS.2.2 dX9_pair_286 hlocks
                        · rw [if_pos c_53] at hm
                          refine lv_aload_n hx hb dX9_pair_267 rfl (lv_at hl 2 rfl) ?_
                          refine va_get (D := DG G) (ci := 8) (v := .ref ta0) (C := RX9) (T := TX9) (N := 10) hx hb hts inW_X9 hown hK hP 0 rfl rfl 0 (by decide) (hts _ wm40) (fun _ h9 => h9) rfl dX9_pair_268 ?_
                          refine lv_iload_n hx hb dX9_pair_271 rfl (lv_at hl 4 rfl) ?_
                          obtain ⟨b_55, hm⟩ := ite_some hm
                          refine va_iald hx hb hK hP 1 0 rfl rfl (inb_vp b_55) dX9_pair_272 ?_
                          refine lv_bipush (v := 6) hx hb dX9_pair_273 (by decide) ?_
                          refine lv_icmp_ne (tgt := 282) hx hb dX9_pair_275 (by decide) (fun c_56 => ?_) (fun c_56 => ?_)
                          · rw [if_neg c_56] at hm
                            refine lv_iconst (v := 0) hx hb dX9_pair_282 (by decide) ?_
                            obtain ⟨b_57, hm⟩ := ite_some hm
                            refine va_zast hx hb hK hP hD hS 8 1 rfl rfl (inb_vp b_57) dX9_pair_283 (fun H locs hP hD hS => ?_)
                            have hP : va_P (DG G) clP3 [(t1, .inr (8, [.ref ta0, .ref ta1, .ref ta2, .ref ta3, .ref ta4, .ref ta5, .ref ta6, .ref ta7, .ref ta8, .int (mm + 1)])), (ta0, .inl (cyA G 0, 32768, .inl (upd tf0 (Int32.toNatClampNeg mm) p1))), (ta1, .inl (cyA G 0, 32768, .inl (upd tf1 (Int32.toNatClampNeg mm) p2))), (ta2, .inl (cyA G 0, 32768, .inl (upd tf2 (Int32.toNatClampNeg mm) p3))), (ta3, .inl (cyA G 0, 32768, .inl (upd tf3 (Int32.toNatClampNeg mm) ((1 + (tf3 (Int32.toNatClampNeg p2))) + (tf3 (Int32.toNatClampNeg p3)))))), (ta4, .inl (cyA G 0, 32768, .inl (upd tf4 (Int32.toNatClampNeg mm) (((((sa_1 (Int32.toNatClampNeg (p1 - 5))) * (tf4 (Int32.toNatClampNeg p2))) + ((sa_2 (Int32.toNatClampNeg (p1 - 5))) * (tf4 (Int32.toNatClampNeg p3)))) + (sa_3 (Int32.toNatClampNeg (p1 - 5)))) - ((((sa_1 (Int32.toNatClampNeg (p1 - 5))) * (tf4 (Int32.toNatClampNeg p2))) + ((sa_2 (Int32.toNatClampNeg (p1 - 5))) * (tf4 (Int32.toNatClampNeg p3)))) + (sa_3 (Int32.toNatClampNeg (p1 - 5)))) / 1000003 * 1000003)))), (ta5, .inl (cyA G 0, 32768, .inl (upd tf5 (Int32.toNatClampNeg mm) (if (tf5 (Int32.toNatClampNeg p2)) < (tf5 (Int32.toNatClampNeg p3)) then (tf5 (Int32.toNatClampNeg p3)) else (tf5 (Int32.toNatClampNeg p2)))))), (ta6, .inl (cyA G 0, 32768, .inl (upd tf6 (Int32.toNatClampNeg mm) ((tf6 (Int32.toNatClampNeg p2)) ||| (tf6 (Int32.toNatClampNeg p3)))))), (ta7, .inl (cyA G 1, 32768, .inl (upd tf7 (Int32.toNatClampNeg mm) (vp_nar .boolean 0))))] H := hP
                            have hD : va_D A [(t1, .inr (8, [.ref ta0, .ref ta1, .ref ta2, .ref ta3, .ref ta4, .ref ta5, .ref ta6, .ref ta7, .ref ta8, .int (mm + 1)])), (ta0, .inl (cyA G 0, 32768, .inl (upd tf0 (Int32.toNatClampNeg mm) p1))), (ta1, .inl (cyA G 0, 32768, .inl (upd tf1 (Int32.toNatClampNeg mm) p2))), (ta2, .inl (cyA G 0, 32768, .inl (upd tf2 (Int32.toNatClampNeg mm) p3))), (ta3, .inl (cyA G 0, 32768, .inl (upd tf3 (Int32.toNatClampNeg mm) ((1 + (tf3 (Int32.toNatClampNeg p2))) + (tf3 (Int32.toNatClampNeg p3)))))), (ta4, .inl (cyA G 0, 32768, .inl (upd tf4 (Int32.toNatClampNeg mm) (((((sa_1 (Int32.toNatClampNeg (p1 - 5))) * (tf4 (Int32.toNatClampNeg p2))) + ((sa_2 (Int32.toNatClampNeg (p1 - 5))) * (tf4 (Int32.toNatClampNeg p3)))) + (sa_3 (Int32.toNatClampNeg (p1 - 5)))) - ((((sa_1 (Int32.toNatClampNeg (p1 - 5))) * (tf4 (Int32.toNatClampNeg p2))) + ((sa_2 (Int32.toNatClampNeg (p1 - 5))) * (tf4 (Int32.toNatClampNeg p3)))) + (sa_3 (Int32.toNatClampNeg (p1 - 5)))) / 1000003 * 1000003)))), (ta5, .inl (cyA G 0, 32768, .inl (upd tf5 (Int32.toNatClampNeg mm) (if (tf5 (Int32.toNatClampNeg p2)) < (tf5 (Int32.toNatClampNeg p3)) then (tf5 (Int32.toNatClampNeg p3)) else (tf5 (Int32.toNatClampNeg p2)))))), (ta6, .inl (cyA G 0, 32768, .inl (upd tf6 (Int32.toNatClampNeg mm) ((tf6 (Int32.toNatClampNeg p2)) ||| (tf6 (Int32.toNatClampNeg p3)))))), (ta7, .inl (cyA G 1, 32768, .inl (upd tf7 (Int32.toNatClampNeg mm) (vp_nar .boolean 0))))] := hD
                            refine lv_iload hx hb dX9_pair_284 (lv_at hl 1 rfl) ?_
                            simp only [Option.some.injEq, Prod.mk.injEq] at hm
                            obtain ⟨rfl, rfl, rfl, rfl, rfl, rfl, rfl, rfl, rfl, rfl⟩ := hm
                            have hP9 := hP.sub (ws' := [(t1, .inr (8, [.ref ta0, .ref ta1, .ref ta2, .ref ta3, .ref ta4, .ref ta5, .ref ta6, .ref ta7, .ref ta8, .int (mm + 1)])), (ta0, .inl (cyA G 0, 32768, .inl (upd tf0 (Int32.toNatClampNeg mm) p1))), (ta1, .inl (cyA G 0, 32768, .inl (upd tf1 (Int32.toNatClampNeg mm) p2))), (ta2, .inl (cyA G 0, 32768, .inl (upd tf2 (Int32.toNatClampNeg mm) p3))), (ta3, .inl (cyA G 0, 32768, .inl (upd tf3 (Int32.toNatClampNeg mm) ((1 + (tf3 (Int32.toNatClampNeg p2))) + (tf3 (Int32.toNatClampNeg p3)))))), (ta4, .inl (cyA G 0, 32768, .inl (upd tf4 (Int32.toNatClampNeg mm) (((((sa_1 (Int32.toNatClampNeg (p1 - 5))) * (tf4 (Int32.toNatClampNeg p2))) + ((sa_2 (Int32.toNatClampNeg (p1 - 5))) * (tf4 (Int32.toNatClampNeg p3)))) + (sa_3 (Int32.toNatClampNeg (p1 - 5)))) - ((((sa_1 (Int32.toNatClampNeg (p1 - 5))) * (tf4 (Int32.toNatClampNeg p2))) + ((sa_2 (Int32.toNatClampNeg (p1 - 5))) * (tf4 (Int32.toNatClampNeg p3)))) + (sa_3 (Int32.toNatClampNeg (p1 - 5)))) / 1000003 * 1000003)))), (ta5, .inl (cyA G 0, 32768, .inl (upd tf5 (Int32.toNatClampNeg mm) (if (tf5 (Int32.toNatClampNeg p2)) < (tf5 (Int32.toNatClampNeg p3)) then (tf5 (Int32.toNatClampNeg p3)) else (tf5 (Int32.toNatClampNeg p2)))))), (ta6, .inl (cyA G 0, 32768, .inl (upd tf6 (Int32.toNatClampNeg mm) ((tf6 (Int32.toNatClampNeg p2)) ||| (tf6 (Int32.toNatClampNeg p3)))))), (ta7, .inl (cyA G 1, 32768, .inl (upd tf7 (Int32.toNatClampNeg mm) (vp_nar .boolean 0))))]) [0, 1, 2, 3, 4, 5, 6, 7, 8] rfl
                            have hD9 := hD.sub (ws' := [(t1, .inr (8, [.ref ta0, .ref ta1, .ref ta2, .ref ta3, .ref ta4, .ref ta5, .ref ta6, .ref ta7, .ref ta8, .int (mm + 1)])), (ta0, .inl (cyA G 0, 32768, .inl (upd tf0 (Int32.toNatClampNeg mm) p1))), (ta1, .inl (cyA G 0, 32768, .inl (upd tf1 (Int32.toNatClampNeg mm) p2))), (ta2, .inl (cyA G 0, 32768, .inl (upd tf2 (Int32.toNatClampNeg mm) p3))), (ta3, .inl (cyA G 0, 32768, .inl (upd tf3 (Int32.toNatClampNeg mm) ((1 + (tf3 (Int32.toNatClampNeg p2))) + (tf3 (Int32.toNatClampNeg p3)))))), (ta4, .inl (cyA G 0, 32768, .inl (upd tf4 (Int32.toNatClampNeg mm) (((((sa_1 (Int32.toNatClampNeg (p1 - 5))) * (tf4 (Int32.toNatClampNeg p2))) + ((sa_2 (Int32.toNatClampNeg (p1 - 5))) * (tf4 (Int32.toNatClampNeg p3)))) + (sa_3 (Int32.toNatClampNeg (p1 - 5)))) - ((((sa_1 (Int32.toNatClampNeg (p1 - 5))) * (tf4 (Int32.toNatClampNeg p2))) + ((sa_2 (Int32.toNatClampNeg (p1 - 5))) * (tf4 (Int32.toNatClampNeg p3)))) + (sa_3 (Int32.toNatClampNeg (p1 - 5)))) / 1000003 * 1000003)))), (ta5, .inl (cyA G 0, 32768, .inl (upd tf5 (Int32.toNatClampNeg mm) (if (tf5 (Int32.toNatClampNeg p2)) < (tf5 (Int32.toNatClampNeg p3)) then (tf5 (Int32.toNatClampNeg p3)) else (tf5 (Int32.toNatClampNeg p2)))))), (ta6, .inl (cyA G 0, 32768, .inl (upd tf6 (Int32.toNatClampNeg mm) ((tf6 (Int32.toNatClampNeg p2)) ||| (tf6 (Int32.toNatClampNeg p3)))))), (ta7, .inl (cyA G 1, 32768, .inl (upd tf7 (Int32.toNatClampNeg mm) (vp_nar .boolean 0))))]) [0, 1, 2, 3, 4, 5, 6, 7, 8] (by decide) rfl
                            refine W.widen (k := 0) (n := 0) (Nat.le_of_ble_eq_true rfl) (Nat.le_of_ble_eq_true rfl) ?_
                            exact W.iret (v := mm) hx hb hr (fun t ht hW => ⟨⟨mm, (), rfl, rfl, ⟨by rw [ht]; exact hP9, hD9⟩⟩, hS.F ht⟩) hS.2.2 dX9_pair_286 hlocks
                          · rw [if_pos c_56] at hm
                            refine lv_iconst (v := 1) hx hb dX9_pair_278 (by decide) ?_
                            refine lv_goto (tgt := 283) hx hb dX9_pair_279 (by decide) ?_
                            obtain ⟨b_58, hm⟩ := ite_some hm
                            refine va_zast hx hb hK hP hD hS 8 1 rfl rfl (inb_vp b_58) dX9_pair_283 (fun H locs hP hD hS => ?_)
                            have hP : va_P (DG G) clP3 [(t1, .inr (8, [.ref ta0, .ref ta1, .ref ta2, .ref ta3, .ref ta4, .ref ta5, .ref ta6, .ref ta7, .ref ta8, .int (mm + 1)])), (ta0, .inl (cyA G 0, 32768, .inl (upd tf0 (Int32.toNatClampNeg mm) p1))), (ta1, .inl (cyA G 0, 32768, .inl (upd tf1 (Int32.toNatClampNeg mm) p2))), (ta2, .inl (cyA G 0, 32768, .inl (upd tf2 (Int32.toNatClampNeg mm) p3))), (ta3, .inl (cyA G 0, 32768, .inl (upd tf3 (Int32.toNatClampNeg mm) ((1 + (tf3 (Int32.toNatClampNeg p2))) + (tf3 (Int32.toNatClampNeg p3)))))), (ta4, .inl (cyA G 0, 32768, .inl (upd tf4 (Int32.toNatClampNeg mm) (((((sa_1 (Int32.toNatClampNeg (p1 - 5))) * (tf4 (Int32.toNatClampNeg p2))) + ((sa_2 (Int32.toNatClampNeg (p1 - 5))) * (tf4 (Int32.toNatClampNeg p3)))) + (sa_3 (Int32.toNatClampNeg (p1 - 5)))) - ((((sa_1 (Int32.toNatClampNeg (p1 - 5))) * (tf4 (Int32.toNatClampNeg p2))) + ((sa_2 (Int32.toNatClampNeg (p1 - 5))) * (tf4 (Int32.toNatClampNeg p3)))) + (sa_3 (Int32.toNatClampNeg (p1 - 5)))) / 1000003 * 1000003)))), (ta5, .inl (cyA G 0, 32768, .inl (upd tf5 (Int32.toNatClampNeg mm) (if (tf5 (Int32.toNatClampNeg p2)) < (tf5 (Int32.toNatClampNeg p3)) then (tf5 (Int32.toNatClampNeg p3)) else (tf5 (Int32.toNatClampNeg p2)))))), (ta6, .inl (cyA G 0, 32768, .inl (upd tf6 (Int32.toNatClampNeg mm) ((tf6 (Int32.toNatClampNeg p2)) ||| (tf6 (Int32.toNatClampNeg p3)))))), (ta7, .inl (cyA G 1, 32768, .inl (upd tf7 (Int32.toNatClampNeg mm) (vp_nar .boolean 1))))] H := hP
                            have hD : va_D A [(t1, .inr (8, [.ref ta0, .ref ta1, .ref ta2, .ref ta3, .ref ta4, .ref ta5, .ref ta6, .ref ta7, .ref ta8, .int (mm + 1)])), (ta0, .inl (cyA G 0, 32768, .inl (upd tf0 (Int32.toNatClampNeg mm) p1))), (ta1, .inl (cyA G 0, 32768, .inl (upd tf1 (Int32.toNatClampNeg mm) p2))), (ta2, .inl (cyA G 0, 32768, .inl (upd tf2 (Int32.toNatClampNeg mm) p3))), (ta3, .inl (cyA G 0, 32768, .inl (upd tf3 (Int32.toNatClampNeg mm) ((1 + (tf3 (Int32.toNatClampNeg p2))) + (tf3 (Int32.toNatClampNeg p3)))))), (ta4, .inl (cyA G 0, 32768, .inl (upd tf4 (Int32.toNatClampNeg mm) (((((sa_1 (Int32.toNatClampNeg (p1 - 5))) * (tf4 (Int32.toNatClampNeg p2))) + ((sa_2 (Int32.toNatClampNeg (p1 - 5))) * (tf4 (Int32.toNatClampNeg p3)))) + (sa_3 (Int32.toNatClampNeg (p1 - 5)))) - ((((sa_1 (Int32.toNatClampNeg (p1 - 5))) * (tf4 (Int32.toNatClampNeg p2))) + ((sa_2 (Int32.toNatClampNeg (p1 - 5))) * (tf4 (Int32.toNatClampNeg p3)))) + (sa_3 (Int32.toNatClampNeg (p1 - 5)))) / 1000003 * 1000003)))), (ta5, .inl (cyA G 0, 32768, .inl (upd tf5 (Int32.toNatClampNeg mm) (if (tf5 (Int32.toNatClampNeg p2)) < (tf5 (Int32.toNatClampNeg p3)) then (tf5 (Int32.toNatClampNeg p3)) else (tf5 (Int32.toNatClampNeg p2)))))), (ta6, .inl (cyA G 0, 32768, .inl (upd tf6 (Int32.toNatClampNeg mm) ((tf6 (Int32.toNatClampNeg p2)) ||| (tf6 (Int32.toNatClampNeg p3)))))), (ta7, .inl (cyA G 1, 32768, .inl (upd tf7 (Int32.toNatClampNeg mm) (vp_nar .boolean 1))))] := hD
                            refine lv_iload hx hb dX9_pair_284 (lv_at hl 1 rfl) ?_
                            simp only [Option.some.injEq, Prod.mk.injEq] at hm
                            obtain ⟨rfl, rfl, rfl, rfl, rfl, rfl, rfl, rfl, rfl, rfl⟩ := hm
                            have hP9 := hP.sub (ws' := [(t1, .inr (8, [.ref ta0, .ref ta1, .ref ta2, .ref ta3, .ref ta4, .ref ta5, .ref ta6, .ref ta7, .ref ta8, .int (mm + 1)])), (ta0, .inl (cyA G 0, 32768, .inl (upd tf0 (Int32.toNatClampNeg mm) p1))), (ta1, .inl (cyA G 0, 32768, .inl (upd tf1 (Int32.toNatClampNeg mm) p2))), (ta2, .inl (cyA G 0, 32768, .inl (upd tf2 (Int32.toNatClampNeg mm) p3))), (ta3, .inl (cyA G 0, 32768, .inl (upd tf3 (Int32.toNatClampNeg mm) ((1 + (tf3 (Int32.toNatClampNeg p2))) + (tf3 (Int32.toNatClampNeg p3)))))), (ta4, .inl (cyA G 0, 32768, .inl (upd tf4 (Int32.toNatClampNeg mm) (((((sa_1 (Int32.toNatClampNeg (p1 - 5))) * (tf4 (Int32.toNatClampNeg p2))) + ((sa_2 (Int32.toNatClampNeg (p1 - 5))) * (tf4 (Int32.toNatClampNeg p3)))) + (sa_3 (Int32.toNatClampNeg (p1 - 5)))) - ((((sa_1 (Int32.toNatClampNeg (p1 - 5))) * (tf4 (Int32.toNatClampNeg p2))) + ((sa_2 (Int32.toNatClampNeg (p1 - 5))) * (tf4 (Int32.toNatClampNeg p3)))) + (sa_3 (Int32.toNatClampNeg (p1 - 5)))) / 1000003 * 1000003)))), (ta5, .inl (cyA G 0, 32768, .inl (upd tf5 (Int32.toNatClampNeg mm) (if (tf5 (Int32.toNatClampNeg p2)) < (tf5 (Int32.toNatClampNeg p3)) then (tf5 (Int32.toNatClampNeg p3)) else (tf5 (Int32.toNatClampNeg p2)))))), (ta6, .inl (cyA G 0, 32768, .inl (upd tf6 (Int32.toNatClampNeg mm) ((tf6 (Int32.toNatClampNeg p2)) ||| (tf6 (Int32.toNatClampNeg p3)))))), (ta7, .inl (cyA G 1, 32768, .inl (upd tf7 (Int32.toNatClampNeg mm) (vp_nar .boolean 1))))]) [0, 1, 2, 3, 4, 5, 6, 7, 8] rfl
                            have hD9 := hD.sub (ws' := [(t1, .inr (8, [.ref ta0, .ref ta1, .ref ta2, .ref ta3, .ref ta4, .ref ta5, .ref ta6, .ref ta7, .ref ta8, .int (mm + 1)])), (ta0, .inl (cyA G 0, 32768, .inl (upd tf0 (Int32.toNatClampNeg mm) p1))), (ta1, .inl (cyA G 0, 32768, .inl (upd tf1 (Int32.toNatClampNeg mm) p2))), (ta2, .inl (cyA G 0, 32768, .inl (upd tf2 (Int32.toNatClampNeg mm) p3))), (ta3, .inl (cyA G 0, 32768, .inl (upd tf3 (Int32.toNatClampNeg mm) ((1 + (tf3 (Int32.toNatClampNeg p2))) + (tf3 (Int32.toNatClampNeg p3)))))), (ta4, .inl (cyA G 0, 32768, .inl (upd tf4 (Int32.toNatClampNeg mm) (((((sa_1 (Int32.toNatClampNeg (p1 - 5))) * (tf4 (Int32.toNatClampNeg p2))) + ((sa_2 (Int32.toNatClampNeg (p1 - 5))) * (tf4 (Int32.toNatClampNeg p3)))) + (sa_3 (Int32.toNatClampNeg (p1 - 5)))) - ((((sa_1 (Int32.toNatClampNeg (p1 - 5))) * (tf4 (Int32.toNatClampNeg p2))) + ((sa_2 (Int32.toNatClampNeg (p1 - 5))) * (tf4 (Int32.toNatClampNeg p3)))) + (sa_3 (Int32.toNatClampNeg (p1 - 5)))) / 1000003 * 1000003)))), (ta5, .inl (cyA G 0, 32768, .inl (upd tf5 (Int32.toNatClampNeg mm) (if (tf5 (Int32.toNatClampNeg p2)) < (tf5 (Int32.toNatClampNeg p3)) then (tf5 (Int32.toNatClampNeg p3)) else (tf5 (Int32.toNatClampNeg p2)))))), (ta6, .inl (cyA G 0, 32768, .inl (upd tf6 (Int32.toNatClampNeg mm) ((tf6 (Int32.toNatClampNeg p2)) ||| (tf6 (Int32.toNatClampNeg p3)))))), (ta7, .inl (cyA G 1, 32768, .inl (upd tf7 (Int32.toNatClampNeg mm) (vp_nar .boolean 1))))]) [0, 1, 2, 3, 4, 5, 6, 7, 8] (by decide) rfl
                            refine W.widen (k := 0) (n := 0) (Nat.le_of_ble_eq_true rfl) (Nat.le_of_ble_eq_true rfl) ?_
                            exact W.iret (v := mm) hx hb hr (fun t ht hW => ⟨⟨mm, (), rfl, rfl, ⟨by rw [ht]; exact hP9, hD9⟩⟩, hS.F ht⟩) hS.2.2 dX9_pair_286 hlocks
                · rw [if_neg c_10] at hm
                  refine lv_iconst (v := (-1)) hx hb dX9_pair_65 (by decide) ?_
                  simp only [Option.some.injEq, Prod.mk.injEq] at hm
                  obtain ⟨rfl, rfl, rfl, rfl, rfl, rfl, rfl, rfl, rfl, rfl⟩ := hm
                  have hP9 := hP.sub (ws' := [(t1, .inr (8, [.ref ta0, .ref ta1, .ref ta2, .ref ta3, .ref ta4, .ref ta5, .ref ta6, .ref ta7, .ref ta8, .int mm])), (ta0, .inl (cyA G 0, 32768, .inl (tf0))), (ta1, .inl (cyA G 0, 32768, .inl (tf1))), (ta2, .inl (cyA G 0, 32768, .inl (tf2))), (ta3, .inl (cyA G 0, 32768, .inl (tf3))), (ta4, .inl (cyA G 0, 32768, .inl (tf4))), (ta5, .inl (cyA G 0, 32768, .inl (tf5))), (ta6, .inl (cyA G 0, 32768, .inl (tf6))), (ta7, .inl (cyA G 1, 32768, .inl (tf7)))]) [0, 1, 2, 3, 4, 5, 6, 7, 8] rfl
                  have hD9 := hD.sub (ws' := [(t1, .inr (8, [.ref ta0, .ref ta1, .ref ta2, .ref ta3, .ref ta4, .ref ta5, .ref ta6, .ref ta7, .ref ta8, .int mm])), (ta0, .inl (cyA G 0, 32768, .inl (tf0))), (ta1, .inl (cyA G 0, 32768, .inl (tf1))), (ta2, .inl (cyA G 0, 32768, .inl (tf2))), (ta3, .inl (cyA G 0, 32768, .inl (tf3))), (ta4, .inl (cyA G 0, 32768, .inl (tf4))), (ta5, .inl (cyA G 0, 32768, .inl (tf5))), (ta6, .inl (cyA G 0, 32768, .inl (tf6))), (ta7, .inl (cyA G 1, 32768, .inl (tf7)))]) [0, 1, 2, 3, 4, 5, 6, 7, 8] (by decide) rfl
                  refine W.widen (k := 0) (n := 0) (Nat.le_of_ble_eq_true rfl) (Nat.le_of_ble_eq_true rfl) ?_
                  exact W.iret (v := (-1)) hx hb hr (fun t ht hW => ⟨⟨(-1), (), rfl, rfl, ⟨by rw [ht]; exact hP9, hD9⟩⟩, hS.F ht⟩) hS.2.2 dX9_pair_66 hlocks
      · rw [if_neg c_3] at hm
        refine lv_iconst (v := (-1)) hx hb dX9_pair_20 (by decide) ?_
        simp only [Option.some.injEq, Prod.mk.injEq] at hm
        obtain ⟨rfl, rfl, rfl, rfl, rfl, rfl, rfl, rfl, rfl, rfl⟩ := hm
        have hP9 := hP.sub (ws' := [(t1, .inr (8, [.ref ta0, .ref ta1, .ref ta2, .ref ta3, .ref ta4, .ref ta5, .ref ta6, .ref ta7, .ref ta8, .int mm])), (ta0, .inl (cyA G 0, 32768, .inl (tf0))), (ta1, .inl (cyA G 0, 32768, .inl (tf1))), (ta2, .inl (cyA G 0, 32768, .inl (tf2))), (ta3, .inl (cyA G 0, 32768, .inl (tf3))), (ta4, .inl (cyA G 0, 32768, .inl (tf4))), (ta5, .inl (cyA G 0, 32768, .inl (tf5))), (ta6, .inl (cyA G 0, 32768, .inl (tf6))), (ta7, .inl (cyA G 1, 32768, .inl (tf7)))]) [0, 1, 2, 3, 4, 5, 6, 7, 8] rfl
        have hD9 := hD.sub (ws' := [(t1, .inr (8, [.ref ta0, .ref ta1, .ref ta2, .ref ta3, .ref ta4, .ref ta5, .ref ta6, .ref ta7, .ref ta8, .int mm])), (ta0, .inl (cyA G 0, 32768, .inl (tf0))), (ta1, .inl (cyA G 0, 32768, .inl (tf1))), (ta2, .inl (cyA G 0, 32768, .inl (tf2))), (ta3, .inl (cyA G 0, 32768, .inl (tf3))), (ta4, .inl (cyA G 0, 32768, .inl (tf4))), (ta5, .inl (cyA G 0, 32768, .inl (tf5))), (ta6, .inl (cyA G 0, 32768, .inl (tf6))), (ta7, .inl (cyA G 1, 32768, .inl (tf7)))]) [0, 1, 2, 3, 4, 5, 6, 7, 8] (by decide) rfl
        refine W.widen (k := 0) (n := 0) (Nat.le_of_ble_eq_true rfl) (Nat.le_of_ble_eq_true rfl) ?_
        exact W.iret (v := (-1)) hx hb hr (fun t ht hW => ⟨⟨(-1), (), rfl, rfl, ⟨by rw [ht]; exact hP9, hD9⟩⟩, hS.F ht⟩) hS.2.2 dX9_pair_21 hlocks
