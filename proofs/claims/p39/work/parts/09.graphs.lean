def f_X8_push  (tn : Nat) (tm : Int32) (tf : Nat → Int32) (p1 : Int32) : Option (Int32 × Int32 × (Nat → Int32)) := (if tm < (Int32.ofNat tn) then (if inb tm tn = true then some (1, (tm + 1), upd tf (Int32.toNatClampNeg tm) p1) else none) else some (0, tm, tf))
set_option maxHeartbeats 4000000 in
set_option maxRecDepth 100000 in
theorem k_X8_push (l : Launch) (hfl : l.stackTraces = false) (G : GC) (tn : Nat) (h1 : Nat) (p1 : Int32) (tt : Nat) (tm : Int32) (tf : Nat → Int32) (r9 : Int32) (tm_9 : Int32) (tf_9 : Nat → Int32) (hm : f_X8_push tn tm tf p1 = some (r9, tm_9, tf_9)) (sz : Nat) : Met l yX8_push (Cond.code yX8_push cX8_push 2 (some .boolean) :: W0) ({ frames := 0, cells := 0, slots := 0, locals := 0 }) (va_Pc [.ref h1, .int p1] (WD G [(h1, .inr (7, [.ref tt, .int tm])), (tt, .inl (cyA G 0, tn, .inl (tf)))] sz)) (va_Qi (fun (r : Int32) (_ : Unit) => r = r9) (fun _ t => PW G (va_A [(h1, .inr (7, [.ref tt, .int tm])), (tt, .inl (cyA G 0, tn, .inl (tf)))] sz) [(h1, .inr (7, [.ref tt, .int tm_9])), (tt, .inl (cyA G 0, tn, .inl (tf_9)))] t) (va_A [(h1, .inr (7, [.ref tt, .int tm])), (tt, .inl (cyA G 0, tn, .inl (tf)))] sz)) 0 0 (va_A [(h1, .inr (7, [.ref tt, .int tm])), (tt, .inl (cyA G 0, tn, .inl (tf)))] sz) := by
  rw [f_X8_push] at hm
  refine Met.ofW (cc := cX8_push) (maxL := 2) (ret := (some .boolean)) (by decide) rfl ?_
  intro p e s m args below meth c s₁ B hml hv
  obtain ⟨rfl, hsz, hP, hK, hD0, hE⟩ := hv
  have hx := B.exec
  have hb := B.bytes
  have hr := B.returns
  have hts := w0_tail B.pre
  have hown : s.vm.findClass RX8 = some m.cls := findClass_of_methodNamed B.named
  have hlocks := B.notSynchronized
  subst hsz
  have hD := hD0.self (sz := s.heap.size)
  generalize hAe : va_A [(h1, .inr (7, [.ref tt, .int tm])), (tt, .inl (cyA G 0, tn, .inl (tf)))] s.heap.size = A at hD hE ⊢
  have hA : ∀ q : Nat, s.heap.size ≤ q → A q := fun q h => by rw [← hAe]; exact Or.inr h
  have hS : va_S A s.heap s.heap [] := va_S.rf
  obtain ⟨H, hHe⟩ : ∃ H : Heap, H = s.heap := ⟨_, rfl⟩
  have hP : va_P (DG G) clP3 [(h1, .inr (7, [.ref tt, .int tm])), (tt, .inl (cyA G 0, tn, .inl (tf)))] H := by rw [hHe]; exact hP
  have hS : va_S A s.heap H [] := by rw [hHe]; exact hS
  have hl := lv_entry ([.ref h1, .int p1]) (n := 2) (Nat.le_of_ble_eq_true rfl)
  rw [lg_entry_eq, ← hHe]
  generalize (lg_sl ([.ref h1, .int p1]) ++ List.replicate (2 - (lg_sl ([.ref h1, .int p1])).length) Slot.unset).toArray = ls at hl ⊢
  have hl : lv_has ls 2 [(0, .ref h1), (1, .int p1)] := hl
  refine lv_aload_n hx hb dX8_push_0 rfl (lv_at hl 0 rfl) ?_
  refine va_get (D := DG G) (ci := 7) (v := .int tm) (C := RX8) (T := TX8) (N := 2) hx hb hts inW_X8 hown hK hP 0 rfl rfl 1 (by decide) (hts _ wm185) (fun _ h9 => h9) rfl dX8_push_1 ?_
  refine lv_aload_n hx hb dX8_push_4 rfl (lv_at hl 0 rfl) ?_
  refine va_get (D := DG G) (ci := 7) (v := .ref tt) (C := RX8) (T := TX8) (N := 2) hx hb hts inW_X8 hown hK hP 0 rfl rfl 0 (by decide) (hts _ wm184) (fun _ h9 => h9) rfl dX8_push_5 ?_
  refine va_alen (v := Int32.ofNat tn) hx hb hK hP 1 0 rfl rfl rfl dX8_push_8 ?_
  refine lv_icmp_lt (tgt := 14) hx hb dX8_push_9 (by decide) (fun c_1 => ?_) (fun c_1 => ?_)
  · rw [if_pos c_1] at hm
    refine lv_aload_n hx hb dX8_push_14 rfl (lv_at hl 0 rfl) ?_
    refine va_get (D := DG G) (ci := 7) (v := .ref tt) (C := RX8) (T := TX8) (N := 2) hx hb hts inW_X8 hown hK hP 0 rfl rfl 0 (by decide) (hts _ wm184) (fun _ h9 => h9) rfl dX8_push_15 ?_
    refine lv_aload_n hx hb dX8_push_18 rfl (lv_at hl 0 rfl) ?_
    refine va_get (D := DG G) (ci := 7) (v := .int tm) (C := RX8) (T := TX8) (N := 2) hx hb hts inW_X8 hown hK hP 0 rfl rfl 1 (by decide) (hts _ wm185) (fun _ h9 => h9) rfl dX8_push_19 ?_
    refine lv_iload_n hx hb dX8_push_22 rfl (lv_at hl 1 rfl) ?_
    obtain ⟨b_2, hm⟩ := ite_some hm
    refine va_iast hx hb hK hP hD hS 1 0 rfl rfl (inb_vp b_2) dX8_push_23 (fun H locs hP hD hS => ?_)
    have hP : va_P (DG G) clP3 [(h1, .inr (7, [.ref tt, .int tm])), (tt, .inl (cyA G 0, tn, .inl (upd tf (Int32.toNatClampNeg tm) p1)))] H := hP
    have hD : va_D A [(h1, .inr (7, [.ref tt, .int tm])), (tt, .inl (cyA G 0, tn, .inl (upd tf (Int32.toNatClampNeg tm) p1)))] := hD
    refine lv_aload_n hx hb dX8_push_24 rfl (lv_at hl 0 rfl) ?_
    refine lv_dup hx hb dX8_push_25 rfl ?_
    refine va_get (D := DG G) (ci := 7) (v := .int tm) (C := RX8) (T := TX8) (N := 2) hx hb hts inW_X8 hown hK hP 0 rfl rfl 1 (by decide) (hts _ wm185) (fun _ h9 => h9) rfl dX8_push_26 ?_
    refine lv_iconst (v := 1) hx hb dX8_push_29 (by decide) ?_
    refine lv_iadd hx hb dX8_push_30 ?_
    refine va_put (D := DG G) (ci := 7) (v := .int (tm + 1)) (ty := tyX8 1) (C := RX8) (T := TX8) (N := 2) hx hb hts inW_X8 tyX8 tyX8_ok nmX8 hown hK hP hD hS 0 rfl rfl 1 (by decide) (hts _ wm185) (fun _ h9 => h9) rfl (by decide +kernel) rfl rfl (Nat.le_of_ble_eq_true rfl) dX8_push_31 (fun H locs hP hD hS => ?_)
    have hP : va_P (DG G) clP3 [(h1, .inr (7, [.ref tt, .int (tm + 1)])), (tt, .inl (cyA G 0, tn, .inl (upd tf (Int32.toNatClampNeg tm) p1)))] H := hP
    have hD : va_D A [(h1, .inr (7, [.ref tt, .int (tm + 1)])), (tt, .inl (cyA G 0, tn, .inl (upd tf (Int32.toNatClampNeg tm) p1)))] := hD
    refine lv_iconst (v := 1) hx hb dX8_push_34 (by decide) ?_
    simp only [Option.some.injEq, Prod.mk.injEq] at hm
    obtain ⟨rfl, rfl, rfl⟩ := hm
    have hP9 := hP.sub (ws' := [(h1, .inr (7, [.ref tt, .int (tm + 1)])), (tt, .inl (cyA G 0, tn, .inl (upd tf (Int32.toNatClampNeg tm) p1)))]) [0, 1] rfl
    have hD9 := hD.sub (ws' := [(h1, .inr (7, [.ref tt, .int (tm + 1)])), (tt, .inl (cyA G 0, tn, .inl (upd tf (Int32.toNatClampNeg tm) p1)))]) [0, 1] (by decide) rfl
    refine W.widen (k := 0) (n := 0) (Nat.le_of_ble_eq_true rfl) (Nat.le_of_ble_eq_true rfl) ?_
    exact W.zret (v := 1) (ty := .boolean) hx hb hr (by decide) (fun t ht hW => ⟨⟨1, (), rfl, rfl, ⟨by rw [ht]; exact hP9, hD9⟩⟩, hS.F ht⟩) hS.2.2 dX8_push_35 hlocks
  · rw [if_neg c_1] at hm
    refine lv_iconst (v := 0) hx hb dX8_push_12 (by decide) ?_
    simp only [Option.some.injEq, Prod.mk.injEq] at hm
    obtain ⟨rfl, rfl, rfl⟩ := hm
    have hP9 := hP.sub (ws' := [(h1, .inr (7, [.ref tt, .int tm])), (tt, .inl (cyA G 0, tn, .inl (tf)))]) [0, 1] rfl
    have hD9 := hD.sub (ws' := [(h1, .inr (7, [.ref tt, .int tm])), (tt, .inl (cyA G 0, tn, .inl (tf)))]) [0, 1] (by decide) rfl
    refine W.widen (k := 0) (n := 0) (Nat.le_of_ble_eq_true rfl) (Nat.le_of_ble_eq_true rfl) ?_
    exact W.zret (v := 0) (ty := .boolean) hx hb hr (by decide) (fun t ht hW => ⟨⟨0, (), rfl, rfl, ⟨by rw [ht]; exact hP9, hD9⟩⟩, hS.F ht⟩) hS.2.2 dX8_push_13 hlocks
def f_X8_pop  (tm : Int32)  : Option (Int32) := (if tm ≤ 0 then some tm else some ((tm - 1)))
set_option maxHeartbeats 4000000 in
set_option maxRecDepth 100000 in
theorem k_X8_pop (l : Launch) (hfl : l.stackTraces = false) (G : GC) (h1 : Nat) (tt : Nat) (tm : Int32) (tm_9 : Int32) (hm : f_X8_pop tm = some tm_9) (sz : Nat) : Met l yX8_pop (Cond.code yX8_pop cX8_pop 1 none :: W0) ({ frames := 0, cells := 0, slots := 0, locals := 0 }) (va_Pc [.ref h1] (WD G [(h1, .inr (7, [.ref tt, .int tm]))] sz)) (va_Qv (fun _ : Unit => True) (fun _ t => PW G (va_A [(h1, .inr (7, [.ref tt, .int tm]))] sz) [(h1, .inr (7, [.ref tt, .int tm_9]))] t) (va_A [(h1, .inr (7, [.ref tt, .int tm]))] sz)) 0 0 (va_A [(h1, .inr (7, [.ref tt, .int tm]))] sz) := by
  rw [f_X8_pop] at hm
  refine Met.ofW (cc := cX8_pop) (maxL := 1) (ret := none) (by decide) rfl ?_
  intro p e s m args below meth c s₁ B hml hv
  obtain ⟨rfl, hsz, hP, hK, hD0, hE⟩ := hv
  have hx := B.exec
  have hb := B.bytes
  have hr := B.returns
  have hts := w0_tail B.pre
  have hown : s.vm.findClass RX8 = some m.cls := findClass_of_methodNamed B.named
  have hlocks := B.notSynchronized
  subst hsz
  have hD := hD0.self (sz := s.heap.size)
  generalize hAe : va_A [(h1, .inr (7, [.ref tt, .int tm]))] s.heap.size = A at hD hE ⊢
  have hA : ∀ q : Nat, s.heap.size ≤ q → A q := fun q h => by rw [← hAe]; exact Or.inr h
  have hS : va_S A s.heap s.heap [] := va_S.rf
  obtain ⟨H, hHe⟩ : ∃ H : Heap, H = s.heap := ⟨_, rfl⟩
  have hP : va_P (DG G) clP3 [(h1, .inr (7, [.ref tt, .int tm]))] H := by rw [hHe]; exact hP
  have hS : va_S A s.heap H [] := by rw [hHe]; exact hS
  have hl := lv_entry ([.ref h1]) (n := 1) (Nat.le_of_ble_eq_true rfl)
  rw [lg_entry_eq, ← hHe]
  generalize (lg_sl ([.ref h1]) ++ List.replicate (1 - (lg_sl ([.ref h1])).length) Slot.unset).toArray = ls at hl ⊢
  have hl : lv_has ls 1 [(0, .ref h1)] := hl
  refine lv_aload_n hx hb dX8_pop_0 rfl (lv_at hl 0 rfl) ?_
  refine va_get (D := DG G) (ci := 7) (v := .int tm) (C := RX8) (T := TX8) (N := 2) hx hb hts inW_X8 hown hK hP 0 rfl rfl 1 (by decide) (hts _ wm185) (fun _ h9 => h9) rfl dX8_pop_1 ?_
  refine lv_if_le (tgt := 17) hx hb dX8_pop_4 (by decide) (fun c_1 => ?_) (fun c_1 => ?_)
  · rw [if_pos c_1] at hm
    obtain rfl := Option.some.inj hm
    have hP9 := hP.sub (ws' := [(h1, .inr (7, [.ref tt, .int tm]))]) [0] rfl
    have hD9 := hD.sub (ws' := [(h1, .inr (7, [.ref tt, .int tm]))]) [0] (by decide) rfl
    refine W.widen (k := 0) (n := 0) (Nat.le_of_ble_eq_true rfl) (Nat.le_of_ble_eq_true rfl) ?_
    exact W.vret hx hb hr (fun t ht hW => ⟨⟨(), rfl, trivial, ⟨by rw [ht]; exact hP9, hD9⟩⟩, hS.F ht⟩) hS.2.2 dX8_pop_17 hlocks
  · rw [if_neg c_1] at hm
    refine lv_aload_n hx hb dX8_pop_7 rfl (lv_at hl 0 rfl) ?_
    refine lv_dup hx hb dX8_pop_8 rfl ?_
    refine va_get (D := DG G) (ci := 7) (v := .int tm) (C := RX8) (T := TX8) (N := 2) hx hb hts inW_X8 hown hK hP 0 rfl rfl 1 (by decide) (hts _ wm185) (fun _ h9 => h9) rfl dX8_pop_9 ?_
    refine lv_iconst (v := 1) hx hb dX8_pop_12 (by decide) ?_
    refine lv_isub hx hb dX8_pop_13 ?_
    refine va_put (D := DG G) (ci := 7) (v := .int (tm - 1)) (ty := tyX8 1) (C := RX8) (T := TX8) (N := 2) hx hb hts inW_X8 tyX8 tyX8_ok nmX8 hown hK hP hD hS 0 rfl rfl 1 (by decide) (hts _ wm185) (fun _ h9 => h9) rfl (by decide +kernel) rfl rfl (Nat.le_of_ble_eq_true rfl) dX8_pop_14 (fun H locs hP hD hS => ?_)
    have hP : va_P (DG G) clP3 [(h1, .inr (7, [.ref tt, .int (tm - 1)]))] H := hP
    have hD : va_D A [(h1, .inr (7, [.ref tt, .int (tm - 1)]))] := hD
    obtain rfl := Option.some.inj hm
    have hP9 := hP.sub (ws' := [(h1, .inr (7, [.ref tt, .int (tm - 1)]))]) [0] rfl
    have hD9 := hD.sub (ws' := [(h1, .inr (7, [.ref tt, .int (tm - 1)]))]) [0] (by decide) rfl
    refine W.widen (k := 0) (n := 0) (Nat.le_of_ble_eq_true rfl) (Nat.le_of_ble_eq_true rfl) ?_
    exact W.vret hx hb hr (fun t ht hW => ⟨⟨(), rfl, trivial, ⟨by rw [ht]; exact hP9, hD9⟩⟩, hS.F ht⟩) hS.2.2 dX8_pop_17 hlocks
def f_X8_typeAt  (tn : Nat) (tm : Int32) (tf : Nat → Int32) (p1 : Int32) : Option (Int32) := (if p1 < 0 then some (-1) else (if tm ≤ p1 then some (-1) else (if inb p1 tn = true then some ((tf (Int32.toNatClampNeg p1))) else none)))
set_option maxHeartbeats 4000000 in
set_option maxRecDepth 100000 in
theorem k_X8_typeAt (l : Launch) (hfl : l.stackTraces = false) (G : GC) (tn : Nat) (h1 : Nat) (p1 : Int32) (tt : Nat) (tm : Int32) (tf : Nat → Int32) (r9 : Int32) (hm : f_X8_typeAt tn tm tf p1 = some r9) (sz : Nat) : Met l yX8_typeAt (Cond.code yX8_typeAt cX8_typeAt 2 (some .int) :: W0) ({ frames := 0, cells := 0, slots := 0, locals := 0 }) (va_Pc [.ref h1, .int p1] (WD G [(h1, .inr (7, [.ref tt, .int tm])), (tt, .inl (cyA G 0, tn, .inl (tf)))] sz)) (va_Qi (fun (r : Int32) (_ : Unit) => r = r9) (fun _ t => PW G (va_A [(h1, .inr (7, [.ref tt, .int tm])), (tt, .inl (cyA G 0, tn, .inl (tf)))] sz) [(h1, .inr (7, [.ref tt, .int tm])), (tt, .inl (cyA G 0, tn, .inl (tf)))] t) (va_A [(h1, .inr (7, [.ref tt, .int tm])), (tt, .inl (cyA G 0, tn, .inl (tf)))] sz)) 0 0 (va_A [(h1, .inr (7, [.ref tt, .int tm])), (tt, .inl (cyA G 0, tn, .inl (tf)))] sz) := by
  rw [f_X8_typeAt] at hm
  refine Met.ofW (cc := cX8_typeAt) (maxL := 2) (ret := (some .int)) (by decide) rfl ?_
  intro p e s m args below meth c s₁ B hml hv
  obtain ⟨rfl, hsz, hP, hK, hD0, hE⟩ := hv
  have hx := B.exec
  have hb := B.bytes
  have hr := B.returns
  have hts := w0_tail B.pre
  have hown : s.vm.findClass RX8 = some m.cls := findClass_of_methodNamed B.named
  have hlocks := B.notSynchronized
  subst hsz
  have hD := hD0.self (sz := s.heap.size)
  generalize hAe : va_A [(h1, .inr (7, [.ref tt, .int tm])), (tt, .inl (cyA G 0, tn, .inl (tf)))] s.heap.size = A at hD hE ⊢
  have hA : ∀ q : Nat, s.heap.size ≤ q → A q := fun q h => by rw [← hAe]; exact Or.inr h
  have hS : va_S A s.heap s.heap [] := va_S.rf
  obtain ⟨H, hHe⟩ : ∃ H : Heap, H = s.heap := ⟨_, rfl⟩
  have hP : va_P (DG G) clP3 [(h1, .inr (7, [.ref tt, .int tm])), (tt, .inl (cyA G 0, tn, .inl (tf)))] H := by rw [hHe]; exact hP
  have hS : va_S A s.heap H [] := by rw [hHe]; exact hS
  have hl := lv_entry ([.ref h1, .int p1]) (n := 2) (Nat.le_of_ble_eq_true rfl)
  rw [lg_entry_eq, ← hHe]
  generalize (lg_sl ([.ref h1, .int p1]) ++ List.replicate (2 - (lg_sl ([.ref h1, .int p1])).length) Slot.unset).toArray = ls at hl ⊢
  have hl : lv_has ls 2 [(0, .ref h1), (1, .int p1)] := hl
  refine lv_iload_n hx hb dX8_typeAt_0 rfl (lv_at hl 1 rfl) ?_
  refine lv_if_lt (tgt := 21) hx hb dX8_typeAt_1 (by decide) (fun c_1 => ?_) (fun c_1 => ?_)
  · rw [if_pos c_1] at hm
    refine lv_iconst (v := (-1)) hx hb dX8_typeAt_21 (by decide) ?_
    obtain rfl := Option.some.inj hm
    have hP9 := hP.sub (ws' := [(h1, .inr (7, [.ref tt, .int tm])), (tt, .inl (cyA G 0, tn, .inl (tf)))]) [0, 1] rfl
    have hD9 := hD.sub (ws' := [(h1, .inr (7, [.ref tt, .int tm])), (tt, .inl (cyA G 0, tn, .inl (tf)))]) [0, 1] (by decide) rfl
    refine W.widen (k := 0) (n := 0) (Nat.le_of_ble_eq_true rfl) (Nat.le_of_ble_eq_true rfl) ?_
    exact W.iret (v := (-1)) hx hb hr (fun t ht hW => ⟨⟨(-1), (), rfl, rfl, ⟨by rw [ht]; exact hP9, hD9⟩⟩, hS.F ht⟩) hS.2.2 dX8_typeAt_22 hlocks
  · rw [if_neg c_1] at hm
    refine lv_iload_n hx hb dX8_typeAt_4 rfl (lv_at hl 1 rfl) ?_
    refine lv_aload_n hx hb dX8_typeAt_5 rfl (lv_at hl 0 rfl) ?_
    refine va_get (D := DG G) (ci := 7) (v := .int tm) (C := RX8) (T := TX8) (N := 2) hx hb hts inW_X8 hown hK hP 0 rfl rfl 1 (by decide) (hts _ wm185) (fun _ h9 => h9) rfl dX8_typeAt_6 ?_
    refine lv_icmp_ge (tgt := 21) hx hb dX8_typeAt_9 (by decide) (fun c_2 => ?_) (fun c_2 => ?_)
    · rw [if_pos c_2] at hm
      refine lv_iconst (v := (-1)) hx hb dX8_typeAt_21 (by decide) ?_
      obtain rfl := Option.some.inj hm
      have hP9 := hP.sub (ws' := [(h1, .inr (7, [.ref tt, .int tm])), (tt, .inl (cyA G 0, tn, .inl (tf)))]) [0, 1] rfl
      have hD9 := hD.sub (ws' := [(h1, .inr (7, [.ref tt, .int tm])), (tt, .inl (cyA G 0, tn, .inl (tf)))]) [0, 1] (by decide) rfl
      refine W.widen (k := 0) (n := 0) (Nat.le_of_ble_eq_true rfl) (Nat.le_of_ble_eq_true rfl) ?_
      exact W.iret (v := (-1)) hx hb hr (fun t ht hW => ⟨⟨(-1), (), rfl, rfl, ⟨by rw [ht]; exact hP9, hD9⟩⟩, hS.F ht⟩) hS.2.2 dX8_typeAt_22 hlocks
    · rw [if_neg c_2] at hm
      refine lv_aload_n hx hb dX8_typeAt_12 rfl (lv_at hl 0 rfl) ?_
      refine va_get (D := DG G) (ci := 7) (v := .ref tt) (C := RX8) (T := TX8) (N := 2) hx hb hts inW_X8 hown hK hP 0 rfl rfl 0 (by decide) (hts _ wm184) (fun _ h9 => h9) rfl dX8_typeAt_13 ?_
      refine lv_iload_n hx hb dX8_typeAt_16 rfl (lv_at hl 1 rfl) ?_
      obtain ⟨b_3, hm⟩ := ite_some hm
      refine va_iald hx hb hK hP 1 0 rfl rfl (inb_vp b_3) dX8_typeAt_17 ?_
      refine lv_goto (tgt := 22) hx hb dX8_typeAt_18 (by decide) ?_
      obtain rfl := Option.some.inj hm
      have hP9 := hP.sub (ws' := [(h1, .inr (7, [.ref tt, .int tm])), (tt, .inl (cyA G 0, tn, .inl (tf)))]) [0, 1] rfl
      have hD9 := hD.sub (ws' := [(h1, .inr (7, [.ref tt, .int tm])), (tt, .inl (cyA G 0, tn, .inl (tf)))]) [0, 1] (by decide) rfl
      refine W.widen (k := 0) (n := 0) (Nat.le_of_ble_eq_true rfl) (Nat.le_of_ble_eq_true rfl) ?_
      exact W.iret (v := (tf (Int32.toNatClampNeg p1))) hx hb hr (fun t ht hW => ⟨⟨(tf (Int32.toNatClampNeg p1)), (), rfl, rfl, ⟨by rw [ht]; exact hP9, hD9⟩⟩, hS.F ht⟩) hS.2.2 dX8_typeAt_22 hlocks
def f_X8_become_L7 (tn : Nat) (un : Nat) : Nat → (Int32) → (Nat → Int32) → (Int32) → (Nat → Int32) → (Int32) → Option (Int32 × (Nat → Int32) × Int32 × (Nat → Int32))
  | 0, _, _, _, _, _ => none
  | n + 1, tm, tf, um, uf, v2 => (if um ≤ v2 then some (tm, tf, um, uf) else (if inb v2 un = true then (Option.bind (f_X8_push tn tm tf (uf (Int32.toNatClampNeg v2))) (fun q_3 => (f_X8_become_L7 tn un n q_3.2.1 q_3.2.2 um uf (v2 + 1)))) else none))
def f_X8_become  (tn : Nat) (un : Nat) (tm : Int32) (tf : Nat → Int32) (um : Int32) (uf : Nat → Int32)  : Option (Int32 × (Nat → Int32) × Int32 × (Nat → Int32)) := (f_X8_become_L7 tn un 100000 0 tf um uf 0)
set_option maxHeartbeats 4000000 in
set_option maxRecDepth 100000 in
theorem kl_X8_become_7 {l : Launch} (hfl : l.stackTraces = false) {G : GC} {tn : Nat} {un : Nat} {h1 : Nat} {h2 : Nat} {tt : Nat} {tu : Nat}  {A : Nat → Prop} {p : Program} {e : Env} {s : State} {m : MethodId} {args : Array Value} {below : List Frame} {meth : Method} {c : Code} (hx : p.tables.exec = Jvm.exec) (hb : c.code = cX8_become) (hr : meth.sig.returnType = none) (hml : c.maxLocals = 3) (hown : s.vm.findClass RX8 = some m.cls) (hts : ∀ w ∈ W0, w.before args s = true) (hlocks : meth.locks = false) (hA : ∀ q : Nat, s.heap.size ≤ q → A q) (hE : EV G A s s.heap) (hK : va_K (DG G) clP3 (TY G) s) (tm_9 : Int32) (tf_9 : Nat → Int32) (um_9 : Int32) (uf_9 : Nat → Int32) : ∀ (n : Nat) (tm : Int32) (tf : Nat → Int32) (um : Int32) (uf : Nat → Int32) (v2 : Int32) (H : Heap) (locs : List Loc), va_P (DG G) clP3 [(h1, .inr (7, [.ref tt, .int tm])), (tt, .inl (cyA G 0, tn, .inl (tf))), (h2, .inr (7, [.ref tu, .int um])), (tu, .inl (cyA G 0, un, .inl (uf)))] H → va_D A [(h1, .inr (7, [.ref tt, .int tm])), (tt, .inl (cyA G 0, tn, .inl (tf))), (h2, .inr (7, [.ref tu, .int um])), (tu, .inl (cyA G 0, un, .inl (uf)))] → va_S A s.heap H locs → ∀ (ls : Array Slot), lv_has ls 3 [(0, .ref h1), (1, .ref h2), (2, .int v2)] → f_X8_become_L7 tn un n tm tf um uf v2 = some (tm_9, tf_9, um_9, uf_9) → W p l e ({ frames := 1, cells := 0, slots := 0, locals := 21 }) s m args below meth c H locs 0 0 (MQ below (va_Qv (fun _ : Unit => True) (fun _ t => PW G A [(h1, .inr (7, [.ref tt, .int tm_9])), (tt, .inl (cyA G 0, tn, .inl (tf_9))), (h2, .inr (7, [.ref tu, .int um_9])), (tu, .inl (cyA G 0, un, .inl (uf_9)))] t) A) args s 0 0 A) (F0 m 7 ls []) := by
  intro n
  induction n with
  | zero =>
    intro tm tf um uf v2 H locs hP hD hS ls hl hm
    rw [f_X8_become_L7] at hm
    cases hm
  | succ n ih =>
    intro tm tf um uf v2 H locs hP hD hS ls hl hm
    rw [f_X8_become_L7] at hm
    refine lv_iload_n hx hb dX8_become_7 rfl (lv_at hl 2 rfl) ?_
    refine lv_aload_n hx hb dX8_become_8 rfl (lv_at hl 1 rfl) ?_
    refine va_get (D := DG G) (ci := 7) (v := .int um) (C := RX8) (T := TX8) (N := 2) hx hb hts inW_X8 hown hK hP 2 rfl rfl 1 (by decide) (hts _ wm185) (fun _ h9 => h9) rfl dX8_become_9 ?_
    refine lv_icmp_ge (tgt := 32) hx hb dX8_become_12 (by decide) (fun c_1 => ?_) (fun c_1 => ?_)
    · rw [if_pos c_1] at hm
      simp only [Option.some.injEq, Prod.mk.injEq] at hm
      obtain ⟨rfl, rfl, rfl, rfl⟩ := hm
      have hP9 := hP.sub (ws' := [(h1, .inr (7, [.ref tt, .int tm])), (tt, .inl (cyA G 0, tn, .inl (tf))), (h2, .inr (7, [.ref tu, .int um])), (tu, .inl (cyA G 0, un, .inl (uf)))]) [0, 1, 2, 3] rfl
      have hD9 := hD.sub (ws' := [(h1, .inr (7, [.ref tt, .int tm])), (tt, .inl (cyA G 0, tn, .inl (tf))), (h2, .inr (7, [.ref tu, .int um])), (tu, .inl (cyA G 0, un, .inl (uf)))]) [0, 1, 2, 3] (by decide) rfl
      refine W.widen (k := 0) (n := 0) (Nat.le_of_ble_eq_true rfl) (Nat.le_of_ble_eq_true rfl) ?_
      exact W.vret hx hb hr (fun t ht hW => ⟨⟨(), rfl, trivial, ⟨by rw [ht]; exact hP9, hD9⟩⟩, hS.F ht⟩) hS.2.2 dX8_become_32 hlocks
    · rw [if_neg c_1] at hm
      refine lv_aload_n hx hb dX8_become_15 rfl (lv_at hl 0 rfl) ?_
      refine lv_aload_n hx hb dX8_become_16 rfl (lv_at hl 1 rfl) ?_
      refine va_get (D := DG G) (ci := 7) (v := .ref tu) (C := RX8) (T := TX8) (N := 2) hx hb hts inW_X8 hown hK hP 2 rfl rfl 0 (by decide) (hts _ wm184) (fun _ h9 => h9) rfl dX8_become_17 ?_
      refine lv_iload_n hx hb dX8_become_20 rfl (lv_at hl 2 rfl) ?_
      obtain ⟨b_2, hm⟩ := ite_some hm
      refine va_iald hx hb hK hP 3 0 rfl rfl (inb_vp b_2) dX8_become_21 ?_
      obtain ⟨q_3, hq_3, hm⟩ := bind_some hm
      have hFc := va_free (wc := [(h1, .inr (7, [.ref tt, .int tm])), (tt, .inl (cyA G 0, tn, .inl (tf)))]) hD hS hA [0, 1] rfl
      refine va_calli (va_runV (As := [.int (uf (Int32.toNatClampNeg v2))]) (rest := []) ⟨hx, hb, hml, hown, hts⟩ (k_X8_push l hfl G tn h1 (uf (Int32.toNatClampNeg v2)) tt tm tf q_3.1 q_3.2.1 q_3.2.2 hq_3 H.size) (cwV 1 hts (gV wm423 wm424 wm425 wm7 wm426) rfl rfl rfl (by decide +kernel) ⟨Nat.le_of_ble_eq_true rfl, Nat.le_of_ble_eq_true rfl⟩) (pre_v (pre_s hK hP hD hS hE [0, 1] rfl rfl (by decide) hFc) (va_recv hK hP (ci := 7) (q0 := 0) rfl rfl)) rfl rfl hl.1 rfl (lv_room (Nat.le_of_ble_eq_true rfl)) dX8_become_22 ⟨Nat.le_of_ble_eq_true rfl, Nat.le_of_ble_eq_true rfl⟩) hS (fun q _ h => hFc q h) hFc (fun r u t H locs ht hvm hw hB hz1 hk1 hS => ?_)
      rw [show r = q_3.1 from hw]
      obtain ⟨hP1, hD1⟩ := hB
      rw [ht] at hP1
      obtain ⟨hP, hD⟩ := va_join (wr := [(h2, .inr (7, [.ref tu, .int um])), (tu, .inl (cyA G 0, un, .inl (uf)))]) (w1 := [(h1, .inr (7, [.ref tt, .int q_3.2.1])), (tt, .inl (cyA G 0, tn, .inl (q_3.2.2)))]) hP hD [0, 1] [2, 3] rfl rfl (by decide) (by decide) hk1 hFc hP1 hD1
      have hP : va_P (DG G) clP3 [(h2, .inr (7, [.ref tu, .int um])), (tu, .inl (cyA G 0, un, .inl (uf))), (h1, .inr (7, [.ref tt, .int q_3.2.1])), (tt, .inl (cyA G 0, tn, .inl (q_3.2.2)))] H := hP
      have hD : va_D A [(h2, .inr (7, [.ref tu, .int um])), (tu, .inl (cyA G 0, un, .inl (uf))), (h1, .inr (7, [.ref tt, .int q_3.2.1])), (tt, .inl (cyA G 0, tn, .inl (q_3.2.2)))] := hD
      refine W.widen (k := 0) (n := 0) (Nat.le_of_ble_eq_true rfl) (Nat.le_of_ble_eq_true rfl) ?_
      refine lv_pop hx hb dX8_become_25 rfl ?_
      refine lv_iinc (v := (v2 + 1)) (lv' := [(2, .int (v2 + 1)), (0, .ref h1), (1, .ref h2)]) hx hb dX8_become_26 hl (k := 2) rfl rfl (by decide) rfl (fun ls hl => ?_)
      refine lv_goto (tgt := 7) hx hb dX8_become_29 (by decide) ?_
      have hP9 := hP.sub (ws' := [(h1, .inr (7, [.ref tt, .int q_3.2.1])), (tt, .inl (cyA G 0, tn, .inl (q_3.2.2))), (h2, .inr (7, [.ref tu, .int um])), (tu, .inl (cyA G 0, un, .inl (uf)))]) [2, 3, 0, 1] rfl
      have hD9 := hD.sub (ws' := [(h1, .inr (7, [.ref tt, .int q_3.2.1])), (tt, .inl (cyA G 0, tn, .inl (q_3.2.2))), (h2, .inr (7, [.ref tu, .int um])), (tu, .inl (cyA G 0, un, .inl (uf)))]) [2, 3, 0, 1] (by decide) rfl
      refine W.widen (k := 0) (n := 0) (Nat.le_of_ble_eq_true rfl) (Nat.le_of_ble_eq_true rfl) ?_
      exact ih q_3.2.1 q_3.2.2 um uf (v2 + 1) _ _ hP9 hD9 hS _ (lv_sub hl [1, 2, 0] rfl) hm
set_option maxHeartbeats 4000000 in
set_option maxRecDepth 100000 in
theorem k_X8_become (l : Launch) (hfl : l.stackTraces = false) (G : GC) (tn : Nat) (un : Nat) (h1 : Nat) (h2 : Nat) (tt : Nat) (tm : Int32) (tf : Nat → Int32) (tu : Nat) (um : Int32) (uf : Nat → Int32) (tm_9 : Int32) (tf_9 : Nat → Int32) (um_9 : Int32) (uf_9 : Nat → Int32) (hm : f_X8_become tn un tm tf um uf = some (tm_9, tf_9, um_9, uf_9)) (sz : Nat) : Met l yX8_become (Cond.code yX8_become cX8_become 3 none :: W0) ({ frames := 1, cells := 0, slots := 0, locals := 21 }) (va_Pc [.ref h1, .ref h2] (WD G [(h1, .inr (7, [.ref tt, .int tm])), (tt, .inl (cyA G 0, tn, .inl (tf))), (h2, .inr (7, [.ref tu, .int um])), (tu, .inl (cyA G 0, un, .inl (uf)))] sz)) (va_Qv (fun _ : Unit => True) (fun _ t => PW G (va_A [(h1, .inr (7, [.ref tt, .int tm])), (tt, .inl (cyA G 0, tn, .inl (tf))), (h2, .inr (7, [.ref tu, .int um])), (tu, .inl (cyA G 0, un, .inl (uf)))] sz) [(h1, .inr (7, [.ref tt, .int tm_9])), (tt, .inl (cyA G 0, tn, .inl (tf_9))), (h2, .inr (7, [.ref tu, .int um_9])), (tu, .inl (cyA G 0, un, .inl (uf_9)))] t) (va_A [(h1, .inr (7, [.ref tt, .int tm])), (tt, .inl (cyA G 0, tn, .inl (tf))), (h2, .inr (7, [.ref tu, .int um])), (tu, .inl (cyA G 0, un, .inl (uf)))] sz)) 0 0 (va_A [(h1, .inr (7, [.ref tt, .int tm])), (tt, .inl (cyA G 0, tn, .inl (tf))), (h2, .inr (7, [.ref tu, .int um])), (tu, .inl (cyA G 0, un, .inl (uf)))] sz) := by
  rw [f_X8_become] at hm
  refine Met.ofW (cc := cX8_become) (maxL := 3) (ret := none) (by decide) rfl ?_
  intro p e s m args below meth c s₁ B hml hv
  obtain ⟨rfl, hsz, hP, hK, hD0, hE⟩ := hv
  have hx := B.exec
  have hb := B.bytes
  have hr := B.returns
  have hts := w0_tail B.pre
  have hown : s.vm.findClass RX8 = some m.cls := findClass_of_methodNamed B.named
  have hlocks := B.notSynchronized
  subst hsz
  have hD := hD0.self (sz := s.heap.size)
  generalize hAe : va_A [(h1, .inr (7, [.ref tt, .int tm])), (tt, .inl (cyA G 0, tn, .inl (tf))), (h2, .inr (7, [.ref tu, .int um])), (tu, .inl (cyA G 0, un, .inl (uf)))] s.heap.size = A at hD hE ⊢
  have hA : ∀ q : Nat, s.heap.size ≤ q → A q := fun q h => by rw [← hAe]; exact Or.inr h
  have hS : va_S A s.heap s.heap [] := va_S.rf
  obtain ⟨H, hHe⟩ : ∃ H : Heap, H = s.heap := ⟨_, rfl⟩
  have hP : va_P (DG G) clP3 [(h1, .inr (7, [.ref tt, .int tm])), (tt, .inl (cyA G 0, tn, .inl (tf))), (h2, .inr (7, [.ref tu, .int um])), (tu, .inl (cyA G 0, un, .inl (uf)))] H := by rw [hHe]; exact hP
  have hS : va_S A s.heap H [] := by rw [hHe]; exact hS
  have hl := lv_entry ([.ref h1, .ref h2]) (n := 3) (Nat.le_of_ble_eq_true rfl)
  rw [lg_entry_eq, ← hHe]
  generalize (lg_sl ([.ref h1, .ref h2]) ++ List.replicate (3 - (lg_sl ([.ref h1, .ref h2])).length) Slot.unset).toArray = ls at hl ⊢
  have hl : lv_has ls 3 [(0, .ref h1), (1, .ref h2)] := hl
  refine lv_aload_n hx hb dX8_become_0 rfl (lv_at hl 0 rfl) ?_
  refine lv_iconst (v := 0) hx hb dX8_become_1 (by decide) ?_
  refine va_put (D := DG G) (ci := 7) (v := .int 0) (ty := tyX8 1) (C := RX8) (T := TX8) (N := 2) hx hb hts inW_X8 tyX8 tyX8_ok nmX8 hown hK hP hD hS 0 rfl rfl 1 (by decide) (hts _ wm185) (fun _ h9 => h9) rfl (by decide +kernel) rfl rfl (Nat.le_of_ble_eq_true rfl) dX8_become_2 (fun H locs hP hD hS => ?_)
  have hP : va_P (DG G) clP3 [(h1, .inr (7, [.ref tt, .int 0])), (tt, .inl (cyA G 0, tn, .inl (tf))), (h2, .inr (7, [.ref tu, .int um])), (tu, .inl (cyA G 0, un, .inl (uf)))] H := hP
  have hD : va_D A [(h1, .inr (7, [.ref tt, .int 0])), (tt, .inl (cyA G 0, tn, .inl (tf))), (h2, .inr (7, [.ref tu, .int um])), (tu, .inl (cyA G 0, un, .inl (uf)))] := hD
  refine lv_iconst (v := 0) hx hb dX8_become_5 (by decide) ?_
  refine lv_istore_n (lv' := [(2, .int 0), (0, .ref h1), (1, .ref h2)]) hx hb dX8_become_6 rfl hl (by decide) rfl (fun ls hl => ?_)
  have hP9 := hP.sub (ws' := [(h1, .inr (7, [.ref tt, .int 0])), (tt, .inl (cyA G 0, tn, .inl (tf))), (h2, .inr (7, [.ref tu, .int um])), (tu, .inl (cyA G 0, un, .inl (uf)))]) [0, 1, 2, 3] rfl
  have hD9 := hD.sub (ws' := [(h1, .inr (7, [.ref tt, .int 0])), (tt, .inl (cyA G 0, tn, .inl (tf))), (h2, .inr (7, [.ref tu, .int um])), (tu, .inl (cyA G 0, un, .inl (uf)))]) [0, 1, 2, 3] (by decide) rfl
  refine W.widen (k := 0) (n := 0) (Nat.le_of_ble_eq_true rfl) (Nat.le_of_ble_eq_true rfl) ?_
  exact kl_X8_become_7 hfl hx hb hr hml hown hts hlocks hA hE hK tm_9 tf_9 um_9 uf_9 100000 0 tf um uf 0 _ _ hP9 hD9 hS _ (lv_sub hl [1, 2, 0] rfl) hm
def f_X4_begin  (gn : Int32) (gr : Int32) (gm : Int32) (gt : Int32) (p1 : Int32) (p2 : Int32) : Option (Int32 × Int32 × Int32 × Int32) := some (p1, p2, 0, 0)
set_option maxHeartbeats 4000000 in
set_option maxRecDepth 100000 in
theorem k_X4_begin (l : Launch) (hfl : l.stackTraces = false) (G : GC) (h1 : Nat) (p1 : Int32) (p2 : Int32) (t1 : Nat) (ga : Nat) (gn : Int32) (gr : Int32) (gm : Int32) (gt : Int32) (gn_9 : Int32) (gr_9 : Int32) (gm_9 : Int32) (gt_9 : Int32) (hm : f_X4_begin gn gr gm gt p1 p2 = some (gn_9, gr_9, gm_9, gt_9)) (sz : Nat) : Met l yX4_begin (Cond.code yX4_begin cX4_begin 3 none :: W0) ({ frames := 0, cells := 0, slots := 0, locals := 0 }) (va_Pc [.ref h1, .int p1, .int p2] (WD G [(h1, .inr (4, [.ref t1, .ref ga, .int gn, .int gr, .int gm, .int gt]))] sz)) (va_Qv (fun _ : Unit => True) (fun _ t => PW G (va_A [(h1, .inr (4, [.ref t1, .ref ga, .int gn, .int gr, .int gm, .int gt]))] sz) [(h1, .inr (4, [.ref t1, .ref ga, .int gn_9, .int gr_9, .int gm_9, .int gt_9]))] t) (va_A [(h1, .inr (4, [.ref t1, .ref ga, .int gn, .int gr, .int gm, .int gt]))] sz)) 0 0 (va_A [(h1, .inr (4, [.ref t1, .ref ga, .int gn, .int gr, .int gm, .int gt]))] sz) := by
  rw [f_X4_begin] at hm
  refine Met.ofW (cc := cX4_begin) (maxL := 3) (ret := none) (by decide) rfl ?_
  intro p e s m args below meth c s₁ B hml hv
  obtain ⟨rfl, hsz, hP, hK, hD0, hE⟩ := hv
  have hx := B.exec
  have hb := B.bytes
  have hr := B.returns
  have hts := w0_tail B.pre
  have hown : s.vm.findClass RX4 = some m.cls := findClass_of_methodNamed B.named
  have hlocks := B.notSynchronized
  subst hsz
  have hD := hD0.self (sz := s.heap.size)
  generalize hAe : va_A [(h1, .inr (4, [.ref t1, .ref ga, .int gn, .int gr, .int gm, .int gt]))] s.heap.size = A at hD hE ⊢
  have hA : ∀ q : Nat, s.heap.size ≤ q → A q := fun q h => by rw [← hAe]; exact Or.inr h
  have hS : va_S A s.heap s.heap [] := va_S.rf
  obtain ⟨H, hHe⟩ : ∃ H : Heap, H = s.heap := ⟨_, rfl⟩
  have hP : va_P (DG G) clP3 [(h1, .inr (4, [.ref t1, .ref ga, .int gn, .int gr, .int gm, .int gt]))] H := by rw [hHe]; exact hP
  have hS : va_S A s.heap H [] := by rw [hHe]; exact hS
  have hl := lv_entry ([.ref h1, .int p1, .int p2]) (n := 3) (Nat.le_of_ble_eq_true rfl)
  rw [lg_entry_eq, ← hHe]
  generalize (lg_sl ([.ref h1, .int p1, .int p2]) ++ List.replicate (3 - (lg_sl ([.ref h1, .int p1, .int p2])).length) Slot.unset).toArray = ls at hl ⊢
  have hl : lv_has ls 3 [(0, .ref h1), (1, .int p1), (2, .int p2)] := hl
  refine lv_aload_n hx hb dX4_begin_0 rfl (lv_at hl 0 rfl) ?_
  refine lv_iload_n hx hb dX4_begin_1 rfl (lv_at hl 1 rfl) ?_
  refine va_put (D := DG G) (ci := 4) (v := .int p1) (ty := tyX4 2) (C := RX4) (T := TX4) (N := 6) hx hb hts inW_X4 tyX4 tyX4_ok nmX4 hown hK hP hD hS 0 rfl rfl 2 (by decide) (hts _ wm222) (fun _ h9 => h9) rfl (by decide +kernel) rfl rfl (Nat.le_of_ble_eq_true rfl) dX4_begin_2 (fun H locs hP hD hS => ?_)
  have hP : va_P (DG G) clP3 [(h1, .inr (4, [.ref t1, .ref ga, .int p1, .int gr, .int gm, .int gt]))] H := hP
  have hD : va_D A [(h1, .inr (4, [.ref t1, .ref ga, .int p1, .int gr, .int gm, .int gt]))] := hD
  refine lv_aload_n hx hb dX4_begin_5 rfl (lv_at hl 0 rfl) ?_
  refine lv_iload_n hx hb dX4_begin_6 rfl (lv_at hl 2 rfl) ?_
  refine va_put (D := DG G) (ci := 4) (v := .int p2) (ty := tyX4 3) (C := RX4) (T := TX4) (N := 6) hx hb hts inW_X4 tyX4 tyX4_ok nmX4 hown hK hP hD hS 0 rfl rfl 3 (by decide) (hts _ wm223) (fun _ h9 => h9) rfl (by decide +kernel) rfl rfl (Nat.le_of_ble_eq_true rfl) dX4_begin_7 (fun H locs hP hD hS => ?_)
  have hP : va_P (DG G) clP3 [(h1, .inr (4, [.ref t1, .ref ga, .int p1, .int p2, .int gm, .int gt]))] H := hP
  have hD : va_D A [(h1, .inr (4, [.ref t1, .ref ga, .int p1, .int p2, .int gm, .int gt]))] := hD
  refine lv_aload_n hx hb dX4_begin_10 rfl (lv_at hl 0 rfl) ?_
  refine lv_iconst (v := 0) hx hb dX4_begin_11 (by decide) ?_
  refine va_put (D := DG G) (ci := 4) (v := .int 0) (ty := tyX4 4) (C := RX4) (T := TX4) (N := 6) hx hb hts inW_X4 tyX4 tyX4_ok nmX4 hown hK hP hD hS 0 rfl rfl 4 (by decide) (hts _ wm224) (fun _ h9 => h9) rfl (by decide +kernel) rfl rfl (Nat.le_of_ble_eq_true rfl) dX4_begin_12 (fun H locs hP hD hS => ?_)
  have hP : va_P (DG G) clP3 [(h1, .inr (4, [.ref t1, .ref ga, .int p1, .int p2, .int 0, .int gt]))] H := hP
  have hD : va_D A [(h1, .inr (4, [.ref t1, .ref ga, .int p1, .int p2, .int 0, .int gt]))] := hD
  refine lv_aload_n hx hb dX4_begin_15 rfl (lv_at hl 0 rfl) ?_
  refine lv_iconst (v := 0) hx hb dX4_begin_16 (by decide) ?_
  refine va_put (D := DG G) (ci := 4) (v := .int 0) (ty := tyX4 5) (C := RX4) (T := TX4) (N := 6) hx hb hts inW_X4 tyX4 tyX4_ok nmX4 hown hK hP hD hS 0 rfl rfl 5 (by decide) (hts _ wm226) (fun _ h9 => h9) rfl (by decide +kernel) rfl rfl (Nat.le_of_ble_eq_true rfl) dX4_begin_17 (fun H locs hP hD hS => ?_)
  have hP : va_P (DG G) clP3 [(h1, .inr (4, [.ref t1, .ref ga, .int p1, .int p2, .int 0, .int 0]))] H := hP
  have hD : va_D A [(h1, .inr (4, [.ref t1, .ref ga, .int p1, .int p2, .int 0, .int 0]))] := hD
  simp only [Option.some.injEq, Prod.mk.injEq] at hm
  obtain ⟨rfl, rfl, rfl, rfl⟩ := hm
  have hP9 := hP.sub (ws' := [(h1, .inr (4, [.ref t1, .ref ga, .int p1, .int p2, .int 0, .int 0]))]) [0] rfl
  have hD9 := hD.sub (ws' := [(h1, .inr (4, [.ref t1, .ref ga, .int p1, .int p2, .int 0, .int 0]))]) [0] (by decide) rfl
  refine W.widen (k := 0) (n := 0) (Nat.le_of_ble_eq_true rfl) (Nat.le_of_ble_eq_true rfl) ?_
  exact W.vret hx hb hr (fun t ht hW => ⟨⟨(), rfl, trivial, ⟨by rw [ht]; exact hP9, hD9⟩⟩, hS.F ht⟩) hS.2.2 dX4_begin_20 hlocks
def f_X4_add_L2 : Nat → (Int32) → (Int32) → (Nat → Int32) → (Int32) → (Int32) → Option (Int32 × Int32 × (Nat → Int32))
  | 0, _, _, _, _, _ => none
  | n + 1, gm, gt, gf, v1, v2 => (if gm ≤ v2 then (if gm < 200 then (if inb gm 200 = true then some ((gm + 1), gt, upd gf (Int32.toNatClampNeg gm) v1) else none) else some (gm, 1, gf)) else (if inb v2 200 = true then (if (gf (Int32.toNatClampNeg v2)) = v1 then some (gm, gt, gf) else (f_X4_add_L2 n gm gt gf v1 (v2 + 1))) else none))
def f_X4_add  (gm : Int32) (gt : Int32) (gf : Nat → Int32) (p1 : Int32) : Option (Int32 × Int32 × (Nat → Int32)) := (f_X4_add_L2 100000 gm gt gf p1 0)
set_option maxHeartbeats 4000000 in
set_option maxRecDepth 100000 in
theorem kl_X4_add_2 {l : Launch} (hfl : l.stackTraces = false) {G : GC} {h1 : Nat} {t1 : Nat} {ga : Nat} {gn : Int32} {gr : Int32} {A : Nat → Prop} {p : Program} {e : Env} {s : State} {m : MethodId} {args : Array Value} {below : List Frame} {meth : Method} {c : Code} (hx : p.tables.exec = Jvm.exec) (hb : c.code = cX4_add) (hr : meth.sig.returnType = none) (hml : c.maxLocals = 3) (hown : s.vm.findClass RX4 = some m.cls) (hts : ∀ w ∈ W0, w.before args s = true) (hlocks : meth.locks = false) (hA : ∀ q : Nat, s.heap.size ≤ q → A q) (hE : EV G A s s.heap) (hK : va_K (DG G) clP3 (TY G) s) (gm_9 : Int32) (gt_9 : Int32) (gf_9 : Nat → Int32) : ∀ (n : Nat) (gm : Int32) (gt : Int32) (gf : Nat → Int32) (v1 : Int32) (v2 : Int32) (H : Heap) (locs : List Loc), va_P (DG G) clP3 [(h1, .inr (4, [.ref t1, .ref ga, .int gn, .int gr, .int gm, .int gt])), (ga, .inl (cyA G 0, 200, .inl (gf)))] H → va_D A [(h1, .inr (4, [.ref t1, .ref ga, .int gn, .int gr, .int gm, .int gt])), (ga, .inl (cyA G 0, 200, .inl (gf)))] → va_S A s.heap H locs → ∀ (ls : Array Slot), lv_has ls 3 [(0, .ref h1), (1, .int v1), (2, .int v2)] → f_X4_add_L2 n gm gt gf v1 v2 = some (gm_9, gt_9, gf_9) → W p l e ({ frames := 0, cells := 0, slots := 0, locals := 0 }) s m args below meth c H locs 0 0 (MQ below (va_Qv (fun _ : Unit => True) (fun _ t => PW G A [(h1, .inr (4, [.ref t1, .ref ga, .int gn, .int gr, .int gm_9, .int gt_9])), (ga, .inl (cyA G 0, 200, .inl (gf_9)))] t) A) args s 0 0 A) (F0 m 2 ls []) := by
  intro n
  induction n with
  | zero =>
    intro gm gt gf v1 v2 H locs hP hD hS ls hl hm
    rw [f_X4_add_L2] at hm
    cases hm
  | succ n ih =>
    intro gm gt gf v1 v2 H locs hP hD hS ls hl hm
    rw [f_X4_add_L2] at hm
    refine lv_iload_n hx hb dX4_add_2 rfl (lv_at hl 2 rfl) ?_
    refine lv_aload_n hx hb dX4_add_3 rfl (lv_at hl 0 rfl) ?_
    refine va_get (D := DG G) (ci := 4) (v := .int gm) (C := RX4) (T := TX4) (N := 6) hx hb hts inW_X4 hown hK hP 0 rfl rfl 4 (by decide) (hts _ wm224) (fun _ h9 => h9) rfl dX4_add_4 ?_
    refine lv_icmp_ge (tgt := 27) hx hb dX4_add_7 (by decide) (fun c_1 => ?_) (fun c_1 => ?_)
    · rw [if_pos c_1] at hm
      refine lv_aload_n hx hb dX4_add_27 rfl (lv_at hl 0 rfl) ?_
      refine va_get (D := DG G) (ci := 4) (v := .int gm) (C := RX4) (T := TX4) (N := 6) hx hb hts inW_X4 hown hK hP 0 rfl rfl 4 (by decide) (hts _ wm224) (fun _ h9 => h9) rfl dX4_add_28 ?_
      refine lv_aload_n hx hb dX4_add_31 rfl (lv_at hl 0 rfl) ?_
      refine va_get (D := DG G) (ci := 4) (v := .ref ga) (C := RX4) (T := TX4) (N := 6) hx hb hts inW_X4 hown hK hP 0 rfl rfl 1 (by decide) (hts _ wm221) (fun _ h9 => h9) rfl dX4_add_32 ?_
      refine va_alen (v := 200) hx hb hK hP 1 0 rfl rfl (show Int32.ofNat 200 = 200 from by decide) dX4_add_35 ?_
      refine lv_icmp_lt (tgt := 45) hx hb dX4_add_36 (by decide) (fun c_2 => ?_) (fun c_2 => ?_)
      · rw [if_pos c_2] at hm
        refine lv_aload_n hx hb dX4_add_45 rfl (lv_at hl 0 rfl) ?_
        refine va_get (D := DG G) (ci := 4) (v := .ref ga) (C := RX4) (T := TX4) (N := 6) hx hb hts inW_X4 hown hK hP 0 rfl rfl 1 (by decide) (hts _ wm221) (fun _ h9 => h9) rfl dX4_add_46 ?_
        refine lv_aload_n hx hb dX4_add_49 rfl (lv_at hl 0 rfl) ?_
        refine va_get (D := DG G) (ci := 4) (v := .int gm) (C := RX4) (T := TX4) (N := 6) hx hb hts inW_X4 hown hK hP 0 rfl rfl 4 (by decide) (hts _ wm224) (fun _ h9 => h9) rfl dX4_add_50 ?_
        refine lv_iload_n hx hb dX4_add_53 rfl (lv_at hl 1 rfl) ?_
        obtain ⟨b_3, hm⟩ := ite_some hm
        refine va_iast hx hb hK hP hD hS 1 0 rfl rfl (inb_vp b_3) dX4_add_54 (fun H locs hP hD hS => ?_)
        have hP : va_P (DG G) clP3 [(h1, .inr (4, [.ref t1, .ref ga, .int gn, .int gr, .int gm, .int gt])), (ga, .inl (cyA G 0, 200, .inl (upd gf (Int32.toNatClampNeg gm) v1)))] H := hP
        have hD : va_D A [(h1, .inr (4, [.ref t1, .ref ga, .int gn, .int gr, .int gm, .int gt])), (ga, .inl (cyA G 0, 200, .inl (upd gf (Int32.toNatClampNeg gm) v1)))] := hD
        refine lv_aload_n hx hb dX4_add_55 rfl (lv_at hl 0 rfl) ?_
        refine lv_dup hx hb dX4_add_56 rfl ?_
        refine va_get (D := DG G) (ci := 4) (v := .int gm) (C := RX4) (T := TX4) (N := 6) hx hb hts inW_X4 hown hK hP 0 rfl rfl 4 (by decide) (hts _ wm224) (fun _ h9 => h9) rfl dX4_add_57 ?_
        refine lv_iconst (v := 1) hx hb dX4_add_60 (by decide) ?_
        refine lv_iadd hx hb dX4_add_61 ?_
        refine va_put (D := DG G) (ci := 4) (v := .int (gm + 1)) (ty := tyX4 4) (C := RX4) (T := TX4) (N := 6) hx hb hts inW_X4 tyX4 tyX4_ok nmX4 hown hK hP hD hS 0 rfl rfl 4 (by decide) (hts _ wm224) (fun _ h9 => h9) rfl (by decide +kernel) rfl rfl (Nat.le_of_ble_eq_true rfl) dX4_add_62 (fun H locs hP hD hS => ?_)
        have hP : va_P (DG G) clP3 [(h1, .inr (4, [.ref t1, .ref ga, .int gn, .int gr, .int (gm + 1), .int gt])), (ga, .inl (cyA G 0, 200, .inl (upd gf (Int32.toNatClampNeg gm) v1)))] H := hP
        have hD : va_D A [(h1, .inr (4, [.ref t1, .ref ga, .int gn, .int gr, .int (gm + 1), .int gt])), (ga, .inl (cyA G 0, 200, .inl (upd gf (Int32.toNatClampNeg gm) v1)))] := hD
        simp only [Option.some.injEq, Prod.mk.injEq] at hm
        obtain ⟨rfl, rfl, rfl⟩ := hm
        have hP9 := hP.sub (ws' := [(h1, .inr (4, [.ref t1, .ref ga, .int gn, .int gr, .int (gm + 1), .int gt])), (ga, .inl (cyA G 0, 200, .inl (upd gf (Int32.toNatClampNeg gm) v1)))]) [0, 1] rfl
        have hD9 := hD.sub (ws' := [(h1, .inr (4, [.ref t1, .ref ga, .int gn, .int gr, .int (gm + 1), .int gt])), (ga, .inl (cyA G 0, 200, .inl (upd gf (Int32.toNatClampNeg gm) v1)))]) [0, 1] (by decide) rfl
        refine W.widen (k := 0) (n := 0) (Nat.le_of_ble_eq_true rfl) (Nat.le_of_ble_eq_true rfl) ?_
        exact W.vret hx hb hr (fun t ht hW => ⟨⟨(), rfl, trivial, ⟨by rw [ht]; exact hP9, hD9⟩⟩, hS.F ht⟩) hS.2.2 dX4_add_65 hlocks
      · rw [if_neg c_2] at hm
        refine lv_aload_n hx hb dX4_add_39 rfl (lv_at hl 0 rfl) ?_
        refine lv_iconst (v := 1) hx hb dX4_add_40 (by decide) ?_
        refine va_put (D := DG G) (ci := 4) (v := .int 1) (ty := tyX4 5) (C := RX4) (T := TX4) (N := 6) hx hb hts inW_X4 tyX4 tyX4_ok nmX4 hown hK hP hD hS 0 rfl rfl 5 (by decide) (hts _ wm226) (fun _ h9 => h9) rfl (by decide +kernel) rfl rfl (Nat.le_of_ble_eq_true rfl) dX4_add_41 (fun H locs hP hD hS => ?_)
        have hP : va_P (DG G) clP3 [(h1, .inr (4, [.ref t1, .ref ga, .int gn, .int gr, .int gm, .int 1])), (ga, .inl (cyA G 0, 200, .inl (gf)))] H := hP
        have hD : va_D A [(h1, .inr (4, [.ref t1, .ref ga, .int gn, .int gr, .int gm, .int 1])), (ga, .inl (cyA G 0, 200, .inl (gf)))] := hD
        simp only [Option.some.injEq, Prod.mk.injEq] at hm
        obtain ⟨rfl, rfl, rfl⟩ := hm
        have hP9 := hP.sub (ws' := [(h1, .inr (4, [.ref t1, .ref ga, .int gn, .int gr, .int gm, .int 1])), (ga, .inl (cyA G 0, 200, .inl (gf)))]) [0, 1] rfl
        have hD9 := hD.sub (ws' := [(h1, .inr (4, [.ref t1, .ref ga, .int gn, .int gr, .int gm, .int 1])), (ga, .inl (cyA G 0, 200, .inl (gf)))]) [0, 1] (by decide) rfl
        refine W.widen (k := 0) (n := 0) (Nat.le_of_ble_eq_true rfl) (Nat.le_of_ble_eq_true rfl) ?_
        exact W.vret hx hb hr (fun t ht hW => ⟨⟨(), rfl, trivial, ⟨by rw [ht]; exact hP9, hD9⟩⟩, hS.F ht⟩) hS.2.2 dX4_add_44 hlocks
    · rw [if_neg c_1] at hm
      refine lv_aload_n hx hb dX4_add_10 rfl (lv_at hl 0 rfl) ?_
      refine va_get (D := DG G) (ci := 4) (v := .ref ga) (C := RX4) (T := TX4) (N := 6) hx hb hts inW_X4 hown hK hP 0 rfl rfl 1 (by decide) (hts _ wm221) (fun _ h9 => h9) rfl dX4_add_11 ?_
      refine lv_iload_n hx hb dX4_add_14 rfl (lv_at hl 2 rfl) ?_
      obtain ⟨b_4, hm⟩ := ite_some hm
      refine va_iald hx hb hK hP 1 0 rfl rfl (inb_vp b_4) dX4_add_15 ?_
      refine lv_iload_n hx hb dX4_add_16 rfl (lv_at hl 1 rfl) ?_
      refine lv_icmp_ne (tgt := 21) hx hb dX4_add_17 (by decide) (fun c_5 => ?_) (fun c_5 => ?_)
      · rw [if_neg c_5] at hm
        refine lv_iinc (v := (v2 + 1)) (lv' := [(2, .int (v2 + 1)), (0, .ref h1), (1, .int v1)]) hx hb dX4_add_21 hl (k := 2) rfl rfl (by decide) rfl (fun ls hl => ?_)
        refine lv_goto (tgt := 2) hx hb dX4_add_24 (by decide) ?_
        have hP9 := hP.sub (ws' := [(h1, .inr (4, [.ref t1, .ref ga, .int gn, .int gr, .int gm, .int gt])), (ga, .inl (cyA G 0, 200, .inl (gf)))]) [0, 1] rfl
        have hD9 := hD.sub (ws' := [(h1, .inr (4, [.ref t1, .ref ga, .int gn, .int gr, .int gm, .int gt])), (ga, .inl (cyA G 0, 200, .inl (gf)))]) [0, 1] (by decide) rfl
        refine W.widen (k := 0) (n := 0) (Nat.le_of_ble_eq_true rfl) (Nat.le_of_ble_eq_true rfl) ?_
        exact ih gm gt gf v1 (v2 + 1) _ _ hP9 hD9 hS _ (lv_sub hl [1, 2, 0] rfl) hm
      · rw [if_pos c_5] at hm
        simp only [Option.some.injEq, Prod.mk.injEq] at hm
        obtain ⟨rfl, rfl, rfl⟩ := hm
        have hP9 := hP.sub (ws' := [(h1, .inr (4, [.ref t1, .ref ga, .int gn, .int gr, .int gm, .int gt])), (ga, .inl (cyA G 0, 200, .inl (gf)))]) [0, 1] rfl
        have hD9 := hD.sub (ws' := [(h1, .inr (4, [.ref t1, .ref ga, .int gn, .int gr, .int gm, .int gt])), (ga, .inl (cyA G 0, 200, .inl (gf)))]) [0, 1] (by decide) rfl
        refine W.widen (k := 0) (n := 0) (Nat.le_of_ble_eq_true rfl) (Nat.le_of_ble_eq_true rfl) ?_
        exact W.vret hx hb hr (fun t ht hW => ⟨⟨(), rfl, trivial, ⟨by rw [ht]; exact hP9, hD9⟩⟩, hS.F ht⟩) hS.2.2 dX4_add_20 hlocks
set_option maxHeartbeats 4000000 in
set_option maxRecDepth 100000 in
theorem k_X4_add (l : Launch) (hfl : l.stackTraces = false) (G : GC) (h1 : Nat) (p1 : Int32) (t1 : Nat) (ga : Nat) (gn : Int32) (gr : Int32) (gm : Int32) (gt : Int32) (gf : Nat → Int32) (gm_9 : Int32) (gt_9 : Int32) (gf_9 : Nat → Int32) (hm : f_X4_add gm gt gf p1 = some (gm_9, gt_9, gf_9)) (sz : Nat) : Met l yX4_add (Cond.code yX4_add cX4_add 3 none :: W0) ({ frames := 0, cells := 0, slots := 0, locals := 0 }) (va_Pc [.ref h1, .int p1] (WD G [(h1, .inr (4, [.ref t1, .ref ga, .int gn, .int gr, .int gm, .int gt])), (ga, .inl (cyA G 0, 200, .inl (gf)))] sz)) (va_Qv (fun _ : Unit => True) (fun _ t => PW G (va_A [(h1, .inr (4, [.ref t1, .ref ga, .int gn, .int gr, .int gm, .int gt])), (ga, .inl (cyA G 0, 200, .inl (gf)))] sz) [(h1, .inr (4, [.ref t1, .ref ga, .int gn, .int gr, .int gm_9, .int gt_9])), (ga, .inl (cyA G 0, 200, .inl (gf_9)))] t) (va_A [(h1, .inr (4, [.ref t1, .ref ga, .int gn, .int gr, .int gm, .int gt])), (ga, .inl (cyA G 0, 200, .inl (gf)))] sz)) 0 0 (va_A [(h1, .inr (4, [.ref t1, .ref ga, .int gn, .int gr, .int gm, .int gt])), (ga, .inl (cyA G 0, 200, .inl (gf)))] sz) := by
  rw [f_X4_add] at hm
  refine Met.ofW (cc := cX4_add) (maxL := 3) (ret := none) (by decide) rfl ?_
  intro p e s m args below meth c s₁ B hml hv
  obtain ⟨rfl, hsz, hP, hK, hD0, hE⟩ := hv
  have hx := B.exec
  have hb := B.bytes
  have hr := B.returns
  have hts := w0_tail B.pre
  have hown : s.vm.findClass RX4 = some m.cls := findClass_of_methodNamed B.named
  have hlocks := B.notSynchronized
  subst hsz
  have hD := hD0.self (sz := s.heap.size)
  generalize hAe : va_A [(h1, .inr (4, [.ref t1, .ref ga, .int gn, .int gr, .int gm, .int gt])), (ga, .inl (cyA G 0, 200, .inl (gf)))] s.heap.size = A at hD hE ⊢
  have hA : ∀ q : Nat, s.heap.size ≤ q → A q := fun q h => by rw [← hAe]; exact Or.inr h
  have hS : va_S A s.heap s.heap [] := va_S.rf
  obtain ⟨H, hHe⟩ : ∃ H : Heap, H = s.heap := ⟨_, rfl⟩
  have hP : va_P (DG G) clP3 [(h1, .inr (4, [.ref t1, .ref ga, .int gn, .int gr, .int gm, .int gt])), (ga, .inl (cyA G 0, 200, .inl (gf)))] H := by rw [hHe]; exact hP
  have hS : va_S A s.heap H [] := by rw [hHe]; exact hS
  have hl := lv_entry ([.ref h1, .int p1]) (n := 3) (Nat.le_of_ble_eq_true rfl)
  rw [lg_entry_eq, ← hHe]
  generalize (lg_sl ([.ref h1, .int p1]) ++ List.replicate (3 - (lg_sl ([.ref h1, .int p1])).length) Slot.unset).toArray = ls at hl ⊢
  have hl : lv_has ls 3 [(0, .ref h1), (1, .int p1)] := hl
  refine lv_iconst (v := 0) hx hb dX4_add_0 (by decide) ?_
  refine lv_istore_n (lv' := [(2, .int 0), (0, .ref h1), (1, .int p1)]) hx hb dX4_add_1 rfl hl (by decide) rfl (fun ls hl => ?_)
  have hP9 := hP.sub (ws' := [(h1, .inr (4, [.ref t1, .ref ga, .int gn, .int gr, .int gm, .int gt])), (ga, .inl (cyA G 0, 200, .inl (gf)))]) [0, 1] rfl
  have hD9 := hD.sub (ws' := [(h1, .inr (4, [.ref t1, .ref ga, .int gn, .int gr, .int gm, .int gt])), (ga, .inl (cyA G 0, 200, .inl (gf)))]) [0, 1] (by decide) rfl
  refine W.widen (k := 0) (n := 0) (Nat.le_of_ble_eq_true rfl) (Nat.le_of_ble_eq_true rfl) ?_
  exact kl_X4_add_2 hfl hx hb hr hml hown hts hlocks hA hE hK gm_9 gt_9 gf_9 100000 gm gt gf p1 0 _ _ hP9 hD9 hS _ (lv_sub hl [1, 2, 0] rfl) hm
def f_X4_behind_L : Nat → Nat → (Int32) → (Int32) → (Int32) → (Int32) → (Int32) → (Int32) → (Int32) → Option (Int32)
  | 0, _, _, _, _, _, _, _, _ => none
  | n + 1, k, gr, v1, v2, v3, v4, v5, v6 => (if k = 0 then (if gr ≤ v4 then some v3 else (f_X4_behind_L n 1 gr v1 v2 v3 v4 0 0)) else (if k = 1 then (if gr ≤ v5 then (f_X4_behind_L n 0 gr v1 v2 v3 (v4 + 1) 0 0) else (f_X4_behind_L n 2 gr v1 v2 v3 v4 v5 0)) else (if gr ≤ v6 then (f_X4_behind_L n 1 gr v1 v2 v3 v4 (v5 + 1) 0) else (Option.bind (some (v1.toUInt32 >>> ((((4 * v4) + v5)).toUInt32 &&& Int32.toUInt32 31)).toInt32) (fun yz_4 => (Option.bind (some (v2.toUInt32 >>> ((((4 * v5) + v6)).toUInt32 &&& Int32.toUInt32 31)).toInt32) (fun yz_5 => (if ((yz_4 &&& yz_5) &&& (1 : Int32)) = 0 then (f_X4_behind_L n 2 gr v1 v2 v3 v4 v5 (v6 + 1)) else (Option.bind (some (((yz_4 ||| yz_5).toUInt32 >>> (((16 : Int32)).toUInt32 &&& Int32.toUInt32 31)).toInt32 &&& (1 : Int32))) (fun yz_7 => (Option.bind (some (v3 ||| (((1 : Int32) ||| (yz_7 <<< ((16 : Int32) &&& 31))) <<< (((4 * v4) + v6) &&& 31)))) (fun yz_8 => (f_X4_behind_L n 2 gr v1 v2 yz_8 v4 v5 (v6 + 1))))))))))))))
def f_X4_behind  (gr : Int32) (p1 : Int32) (p2 : Int32) : Option (Int32) := (f_X4_behind_L 100000 0 gr p1 p2 0 0 0 0)
set_option maxHeartbeats 4000000 in
set_option maxRecDepth 100000 in
theorem kl_X4_behind {l : Launch} (hfl : l.stackTraces = false) {G : GC} {h1 : Nat} {t1 : Nat} {ga : Nat} {gn : Int32} {gm : Int32} {gt : Int32} {A : Nat → Prop} {p : Program} {e : Env} {s : State} {m : MethodId} {args : Array Value} {below : List Frame} {meth : Method} {c : Code} (hx : p.tables.exec = Jvm.exec) (hb : c.code = cX4_behind) (hr : meth.sig.returnType = (some .int)) (hml : c.maxLocals = 10) (hown : s.vm.findClass RX4 = some m.cls) (hts : ∀ w ∈ W0, w.before args s = true) (hlocks : meth.locks = false) (hA : ∀ q : Nat, s.heap.size ≤ q → A q) (hE : EV G A s s.heap) (hK : va_K (DG G) clP3 (TY G) s) (r9 : Int32) : ∀ (n : Nat), (∀ (gr : Int32) (v1 : Int32) (v2 : Int32) (v3 : Int32) (v4 : Int32) (H : Heap) (locs : List Loc), va_P (DG G) clP3 [(h1, .inr (4, [.ref t1, .ref ga, .int gn, .int gr, .int gm, .int gt]))] H → va_D A [(h1, .inr (4, [.ref t1, .ref ga, .int gn, .int gr, .int gm, .int gt]))] → va_S A s.heap H locs → ∀ (ls : Array Slot), lv_has ls 10 [(0, .ref h1), (1, .int v1), (2, .int v2), (3, .int v3), (4, .int v4)] → f_X4_behind_L n 0 gr v1 v2 v3 v4 0 0 = some r9 → W p l e ({ frames := 0, cells := 0, slots := 0, locals := 0 }) s m args below meth c H locs 0 0 (MQ below (va_Qi (fun (r : Int32) (_ : Unit) => r = r9) (fun _ t => PW G A [(h1, .inr (4, [.ref t1, .ref ga, .int gn, .int gr, .int gm, .int gt]))] t) A) args s 0 0 A) (F0 m 5 ls [])) ∧ (∀ (gr : Int32) (v1 : Int32) (v2 : Int32) (v3 : Int32) (v4 : Int32) (v5 : Int32) (H : Heap) (locs : List Loc), va_P (DG G) clP3 [(h1, .inr (4, [.ref t1, .ref ga, .int gn, .int gr, .int gm, .int gt]))] H → va_D A [(h1, .inr (4, [.ref t1, .ref ga, .int gn, .int gr, .int gm, .int gt]))] → va_S A s.heap H locs → ∀ (ls : Array Slot), lv_has ls 10 [(0, .ref h1), (1, .int v1), (2, .int v2), (3, .int v3), (4, .int v4), (5, .int v5)] → f_X4_behind_L n 1 gr v1 v2 v3 v4 v5 0 = some r9 → W p l e ({ frames := 0, cells := 0, slots := 0, locals := 0 }) s m args below meth c H locs 0 0 (MQ below (va_Qi (fun (r : Int32) (_ : Unit) => r = r9) (fun _ t => PW G A [(h1, .inr (4, [.ref t1, .ref ga, .int gn, .int gr, .int gm, .int gt]))] t) A) args s 0 0 A) (F0 m 17 ls [])) ∧ (∀ (gr : Int32) (v1 : Int32) (v2 : Int32) (v3 : Int32) (v4 : Int32) (v5 : Int32) (v6 : Int32) (H : Heap) (locs : List Loc), va_P (DG G) clP3 [(h1, .inr (4, [.ref t1, .ref ga, .int gn, .int gr, .int gm, .int gt]))] H → va_D A [(h1, .inr (4, [.ref t1, .ref ga, .int gn, .int gr, .int gm, .int gt]))] → va_S A s.heap H locs → ∀ (ls : Array Slot), lv_has ls 10 [(0, .ref h1), (1, .int v1), (2, .int v2), (3, .int v3), (4, .int v4), (5, .int v5), (6, .int v6)] → f_X4_behind_L n 2 gr v1 v2 v3 v4 v5 v6 = some r9 → W p l e ({ frames := 0, cells := 0, slots := 0, locals := 0 }) s m args below meth c H locs 0 0 (MQ below (va_Qi (fun (r : Int32) (_ : Unit) => r = r9) (fun _ t => PW G A [(h1, .inr (4, [.ref t1, .ref ga, .int gn, .int gr, .int gm, .int gt]))] t) A) args s 0 0 A) (F0 m 29 ls [])) := by
  intro n
  induction n with
  | zero =>
    refine ⟨?_, ?_, ?_⟩
    · intro gr v1 v2 v3 v4 H locs hP hD hS ls hl hm
      rw [f_X4_behind_L] at hm
      cases hm
    · intro gr v1 v2 v3 v4 v5 H locs hP hD hS ls hl hm
      rw [f_X4_behind_L] at hm
      cases hm
    · intro gr v1 v2 v3 v4 v5 v6 H locs hP hD hS ls hl hm
      rw [f_X4_behind_L] at hm
      cases hm
  | succ n ih =>
    refine ⟨?_, ?_, ?_⟩
    · intro gr v1 v2 v3 v4 H locs hP hD hS ls hl hm
      rw [f_X4_behind_L] at hm
      rw [if_pos rfl] at hm
      refine lv_iload hx hb dX4_behind_5 (lv_at hl 4 rfl) ?_
      refine lv_aload_n hx hb dX4_behind_7 rfl (lv_at hl 0 rfl) ?_
      refine va_get (D := DG G) (ci := 4) (v := .int gr) (C := RX4) (T := TX4) (N := 6) hx hb hts inW_X4 hown hK hP 0 rfl rfl 3 (by decide) (hts _ wm223) (fun _ h9 => h9) rfl dX4_behind_8 ?_
      refine lv_icmp_ge (tgt := 118) hx hb dX4_behind_11 (by decide) (fun c_1 => ?_) (fun c_1 => ?_)
      · rw [if_pos c_1] at hm
        refine lv_iload_n hx hb dX4_behind_118 rfl (lv_at hl 3 rfl) ?_
        obtain rfl := Option.some.inj hm
        have hP9 := hP.sub (ws' := [(h1, .inr (4, [.ref t1, .ref ga, .int gn, .int gr, .int gm, .int gt]))]) [0] rfl
        have hD9 := hD.sub (ws' := [(h1, .inr (4, [.ref t1, .ref ga, .int gn, .int gr, .int gm, .int gt]))]) [0] (by decide) rfl
        refine W.widen (k := 0) (n := 0) (Nat.le_of_ble_eq_true rfl) (Nat.le_of_ble_eq_true rfl) ?_
        exact W.iret (v := v3) hx hb hr (fun t ht hW => ⟨⟨v3, (), rfl, rfl, ⟨by rw [ht]; exact hP9, hD9⟩⟩, hS.F ht⟩) hS.2.2 dX4_behind_119 hlocks
      · rw [if_neg c_1] at hm
        refine lv_iconst (v := 0) hx hb dX4_behind_14 (by decide) ?_
        refine lv_istore (lv' := [(5, .int 0), (0, .ref h1), (1, .int v1), (2, .int v2), (3, .int v3), (4, .int v4)]) hx hb dX4_behind_15 hl (by decide) rfl (fun ls hl => ?_)
        have hP9 := hP.sub (ws' := [(h1, .inr (4, [.ref t1, .ref ga, .int gn, .int gr, .int gm, .int gt]))]) [0] rfl
        have hD9 := hD.sub (ws' := [(h1, .inr (4, [.ref t1, .ref ga, .int gn, .int gr, .int gm, .int gt]))]) [0] (by decide) rfl
        refine W.widen (k := 0) (n := 0) (Nat.le_of_ble_eq_true rfl) (Nat.le_of_ble_eq_true rfl) ?_
        exact ih.2.1 gr v1 v2 v3 v4 0 _ _ hP9 hD9 hS _ (lv_sub hl [1, 2, 3, 4, 5, 0] rfl) hm
    · intro gr v1 v2 v3 v4 v5 H locs hP hD hS ls hl hm
      rw [f_X4_behind_L] at hm
      rw [if_neg (by decide), if_pos rfl] at hm
      refine lv_iload hx hb dX4_behind_17 (lv_at hl 5 rfl) ?_
      refine lv_aload_n hx hb dX4_behind_19 rfl (lv_at hl 0 rfl) ?_
      refine va_get (D := DG G) (ci := 4) (v := .int gr) (C := RX4) (T := TX4) (N := 6) hx hb hts inW_X4 hown hK hP 0 rfl rfl 3 (by decide) (hts _ wm223) (fun _ h9 => h9) rfl dX4_behind_20 ?_
      refine lv_icmp_ge (tgt := 112) hx hb dX4_behind_23 (by decide) (fun c_2 => ?_) (fun c_2 => ?_)
      · rw [if_pos c_2] at hm
        refine lv_iinc (v := (v4 + 1)) (lv' := [(4, .int (v4 + 1)), (0, .ref h1), (1, .int v1), (2, .int v2), (3, .int v3), (5, .int v5)]) hx hb dX4_behind_112 hl (k := 4) rfl rfl (by decide) rfl (fun ls hl => ?_)
        refine lv_goto (tgt := 5) hx hb dX4_behind_115 (by decide) ?_
        have hP9 := hP.sub (ws' := [(h1, .inr (4, [.ref t1, .ref ga, .int gn, .int gr, .int gm, .int gt]))]) [0] rfl
        have hD9 := hD.sub (ws' := [(h1, .inr (4, [.ref t1, .ref ga, .int gn, .int gr, .int gm, .int gt]))]) [0] (by decide) rfl
        refine W.widen (k := 0) (n := 0) (Nat.le_of_ble_eq_true rfl) (Nat.le_of_ble_eq_true rfl) ?_
        exact ih.1 gr v1 v2 v3 (v4 + 1) _ _ hP9 hD9 hS _ (lv_sub hl [1, 2, 3, 4, 0] rfl) hm
      · rw [if_neg c_2] at hm
        refine lv_iconst (v := 0) hx hb dX4_behind_26 (by decide) ?_
        refine lv_istore (lv' := [(6, .int 0), (0, .ref h1), (1, .int v1), (2, .int v2), (3, .int v3), (4, .int v4), (5, .int v5)]) hx hb dX4_behind_27 hl (by decide) rfl (fun ls hl => ?_)
        have hP9 := hP.sub (ws' := [(h1, .inr (4, [.ref t1, .ref ga, .int gn, .int gr, .int gm, .int gt]))]) [0] rfl
        have hD9 := hD.sub (ws' := [(h1, .inr (4, [.ref t1, .ref ga, .int gn, .int gr, .int gm, .int gt]))]) [0] (by decide) rfl
        refine W.widen (k := 0) (n := 0) (Nat.le_of_ble_eq_true rfl) (Nat.le_of_ble_eq_true rfl) ?_
        exact ih.2.2 gr v1 v2 v3 v4 v5 0 _ _ hP9 hD9 hS _ (lv_sub hl [1, 2, 3, 4, 5, 6, 0] rfl) hm
    · intro gr v1 v2 v3 v4 v5 v6 H locs hP hD hS ls hl hm
      rw [f_X4_behind_L] at hm
      rw [if_neg (by decide), if_neg (by decide)] at hm
      refine lv_iload hx hb dX4_behind_29 (lv_at hl 6 rfl) ?_
      refine lv_aload_n hx hb dX4_behind_31 rfl (lv_at hl 0 rfl) ?_
      refine va_get (D := DG G) (ci := 4) (v := .int gr) (C := RX4) (T := TX4) (N := 6) hx hb hts inW_X4 hown hK hP 0 rfl rfl 3 (by decide) (hts _ wm223) (fun _ h9 => h9) rfl dX4_behind_32 ?_
      refine lv_icmp_ge (tgt := 106) hx hb dX4_behind_35 (by decide) (fun c_3 => ?_) (fun c_3 => ?_)
      · rw [if_pos c_3] at hm
        refine lv_iinc (v := (v5 + 1)) (lv' := [(5, .int (v5 + 1)), (0, .ref h1), (1, .int v1), (2, .int v2), (3, .int v3), (4, .int v4), (6, .int v6)]) hx hb dX4_behind_106 hl (k := 5) rfl rfl (by decide) rfl (fun ls hl => ?_)
        refine lv_goto (tgt := 17) hx hb dX4_behind_109 (by decide) ?_
        have hP9 := hP.sub (ws' := [(h1, .inr (4, [.ref t1, .ref ga, .int gn, .int gr, .int gm, .int gt]))]) [0] rfl
        have hD9 := hD.sub (ws' := [(h1, .inr (4, [.ref t1, .ref ga, .int gn, .int gr, .int gm, .int gt]))]) [0] (by decide) rfl
        refine W.widen (k := 0) (n := 0) (Nat.le_of_ble_eq_true rfl) (Nat.le_of_ble_eq_true rfl) ?_
        exact ih.2.1 gr v1 v2 v3 v4 (v5 + 1) _ _ hP9 hD9 hS _ (lv_sub hl [1, 2, 3, 4, 5, 0] rfl) hm
      · rw [if_neg c_3] at hm
        refine lv_iload_n hx hb dX4_behind_38 rfl (lv_at hl 1 rfl) ?_
        refine lv_iconst (v := 4) hx hb dX4_behind_39 (by decide) ?_
        refine lv_iload hx hb dX4_behind_40 (lv_at hl 4 rfl) ?_
        refine lv_imul hx hb dX4_behind_42 ?_
        refine lv_iload hx hb dX4_behind_43 (lv_at hl 5 rfl) ?_
        refine lv_iadd hx hb dX4_behind_45 ?_
        refine lv_iushr hx hb dX4_behind_46 rfl ?_
        refine lv_topi (fun yz_4 eyz_4 => ?_)
        obtain ⟨z_4, hz_4, hm⟩ := bind_some hm
        obtain rfl : yz_4 = z_4 := eyz_4.trans (Option.some.inj hz_4)
        refine lv_istore (lv' := [(7, .int yz_4), (0, .ref h1), (1, .int v1), (2, .int v2), (3, .int v3), (4, .int v4), (5, .int v5), (6, .int v6)]) hx hb dX4_behind_47 hl (by decide) rfl (fun ls hl => ?_)
        refine lv_iload_n hx hb dX4_behind_49 rfl (lv_at hl 3 rfl) ?_
        refine lv_iconst (v := 4) hx hb dX4_behind_50 (by decide) ?_
        refine lv_iload hx hb dX4_behind_51 (lv_at hl 6 rfl) ?_
        refine lv_imul hx hb dX4_behind_53 ?_
        refine lv_iload hx hb dX4_behind_54 (lv_at hl 7 rfl) ?_
        refine lv_iadd hx hb dX4_behind_56 ?_
        refine lv_iushr hx hb dX4_behind_57 rfl ?_
        refine lv_topi (fun yz_5 eyz_5 => ?_)
        obtain ⟨z_5, hz_5, hm⟩ := bind_some hm
        obtain rfl : yz_5 = z_5 := eyz_5.trans (Option.some.inj hz_5)
        refine lv_istore (lv' := [(8, .int yz_5), (7, .int yz_4), (0, .ref h1), (1, .int v1), (2, .int v2), (3, .int v3), (4, .int v4), (5, .int v5), (6, .int v6)]) hx hb dX4_behind_58 hl (by decide) rfl (fun ls hl => ?_)
        refine lv_iload hx hb dX4_behind_60 (lv_at hl 1 rfl) ?_
        refine lv_iload hx hb dX4_behind_62 (lv_at hl 0 rfl) ?_
        refine lv_iand hx hb dX4_behind_64 ?_
        refine lv_iconst (v := 1) hx hb dX4_behind_65 (by decide) ?_
        refine lv_iand hx hb dX4_behind_66 ?_
        refine lv_if_eq (tgt := 100) hx hb dX4_behind_67 (by decide) (fun c_6 => ?_) (fun c_6 => ?_)
        · rw [if_pos c_6] at hm
          refine lv_iinc (v := (v6 + 1)) (lv' := [(6, .int (v6 + 1)), (8, .int yz_5), (7, .int yz_4), (0, .ref h1), (1, .int v1), (2, .int v2), (3, .int v3), (4, .int v4), (5, .int v5)]) hx hb dX4_behind_100 hl (k := 8) rfl rfl (by decide) rfl (fun ls hl => ?_)
          refine lv_goto (tgt := 29) hx hb dX4_behind_103 (by decide) ?_
          have hP9 := hP.sub (ws' := [(h1, .inr (4, [.ref t1, .ref ga, .int gn, .int gr, .int gm, .int gt]))]) [0] rfl
          have hD9 := hD.sub (ws' := [(h1, .inr (4, [.ref t1, .ref ga, .int gn, .int gr, .int gm, .int gt]))]) [0] (by decide) rfl
          refine W.widen (k := 0) (n := 0) (Nat.le_of_ble_eq_true rfl) (Nat.le_of_ble_eq_true rfl) ?_
          exact ih.2.2 gr v1 v2 v3 v4 v5 (v6 + 1) _ _ hP9 hD9 hS _ (lv_sub hl [3, 4, 5, 6, 7, 8, 0] rfl) hm
        · rw [if_neg c_6] at hm
          refine lv_iload hx hb dX4_behind_70 (lv_at hl 1 rfl) ?_
          refine lv_iload hx hb dX4_behind_72 (lv_at hl 0 rfl) ?_
          refine lv_ior hx hb dX4_behind_74 ?_
          refine lv_bipush (v := 16) hx hb dX4_behind_75 (by decide) ?_
          refine lv_iushr hx hb dX4_behind_77 rfl ?_
          refine lv_iconst (v := 1) hx hb dX4_behind_78 (by decide) ?_
          refine lv_iand hx hb dX4_behind_79 ?_
          refine lv_topi (fun yz_7 eyz_7 => ?_)
          obtain ⟨z_7, hz_7, hm⟩ := bind_some hm
          obtain rfl : yz_7 = z_7 := eyz_7.trans (Option.some.inj hz_7)
          refine lv_istore (lv' := [(9, .int yz_7), (8, .int yz_5), (7, .int yz_4), (0, .ref h1), (1, .int v1), (2, .int v2), (3, .int v3), (4, .int v4), (5, .int v5), (6, .int v6)]) hx hb dX4_behind_80 hl (by decide) rfl (fun ls hl => ?_)
          refine lv_iload_n hx hb dX4_behind_82 rfl (lv_at hl 6 rfl) ?_
          refine lv_iconst (v := 1) hx hb dX4_behind_83 (by decide) ?_
          refine lv_iload hx hb dX4_behind_84 (lv_at hl 0 rfl) ?_
          refine lv_bipush (v := 16) hx hb dX4_behind_86 (by decide) ?_
          refine lv_ishl hx hb dX4_behind_88 ?_
          refine lv_ior hx hb dX4_behind_89 ?_
          refine lv_iconst (v := 4) hx hb dX4_behind_90 (by decide) ?_
          refine lv_iload hx hb dX4_behind_91 (lv_at hl 7 rfl) ?_
          refine lv_imul hx hb dX4_behind_93 ?_
          refine lv_iload hx hb dX4_behind_94 (lv_at hl 9 rfl) ?_
          refine lv_iadd hx hb dX4_behind_96 ?_
          refine lv_ishl hx hb dX4_behind_97 ?_
          refine lv_ior hx hb dX4_behind_98 ?_
          refine lv_topi (fun yz_8 eyz_8 => ?_)
          obtain ⟨z_8, hz_8, hm⟩ := bind_some hm
          obtain rfl : yz_8 = z_8 := eyz_8.trans (Option.some.inj hz_8)
          refine lv_istore_n (lv' := [(3, .int yz_8), (9, .int yz_7), (8, .int yz_5), (7, .int yz_4), (0, .ref h1), (1, .int v1), (2, .int v2), (4, .int v4), (5, .int v5), (6, .int v6)]) hx hb dX4_behind_99 rfl hl (by decide) rfl (fun ls hl => ?_)
          refine lv_iinc (v := (v6 + 1)) (lv' := [(6, .int (v6 + 1)), (3, .int yz_8), (9, .int yz_7), (8, .int yz_5), (7, .int yz_4), (0, .ref h1), (1, .int v1), (2, .int v2), (4, .int v4), (5, .int v5)]) hx hb dX4_behind_100 hl (k := 9) rfl rfl (by decide) rfl (fun ls hl => ?_)
          refine lv_goto (tgt := 29) hx hb dX4_behind_103 (by decide) ?_
          have hP9 := hP.sub (ws' := [(h1, .inr (4, [.ref t1, .ref ga, .int gn, .int gr, .int gm, .int gt]))]) [0] rfl
          have hD9 := hD.sub (ws' := [(h1, .inr (4, [.ref t1, .ref ga, .int gn, .int gr, .int gm, .int gt]))]) [0] (by decide) rfl
          refine W.widen (k := 0) (n := 0) (Nat.le_of_ble_eq_true rfl) (Nat.le_of_ble_eq_true rfl) ?_
          exact ih.2.2 gr v1 v2 yz_8 v4 v5 (v6 + 1) _ _ hP9 hD9 hS _ (lv_sub hl [5, 6, 7, 1, 8, 9, 0] rfl) hm
set_option maxHeartbeats 4000000 in
set_option maxRecDepth 100000 in
theorem k_X4_behind (l : Launch) (hfl : l.stackTraces = false) (G : GC) (h1 : Nat) (p1 : Int32) (p2 : Int32) (t1 : Nat) (ga : Nat) (gn : Int32) (gr : Int32) (gm : Int32) (gt : Int32) (r9 : Int32) (hm : f_X4_behind gr p1 p2 = some r9) (sz : Nat) : Met l yX4_behind (Cond.code yX4_behind cX4_behind 10 (some .int) :: W0) ({ frames := 0, cells := 0, slots := 0, locals := 0 }) (va_Pc [.ref h1, .int p1, .int p2] (WD G [(h1, .inr (4, [.ref t1, .ref ga, .int gn, .int gr, .int gm, .int gt]))] sz)) (va_Qi (fun (r : Int32) (_ : Unit) => r = r9) (fun _ t => PW G (va_A [(h1, .inr (4, [.ref t1, .ref ga, .int gn, .int gr, .int gm, .int gt]))] sz) [(h1, .inr (4, [.ref t1, .ref ga, .int gn, .int gr, .int gm, .int gt]))] t) (va_A [(h1, .inr (4, [.ref t1, .ref ga, .int gn, .int gr, .int gm, .int gt]))] sz)) 0 0 (va_A [(h1, .inr (4, [.ref t1, .ref ga, .int gn, .int gr, .int gm, .int gt]))] sz) := by
  rw [f_X4_behind] at hm
  refine Met.ofW (cc := cX4_behind) (maxL := 10) (ret := (some .int)) (by decide) rfl ?_
  intro p e s m args below meth c s₁ B hml hv
  obtain ⟨rfl, hsz, hP, hK, hD0, hE⟩ := hv
  have hx := B.exec
  have hb := B.bytes
  have hr := B.returns
  have hts := w0_tail B.pre
  have hown : s.vm.findClass RX4 = some m.cls := findClass_of_methodNamed B.named
  have hlocks := B.notSynchronized
  subst hsz
  have hD := hD0.self (sz := s.heap.size)
  generalize hAe : va_A [(h1, .inr (4, [.ref t1, .ref ga, .int gn, .int gr, .int gm, .int gt]))] s.heap.size = A at hD hE ⊢
  have hA : ∀ q : Nat, s.heap.size ≤ q → A q := fun q h => by rw [← hAe]; exact Or.inr h
  have hS : va_S A s.heap s.heap [] := va_S.rf
  obtain ⟨H, hHe⟩ : ∃ H : Heap, H = s.heap := ⟨_, rfl⟩
  have hP : va_P (DG G) clP3 [(h1, .inr (4, [.ref t1, .ref ga, .int gn, .int gr, .int gm, .int gt]))] H := by rw [hHe]; exact hP
  have hS : va_S A s.heap H [] := by rw [hHe]; exact hS
  have hl := lv_entry ([.ref h1, .int p1, .int p2]) (n := 10) (Nat.le_of_ble_eq_true rfl)
  rw [lg_entry_eq, ← hHe]
  generalize (lg_sl ([.ref h1, .int p1, .int p2]) ++ List.replicate (10 - (lg_sl ([.ref h1, .int p1, .int p2])).length) Slot.unset).toArray = ls at hl ⊢
  have hl : lv_has ls 10 [(0, .ref h1), (1, .int p1), (2, .int p2)] := hl
  refine lv_iconst (v := 0) hx hb dX4_behind_0 (by decide) ?_
  refine lv_istore_n (lv' := [(3, .int 0), (0, .ref h1), (1, .int p1), (2, .int p2)]) hx hb dX4_behind_1 rfl hl (by decide) rfl (fun ls hl => ?_)
  refine lv_iconst (v := 0) hx hb dX4_behind_2 (by decide) ?_
  refine lv_istore (lv' := [(4, .int 0), (3, .int 0), (0, .ref h1), (1, .int p1), (2, .int p2)]) hx hb dX4_behind_3 hl (by decide) rfl (fun ls hl => ?_)
  have hP9 := hP.sub (ws' := [(h1, .inr (4, [.ref t1, .ref ga, .int gn, .int gr, .int gm, .int gt]))]) [0] rfl
  have hD9 := hD.sub (ws' := [(h1, .inr (4, [.ref t1, .ref ga, .int gn, .int gr, .int gm, .int gt]))]) [0] (by decide) rfl
  refine W.widen (k := 0) (n := 0) (Nat.le_of_ble_eq_true rfl) (Nat.le_of_ble_eq_true rfl) ?_
  exact (kl_X4_behind hfl hx hb hr hml hown hts hlocks hA hE hK r9 100000).1 gr p1 p2 0 0 _ _ hP9 hD9 hS _ (lv_sub hl [2, 3, 4, 1, 0] rfl) hm
def f_X4_hasLess_L2 : Nat → (Int32) → (Int32) → (Int32) → Option (Int32)
  | 0, _, _, _ => none
  | n + 1, gr, v1, v2 => (if gr ≤ v2 then some 0 else (if ((v1.toUInt32 >>> (((16 + (5 * v2))).toUInt32 &&& Int32.toUInt32 31)).toInt32 &&& (1 : Int32)) = 0 then (f_X4_hasLess_L2 n gr v1 (v2 + 1)) else some 1))
def f_X4_hasLess  (gr : Int32) (p1 : Int32) : Option (Int32) := (f_X4_hasLess_L2 100000 gr p1 0)
set_option maxHeartbeats 4000000 in
set_option maxRecDepth 100000 in
theorem kl_X4_hasLess_2 {l : Launch} (hfl : l.stackTraces = false) {G : GC} {h1 : Nat} {t1 : Nat} {ga : Nat} {gn : Int32} {gm : Int32} {gt : Int32} {A : Nat → Prop} {p : Program} {e : Env} {s : State} {m : MethodId} {args : Array Value} {below : List Frame} {meth : Method} {c : Code} (hx : p.tables.exec = Jvm.exec) (hb : c.code = cX4_hasLess) (hr : meth.sig.returnType = (some .boolean)) (hml : c.maxLocals = 3) (hown : s.vm.findClass RX4 = some m.cls) (hts : ∀ w ∈ W0, w.before args s = true) (hlocks : meth.locks = false) (hA : ∀ q : Nat, s.heap.size ≤ q → A q) (hE : EV G A s s.heap) (hK : va_K (DG G) clP3 (TY G) s) (r9 : Int32) : ∀ (n : Nat) (gr : Int32) (v1 : Int32) (v2 : Int32) (H : Heap) (locs : List Loc), va_P (DG G) clP3 [(h1, .inr (4, [.ref t1, .ref ga, .int gn, .int gr, .int gm, .int gt]))] H → va_D A [(h1, .inr (4, [.ref t1, .ref ga, .int gn, .int gr, .int gm, .int gt]))] → va_S A s.heap H locs → ∀ (ls : Array Slot), lv_has ls 3 [(0, .ref h1), (1, .int v1), (2, .int v2)] → f_X4_hasLess_L2 n gr v1 v2 = some r9 → W p l e ({ frames := 0, cells := 0, slots := 0, locals := 0 }) s m args below meth c H locs 0 0 (MQ below (va_Qi (fun (r : Int32) (_ : Unit) => r = r9) (fun _ t => PW G A [(h1, .inr (4, [.ref t1, .ref ga, .int gn, .int gr, .int gm, .int gt]))] t) A) args s 0 0 A) (F0 m 2 ls []) := by
  intro n
  induction n with
  | zero =>
    intro gr v1 v2 H locs hP hD hS ls hl hm
    rw [f_X4_hasLess_L2] at hm
    cases hm
  | succ n ih =>
    intro gr v1 v2 H locs hP hD hS ls hl hm
    rw [f_X4_hasLess_L2] at hm
    refine lv_iload_n hx hb dX4_hasLess_2 rfl (lv_at hl 2 rfl) ?_
    refine lv_aload_n hx hb dX4_hasLess_3 rfl (lv_at hl 0 rfl) ?_
    refine va_get (D := DG G) (ci := 4) (v := .int gr) (C := RX4) (T := TX4) (N := 6) hx hb hts inW_X4 hown hK hP 0 rfl rfl 3 (by decide) (hts _ wm223) (fun _ h9 => h9) rfl dX4_hasLess_4 ?_
    refine lv_icmp_ge (tgt := 31) hx hb dX4_hasLess_7 (by decide) (fun c_1 => ?_) (fun c_1 => ?_)
    · rw [if_pos c_1] at hm
      refine lv_iconst (v := 0) hx hb dX4_hasLess_31 (by decide) ?_
      obtain rfl := Option.some.inj hm
      have hP9 := hP.sub (ws' := [(h1, .inr (4, [.ref t1, .ref ga, .int gn, .int gr, .int gm, .int gt]))]) [0] rfl
      have hD9 := hD.sub (ws' := [(h1, .inr (4, [.ref t1, .ref ga, .int gn, .int gr, .int gm, .int gt]))]) [0] (by decide) rfl
      refine W.widen (k := 0) (n := 0) (Nat.le_of_ble_eq_true rfl) (Nat.le_of_ble_eq_true rfl) ?_
      exact W.zret (v := 0) (ty := .boolean) hx hb hr (by decide) (fun t ht hW => ⟨⟨0, (), rfl, rfl, ⟨by rw [ht]; exact hP9, hD9⟩⟩, hS.F ht⟩) hS.2.2 dX4_hasLess_32 hlocks
    · rw [if_neg c_1] at hm
      refine lv_iload_n hx hb dX4_hasLess_10 rfl (lv_at hl 1 rfl) ?_
      refine lv_bipush (v := 16) hx hb dX4_hasLess_11 (by decide) ?_
      refine lv_iconst (v := 5) hx hb dX4_hasLess_13 (by decide) ?_
      refine lv_iload_n hx hb dX4_hasLess_14 rfl (lv_at hl 2 rfl) ?_
      refine lv_imul hx hb dX4_hasLess_15 ?_
      refine lv_iadd hx hb dX4_hasLess_16 ?_
      refine lv_iushr hx hb dX4_hasLess_17 rfl ?_
      refine lv_iconst (v := 1) hx hb dX4_hasLess_18 (by decide) ?_
      refine lv_iand hx hb dX4_hasLess_19 ?_
      refine lv_if_eq (tgt := 25) hx hb dX4_hasLess_20 (by decide) (fun c_2 => ?_) (fun c_2 => ?_)
      · rw [if_pos c_2] at hm
        refine lv_iinc (v := (v2 + 1)) (lv' := [(2, .int (v2 + 1)), (0, .ref h1), (1, .int v1)]) hx hb dX4_hasLess_25 hl (k := 2) rfl rfl (by decide) rfl (fun ls hl => ?_)
        refine lv_goto (tgt := 2) hx hb dX4_hasLess_28 (by decide) ?_
        have hP9 := hP.sub (ws' := [(h1, .inr (4, [.ref t1, .ref ga, .int gn, .int gr, .int gm, .int gt]))]) [0] rfl
        have hD9 := hD.sub (ws' := [(h1, .inr (4, [.ref t1, .ref ga, .int gn, .int gr, .int gm, .int gt]))]) [0] (by decide) rfl
        refine W.widen (k := 0) (n := 0) (Nat.le_of_ble_eq_true rfl) (Nat.le_of_ble_eq_true rfl) ?_
        exact ih gr v1 (v2 + 1) _ _ hP9 hD9 hS _ (lv_sub hl [1, 2, 0] rfl) hm
      · rw [if_neg c_2] at hm
        refine lv_iconst (v := 1) hx hb dX4_hasLess_23 (by decide) ?_
        obtain rfl := Option.some.inj hm
        have hP9 := hP.sub (ws' := [(h1, .inr (4, [.ref t1, .ref ga, .int gn, .int gr, .int gm, .int gt]))]) [0] rfl
        have hD9 := hD.sub (ws' := [(h1, .inr (4, [.ref t1, .ref ga, .int gn, .int gr, .int gm, .int gt]))]) [0] (by decide) rfl
        refine W.widen (k := 0) (n := 0) (Nat.le_of_ble_eq_true rfl) (Nat.le_of_ble_eq_true rfl) ?_
        exact W.zret (v := 1) (ty := .boolean) hx hb hr (by decide) (fun t ht hW => ⟨⟨1, (), rfl, rfl, ⟨by rw [ht]; exact hP9, hD9⟩⟩, hS.F ht⟩) hS.2.2 dX4_hasLess_24 hlocks
set_option maxHeartbeats 4000000 in
set_option maxRecDepth 100000 in
theorem k_X4_hasLess (l : Launch) (hfl : l.stackTraces = false) (G : GC) (h1 : Nat) (p1 : Int32) (t1 : Nat) (ga : Nat) (gn : Int32) (gr : Int32) (gm : Int32) (gt : Int32) (r9 : Int32) (hm : f_X4_hasLess gr p1 = some r9) (sz : Nat) : Met l yX4_hasLess (Cond.code yX4_hasLess cX4_hasLess 3 (some .boolean) :: W0) ({ frames := 0, cells := 0, slots := 0, locals := 0 }) (va_Pc [.ref h1, .int p1] (WD G [(h1, .inr (4, [.ref t1, .ref ga, .int gn, .int gr, .int gm, .int gt]))] sz)) (va_Qi (fun (r : Int32) (_ : Unit) => r = r9) (fun _ t => PW G (va_A [(h1, .inr (4, [.ref t1, .ref ga, .int gn, .int gr, .int gm, .int gt]))] sz) [(h1, .inr (4, [.ref t1, .ref ga, .int gn, .int gr, .int gm, .int gt]))] t) (va_A [(h1, .inr (4, [.ref t1, .ref ga, .int gn, .int gr, .int gm, .int gt]))] sz)) 0 0 (va_A [(h1, .inr (4, [.ref t1, .ref ga, .int gn, .int gr, .int gm, .int gt]))] sz) := by
  rw [f_X4_hasLess] at hm
  refine Met.ofW (cc := cX4_hasLess) (maxL := 3) (ret := (some .boolean)) (by decide) rfl ?_
  intro p e s m args below meth c s₁ B hml hv
  obtain ⟨rfl, hsz, hP, hK, hD0, hE⟩ := hv
  have hx := B.exec
  have hb := B.bytes
  have hr := B.returns
  have hts := w0_tail B.pre
  have hown : s.vm.findClass RX4 = some m.cls := findClass_of_methodNamed B.named
  have hlocks := B.notSynchronized
  subst hsz
  have hD := hD0.self (sz := s.heap.size)
  generalize hAe : va_A [(h1, .inr (4, [.ref t1, .ref ga, .int gn, .int gr, .int gm, .int gt]))] s.heap.size = A at hD hE ⊢
  have hA : ∀ q : Nat, s.heap.size ≤ q → A q := fun q h => by rw [← hAe]; exact Or.inr h
  have hS : va_S A s.heap s.heap [] := va_S.rf
  obtain ⟨H, hHe⟩ : ∃ H : Heap, H = s.heap := ⟨_, rfl⟩
  have hP : va_P (DG G) clP3 [(h1, .inr (4, [.ref t1, .ref ga, .int gn, .int gr, .int gm, .int gt]))] H := by rw [hHe]; exact hP
  have hS : va_S A s.heap H [] := by rw [hHe]; exact hS
  have hl := lv_entry ([.ref h1, .int p1]) (n := 3) (Nat.le_of_ble_eq_true rfl)
  rw [lg_entry_eq, ← hHe]
  generalize (lg_sl ([.ref h1, .int p1]) ++ List.replicate (3 - (lg_sl ([.ref h1, .int p1])).length) Slot.unset).toArray = ls at hl ⊢
  have hl : lv_has ls 3 [(0, .ref h1), (1, .int p1)] := hl
  refine lv_iconst (v := 0) hx hb dX4_hasLess_0 (by decide) ?_
  refine lv_istore_n (lv' := [(2, .int 0), (0, .ref h1), (1, .int p1)]) hx hb dX4_hasLess_1 rfl hl (by decide) rfl (fun ls hl => ?_)
  have hP9 := hP.sub (ws' := [(h1, .inr (4, [.ref t1, .ref ga, .int gn, .int gr, .int gm, .int gt]))]) [0] rfl
  have hD9 := hD.sub (ws' := [(h1, .inr (4, [.ref t1, .ref ga, .int gn, .int gr, .int gm, .int gt]))]) [0] (by decide) rfl
  refine W.widen (k := 0) (n := 0) (Nat.le_of_ble_eq_true rfl) (Nat.le_of_ble_eq_true rfl) ?_
  exact kl_X4_hasLess_2 hfl hx hb hr hml hown hts hlocks hA hE hK r9 100000 gr p1 0 _ _ hP9 hD9 hS _ (lv_sub hl [1, 2, 0] rfl) hm
def f_X4_comeToAnEnd_L : Nat → Nat → (Int32) → (Int32) → (Int32) → (Nat → Int32) → (Int32) → (Int32) → (Int32) → Option (Int32 × Int32 × Int32 × Int32 × (Nat → Int32))
  | 0, _, _, _, _, _, _, _, _ => none
  | n + 1, k, gr, gm, gt, gf, v1, v2, v3 => (if k = 0 then (if 200 ≤ v2 then (f_X4_comeToAnEnd_L n 2 gr gm gt gf 0 0 0) else (if gm ≤ v2 then (f_X4_comeToAnEnd_L n 2 gr gm gt gf 0 0 0) else (if gt = 0 then (f_X4_comeToAnEnd_L n 1 gr gm gt gf v1 v2 0) else (f_X4_comeToAnEnd_L n 2 gr gm gt gf 0 0 0)))) else (if k = 1 then (if v1 ≤ v3 then (f_X4_comeToAnEnd_L n 0 gr gm gt gf v1 (v2 + 1) 0) else (if gt = 0 then (if inb v2 200 = true then (if inb v3 200 = true then (Option.bind (f_X4_behind gr (gf (Int32.toNatClampNeg v2)) (gf (Int32.toNatClampNeg v3))) (fun q_20 => (Option.bind (f_X4_add gm gt gf q_20) (fun q_21 => (f_X4_comeToAnEnd_L n 1 gr q_21.1 q_21.2.1 q_21.2.2 v1 v2 (v3 + 1)))))) else none) else none) else (f_X4_comeToAnEnd_L n 0 gr gm gt gf v1 (v2 + 1) 0))) else (if gm ≤ v2 then (if gt = 0 then some (1, gr, gm, gt, gf) else some (0, gr, gm, gt, gf)) else (if gt = 0 then (if inb v2 200 = true then (if inb v2 200 = true then (Option.bind (f_X4_behind gr (gf (Int32.toNatClampNeg v2)) (gf (Int32.toNatClampNeg v2))) (fun q_10 => (if inb v2 200 = true then (if q_10 = (gf (Int32.toNatClampNeg v2)) then (if inb v2 200 = true then (Option.bind (f_X4_hasLess gr (gf (Int32.toNatClampNeg v2))) (fun q_14 => (if q_14 = 0 then some (0, gr, gm, gt, gf) else (f_X4_comeToAnEnd_L n 2 gr gm gt gf 0 (v2 + 1) 0)))) else none) else (f_X4_comeToAnEnd_L n 2 gr gm gt gf 0 (v2 + 1) 0)) else none))) else none) else none) else (if gt = 0 then some (1, gr, gm, gt, gf) else some (0, gr, gm, gt, gf))))))
def f_X4_comeToAnEnd  (gr : Int32) (gm : Int32) (gt : Int32) (gf : Nat → Int32)  : Option (Int32 × Int32 × Int32 × Int32 × (Nat → Int32)) := (f_X4_comeToAnEnd_L 100000 0 gr gm gt gf gm 0 0)
set_option maxHeartbeats 4000000 in
set_option maxRecDepth 100000 in
theorem kl_X4_comeToAnEnd {l : Launch} (hfl : l.stackTraces = false) {G : GC} {h1 : Nat} {t1 : Nat} {ga : Nat} {gn : Int32} {A : Nat → Prop} {p : Program} {e : Env} {s : State} {m : MethodId} {args : Array Value} {below : List Frame} {meth : Method} {c : Code} (hx : p.tables.exec = Jvm.exec) (hb : c.code = cX4_comeToAnEnd) (hr : meth.sig.returnType = (some .boolean)) (hml : c.maxLocals = 4) (hown : s.vm.findClass RX4 = some m.cls) (hts : ∀ w ∈ W0, w.before args s = true) (hlocks : meth.locks = false) (hA : ∀ q : Nat, s.heap.size ≤ q → A q) (hE : EV G A s s.heap) (hK : va_K (DG G) clP3 (TY G) s) (r9 : Int32) (gr_9 : Int32) (gm_9 : Int32) (gt_9 : Int32) (gf_9 : Nat → Int32) : ∀ (n : Nat), (∀ (gr : Int32) (gm : Int32) (gt : Int32) (gf : Nat → Int32) (v1 : Int32) (v2 : Int32) (H : Heap) (locs : List Loc), va_P (DG G) clP3 [(h1, .inr (4, [.ref t1, .ref ga, .int gn, .int gr, .int gm, .int gt])), (ga, .inl (cyA G 0, 200, .inl (gf)))] H → va_D A [(h1, .inr (4, [.ref t1, .ref ga, .int gn, .int gr, .int gm, .int gt])), (ga, .inl (cyA G 0, 200, .inl (gf)))] → va_S A s.heap H locs → ∀ (ls : Array Slot), lv_has ls 4 [(0, .ref h1), (1, .int v1), (2, .int v2)] → f_X4_comeToAnEnd_L n 0 gr gm gt gf v1 v2 0 = some (r9, gr_9, gm_9, gt_9, gf_9) → W p l e ({ frames := 1, cells := 0, slots := 0, locals := 29 }) s m args below meth c H locs 0 0 (MQ below (va_Qi (fun (r : Int32) (_ : Unit) => r = r9) (fun _ t => PW G A [(h1, .inr (4, [.ref t1, .ref ga, .int gn, .int gr_9, .int gm_9, .int gt_9])), (ga, .inl (cyA G 0, 200, .inl (gf_9)))] t) A) args s 0 0 A) (F0 m 7 ls [])) ∧ (∀ (gr : Int32) (gm : Int32) (gt : Int32) (gf : Nat → Int32) (v1 : Int32) (v2 : Int32) (v3 : Int32) (H : Heap) (locs : List Loc), va_P (DG G) clP3 [(h1, .inr (4, [.ref t1, .ref ga, .int gn, .int gr, .int gm, .int gt])), (ga, .inl (cyA G 0, 200, .inl (gf)))] H → va_D A [(h1, .inr (4, [.ref t1, .ref ga, .int gn, .int gr, .int gm, .int gt])), (ga, .inl (cyA G 0, 200, .inl (gf)))] → va_S A s.heap H locs → ∀ (ls : Array Slot), lv_has ls 4 [(0, .ref h1), (1, .int v1), (2, .int v2), (3, .int v3)] → f_X4_comeToAnEnd_L n 1 gr gm gt gf v1 v2 v3 = some (r9, gr_9, gm_9, gt_9, gf_9) → W p l e ({ frames := 1, cells := 0, slots := 0, locals := 29 }) s m args below meth c H locs 0 0 (MQ below (va_Qi (fun (r : Int32) (_ : Unit) => r = r9) (fun _ t => PW G A [(h1, .inr (4, [.ref t1, .ref ga, .int gn, .int gr_9, .int gm_9, .int gt_9])), (ga, .inl (cyA G 0, 200, .inl (gf_9)))] t) A) args s 0 0 A) (F0 m 31 ls [])) ∧ (∀ (gr : Int32) (gm : Int32) (gt : Int32) (gf : Nat → Int32) (v2 : Int32) (H : Heap) (locs : List Loc), va_P (DG G) clP3 [(h1, .inr (4, [.ref t1, .ref ga, .int gn, .int gr, .int gm, .int gt])), (ga, .inl (cyA G 0, 200, .inl (gf)))] H → va_D A [(h1, .inr (4, [.ref t1, .ref ga, .int gn, .int gr, .int gm, .int gt])), (ga, .inl (cyA G 0, 200, .inl (gf)))] → va_S A s.heap H locs → ∀ (ls : Array Slot), lv_has ls 4 [(0, .ref h1), (2, .int v2)] → f_X4_comeToAnEnd_L n 2 gr gm gt gf 0 v2 0 = some (r9, gr_9, gm_9, gt_9, gf_9) → W p l e ({ frames := 1, cells := 0, slots := 0, locals := 29 }) s m args below meth c H locs 0 0 (MQ below (va_Qi (fun (r : Int32) (_ : Unit) => r = r9) (fun _ t => PW G A [(h1, .inr (4, [.ref t1, .ref ga, .int gn, .int gr_9, .int gm_9, .int gt_9])), (ga, .inl (cyA G 0, 200, .inl (gf_9)))] t) A) args s 0 0 A) (F0 m 77 ls [])) := by
  intro n
  induction n with
  | zero =>
    refine ⟨?_, ?_, ?_⟩
    · intro gr gm gt gf v1 v2 H locs hP hD hS ls hl hm
      rw [f_X4_comeToAnEnd_L] at hm
      cases hm
    · intro gr gm gt gf v1 v2 v3 H locs hP hD hS ls hl hm
      rw [f_X4_comeToAnEnd_L] at hm
      cases hm
    · intro gr gm gt gf v2 H locs hP hD hS ls hl hm
      rw [f_X4_comeToAnEnd_L] at hm
      cases hm
  | succ n ih =>
    refine ⟨?_, ?_, ?_⟩
    · intro gr gm gt gf v1 v2 H locs hP hD hS ls hl hm
      rw [f_X4_comeToAnEnd_L] at hm
      rw [if_pos rfl] at hm
      refine lv_iload_n hx hb dX4_comeToAnEnd_7 rfl (lv_at hl 2 rfl) ?_
      refine lv_sipush (v := 200) hx hb dX4_comeToAnEnd_8 (by decide) ?_
      refine lv_icmp_ge (tgt := 75) hx hb dX4_comeToAnEnd_11 (by decide) (fun c_1 => ?_) (fun c_1 => ?_)
      · rw [if_pos c_1] at hm
        refine lv_iconst (v := 0) hx hb dX4_comeToAnEnd_75 (by decide) ?_
        refine lv_istore_n (lv' := [(2, .int 0), (0, .ref h1), (1, .int v1)]) hx hb dX4_comeToAnEnd_76 rfl hl (by decide) rfl (fun ls hl => ?_)
        have hP9 := hP.sub (ws' := [(h1, .inr (4, [.ref t1, .ref ga, .int gn, .int gr, .int gm, .int gt])), (ga, .inl (cyA G 0, 200, .inl (gf)))]) [0, 1] rfl
        have hD9 := hD.sub (ws' := [(h1, .inr (4, [.ref t1, .ref ga, .int gn, .int gr, .int gm, .int gt])), (ga, .inl (cyA G 0, 200, .inl (gf)))]) [0, 1] (by decide) rfl
        refine W.widen (k := 0) (n := 0) (Nat.le_of_ble_eq_true rfl) (Nat.le_of_ble_eq_true rfl) ?_
        exact ih.2.2 gr gm gt gf 0 _ _ hP9 hD9 hS _ (lv_sub hl [1, 0] rfl) hm
      · rw [if_neg c_1] at hm
        refine lv_iload_n hx hb dX4_comeToAnEnd_14 rfl (lv_at hl 2 rfl) ?_
        refine lv_aload_n hx hb dX4_comeToAnEnd_15 rfl (lv_at hl 0 rfl) ?_
        refine va_get (D := DG G) (ci := 4) (v := .int gm) (C := RX4) (T := TX4) (N := 6) hx hb hts inW_X4 hown hK hP 0 rfl rfl 4 (by decide) (hts _ wm224) (fun _ h9 => h9) rfl dX4_comeToAnEnd_16 ?_
        refine lv_icmp_ge (tgt := 75) hx hb dX4_comeToAnEnd_19 (by decide) (fun c_2 => ?_) (fun c_2 => ?_)
        · rw [if_pos c_2] at hm
          refine lv_iconst (v := 0) hx hb dX4_comeToAnEnd_75 (by decide) ?_
          refine lv_istore_n (lv' := [(2, .int 0), (0, .ref h1), (1, .int v1)]) hx hb dX4_comeToAnEnd_76 rfl hl (by decide) rfl (fun ls hl => ?_)
          have hP9 := hP.sub (ws' := [(h1, .inr (4, [.ref t1, .ref ga, .int gn, .int gr, .int gm, .int gt])), (ga, .inl (cyA G 0, 200, .inl (gf)))]) [0, 1] rfl
          have hD9 := hD.sub (ws' := [(h1, .inr (4, [.ref t1, .ref ga, .int gn, .int gr, .int gm, .int gt])), (ga, .inl (cyA G 0, 200, .inl (gf)))]) [0, 1] (by decide) rfl
          refine W.widen (k := 0) (n := 0) (Nat.le_of_ble_eq_true rfl) (Nat.le_of_ble_eq_true rfl) ?_
          exact ih.2.2 gr gm gt gf 0 _ _ hP9 hD9 hS _ (lv_sub hl [1, 0] rfl) hm
        · rw [if_neg c_2] at hm
          refine lv_aload_n hx hb dX4_comeToAnEnd_22 rfl (lv_at hl 0 rfl) ?_
          refine va_get (D := DG G) (ci := 4) (v := .int gt) (C := RX4) (T := TX4) (N := 6) hx hb hts inW_X4 hown hK hP 0 rfl rfl 5 (by decide) (hts _ wm226) (fun _ h9 => h9) rfl dX4_comeToAnEnd_23 ?_
          refine lv_if_ne (tgt := 75) hx hb dX4_comeToAnEnd_26 (by decide) (fun c_3 => ?_) (fun c_3 => ?_)
          · rw [if_neg c_3] at hm
            refine lv_iconst (v := 0) hx hb dX4_comeToAnEnd_75 (by decide) ?_
            refine lv_istore_n (lv' := [(2, .int 0), (0, .ref h1), (1, .int v1)]) hx hb dX4_comeToAnEnd_76 rfl hl (by decide) rfl (fun ls hl => ?_)
            have hP9 := hP.sub (ws' := [(h1, .inr (4, [.ref t1, .ref ga, .int gn, .int gr, .int gm, .int gt])), (ga, .inl (cyA G 0, 200, .inl (gf)))]) [0, 1] rfl
            have hD9 := hD.sub (ws' := [(h1, .inr (4, [.ref t1, .ref ga, .int gn, .int gr, .int gm, .int gt])), (ga, .inl (cyA G 0, 200, .inl (gf)))]) [0, 1] (by decide) rfl
            refine W.widen (k := 0) (n := 0) (Nat.le_of_ble_eq_true rfl) (Nat.le_of_ble_eq_true rfl) ?_
            exact ih.2.2 gr gm gt gf 0 _ _ hP9 hD9 hS _ (lv_sub hl [1, 0] rfl) hm
          · rw [if_pos c_3] at hm
            refine lv_iconst (v := 0) hx hb dX4_comeToAnEnd_29 (by decide) ?_
            refine lv_istore_n (lv' := [(3, .int 0), (0, .ref h1), (1, .int v1), (2, .int v2)]) hx hb dX4_comeToAnEnd_30 rfl hl (by decide) rfl (fun ls hl => ?_)
            have hP9 := hP.sub (ws' := [(h1, .inr (4, [.ref t1, .ref ga, .int gn, .int gr, .int gm, .int gt])), (ga, .inl (cyA G 0, 200, .inl (gf)))]) [0, 1] rfl
            have hD9 := hD.sub (ws' := [(h1, .inr (4, [.ref t1, .ref ga, .int gn, .int gr, .int gm, .int gt])), (ga, .inl (cyA G 0, 200, .inl (gf)))]) [0, 1] (by decide) rfl
            refine W.widen (k := 0) (n := 0) (Nat.le_of_ble_eq_true rfl) (Nat.le_of_ble_eq_true rfl) ?_
            exact ih.2.1 gr gm gt gf v1 v2 0 _ _ hP9 hD9 hS _ (lv_sub hl [1, 2, 3, 0] rfl) hm
    · intro gr gm gt gf v1 v2 v3 H locs hP hD hS ls hl hm
      rw [f_X4_comeToAnEnd_L] at hm
      rw [if_neg (by decide), if_pos rfl] at hm
      refine lv_iload_n hx hb dX4_comeToAnEnd_31 rfl (lv_at hl 3 rfl) ?_
      refine lv_iload_n hx hb dX4_comeToAnEnd_32 rfl (lv_at hl 1 rfl) ?_
      refine lv_icmp_ge (tgt := 69) hx hb dX4_comeToAnEnd_33 (by decide) (fun c_16 => ?_) (fun c_16 => ?_)
      · rw [if_pos c_16] at hm
        refine lv_iinc (v := (v2 + 1)) (lv' := [(2, .int (v2 + 1)), (0, .ref h1), (1, .int v1), (3, .int v3)]) hx hb dX4_comeToAnEnd_69 hl (k := 2) rfl rfl (by decide) rfl (fun ls hl => ?_)
        refine lv_goto (tgt := 7) hx hb dX4_comeToAnEnd_72 (by decide) ?_
        have hP9 := hP.sub (ws' := [(h1, .inr (4, [.ref t1, .ref ga, .int gn, .int gr, .int gm, .int gt])), (ga, .inl (cyA G 0, 200, .inl (gf)))]) [0, 1] rfl
        have hD9 := hD.sub (ws' := [(h1, .inr (4, [.ref t1, .ref ga, .int gn, .int gr, .int gm, .int gt])), (ga, .inl (cyA G 0, 200, .inl (gf)))]) [0, 1] (by decide) rfl
        refine W.widen (k := 0) (n := 0) (Nat.le_of_ble_eq_true rfl) (Nat.le_of_ble_eq_true rfl) ?_
        exact ih.1 gr gm gt gf v1 (v2 + 1) _ _ hP9 hD9 hS _ (lv_sub hl [1, 2, 0] rfl) hm
      · rw [if_neg c_16] at hm
        refine lv_aload_n hx hb dX4_comeToAnEnd_36 rfl (lv_at hl 0 rfl) ?_
        refine va_get (D := DG G) (ci := 4) (v := .int gt) (C := RX4) (T := TX4) (N := 6) hx hb hts inW_X4 hown hK hP 0 rfl rfl 5 (by decide) (hts _ wm226) (fun _ h9 => h9) rfl dX4_comeToAnEnd_37 ?_
        refine lv_if_ne (tgt := 69) hx hb dX4_comeToAnEnd_40 (by decide) (fun c_17 => ?_) (fun c_17 => ?_)
        · rw [if_neg c_17] at hm
          refine lv_iinc (v := (v2 + 1)) (lv' := [(2, .int (v2 + 1)), (0, .ref h1), (1, .int v1), (3, .int v3)]) hx hb dX4_comeToAnEnd_69 hl (k := 2) rfl rfl (by decide) rfl (fun ls hl => ?_)
          refine lv_goto (tgt := 7) hx hb dX4_comeToAnEnd_72 (by decide) ?_
          have hP9 := hP.sub (ws' := [(h1, .inr (4, [.ref t1, .ref ga, .int gn, .int gr, .int gm, .int gt])), (ga, .inl (cyA G 0, 200, .inl (gf)))]) [0, 1] rfl
          have hD9 := hD.sub (ws' := [(h1, .inr (4, [.ref t1, .ref ga, .int gn, .int gr, .int gm, .int gt])), (ga, .inl (cyA G 0, 200, .inl (gf)))]) [0, 1] (by decide) rfl
          refine W.widen (k := 0) (n := 0) (Nat.le_of_ble_eq_true rfl) (Nat.le_of_ble_eq_true rfl) ?_
          exact ih.1 gr gm gt gf v1 (v2 + 1) _ _ hP9 hD9 hS _ (lv_sub hl [1, 2, 0] rfl) hm
        · rw [if_pos c_17] at hm
          refine lv_aload_n hx hb dX4_comeToAnEnd_43 rfl (lv_at hl 0 rfl) ?_
          refine lv_aload_n hx hb dX4_comeToAnEnd_44 rfl (lv_at hl 0 rfl) ?_
          refine lv_aload_n hx hb dX4_comeToAnEnd_45 rfl (lv_at hl 0 rfl) ?_
          refine va_get (D := DG G) (ci := 4) (v := .ref ga) (C := RX4) (T := TX4) (N := 6) hx hb hts inW_X4 hown hK hP 0 rfl rfl 1 (by decide) (hts _ wm221) (fun _ h9 => h9) rfl dX4_comeToAnEnd_46 ?_
          refine lv_iload_n hx hb dX4_comeToAnEnd_49 rfl (lv_at hl 2 rfl) ?_
          obtain ⟨b_18, hm⟩ := ite_some hm
          refine va_iald hx hb hK hP 1 0 rfl rfl (inb_vp b_18) dX4_comeToAnEnd_50 ?_
          refine lv_aload_n hx hb dX4_comeToAnEnd_51 rfl (lv_at hl 0 rfl) ?_
          refine va_get (D := DG G) (ci := 4) (v := .ref ga) (C := RX4) (T := TX4) (N := 6) hx hb hts inW_X4 hown hK hP 0 rfl rfl 1 (by decide) (hts _ wm221) (fun _ h9 => h9) rfl dX4_comeToAnEnd_52 ?_
          refine lv_iload_n hx hb dX4_comeToAnEnd_55 rfl (lv_at hl 3 rfl) ?_
          obtain ⟨b_19, hm⟩ := ite_some hm
          refine va_iald hx hb hK hP 1 0 rfl rfl (inb_vp b_19) dX4_comeToAnEnd_56 ?_
          obtain ⟨q_20, hq_20, hm⟩ := bind_some hm
          have hFc := va_free (wc := [(h1, .inr (4, [.ref t1, .ref ga, .int gn, .int gr, .int gm, .int gt]))]) hD hS hA [0] rfl
          refine va_calli (va_runV (As := [.int (gf (Int32.toNatClampNeg v2)), .int (gf (Int32.toNatClampNeg v3))]) (rest := [.ref h1]) ⟨hx, hb, hml, hown, hts⟩ (k_X4_behind l hfl G h1 (gf (Int32.toNatClampNeg v2)) (gf (Int32.toNatClampNeg v3)) t1 ga gn gr gm gt q_20 hq_20 H.size) (cwV 2 hts (gV wm1142 wm1144 ws_p19 wm9 wm1145) rfl rfl rfl (by decide +kernel) ⟨Nat.le_of_ble_eq_true rfl, Nat.le_of_ble_eq_true rfl⟩) (pre_v (pre_s hK hP hD hS hE [0] rfl rfl (by decide) hFc) (va_recv hK hP (ci := 4) (q0 := 0) rfl rfl)) rfl rfl hl.1 rfl (lv_room (Nat.le_of_ble_eq_true rfl)) dX4_comeToAnEnd_57 ⟨Nat.le_of_ble_eq_true rfl, Nat.le_of_ble_eq_true rfl⟩) hS (fun q _ h => hFc q h) hFc (fun r u t H locs ht hvm hw hB hz1 hk1 hS => ?_)
          rw [show r = q_20 from hw]
          obtain ⟨hP1, hD1⟩ := hB
          rw [ht] at hP1
          obtain ⟨hP, hD⟩ := va_join (wr := [(ga, .inl (cyA G 0, 200, .inl (gf)))]) (w1 := [(h1, .inr (4, [.ref t1, .ref ga, .int gn, .int gr, .int gm, .int gt]))]) hP hD [0] [1] rfl rfl (by decide) (by decide) hk1 hFc hP1 hD1
          have hP : va_P (DG G) clP3 [(ga, .inl (cyA G 0, 200, .inl (gf))), (h1, .inr (4, [.ref t1, .ref ga, .int gn, .int gr, .int gm, .int gt]))] H := hP
          have hD : va_D A [(ga, .inl (cyA G 0, 200, .inl (gf))), (h1, .inr (4, [.ref t1, .ref ga, .int gn, .int gr, .int gm, .int gt]))] := hD
          refine W.widen (k := 0) (n := 0) (Nat.le_of_ble_eq_true rfl) (Nat.le_of_ble_eq_true rfl) ?_
          obtain ⟨q_21, hq_21, hm⟩ := bind_some hm
          have hFc := va_free (wc := [(h1, .inr (4, [.ref t1, .ref ga, .int gn, .int gr, .int gm, .int gt])), (ga, .inl (cyA G 0, 200, .inl (gf)))]) hD hS hA [1, 0] rfl
          refine va_callv (va_runV (As := [.int q_20]) (rest := []) ⟨hx, hb, hml, hown, hts⟩ (k_X4_add l hfl G h1 q_20 t1 ga gn gr gm gt gf q_21.1 q_21.2.1 q_21.2.2 hq_21 H.size) (cwV 1 hts (gV wm1134 wm1136 ws_p18 wm9 wm1137) rfl rfl rfl (by decide +kernel) ⟨Nat.le_of_ble_eq_true rfl, Nat.le_of_ble_eq_true rfl⟩) (pre_v (pre_s hK hP hD hS hE [1, 0] rfl rfl (by decide) hFc) (va_recv hK hP (ci := 4) (q0 := 1) rfl rfl)) rfl rfl hl.1 rfl (lv_room (Nat.le_of_ble_eq_true rfl)) dX4_comeToAnEnd_60 ⟨Nat.le_of_ble_eq_true rfl, Nat.le_of_ble_eq_true rfl⟩) hS (fun q _ h => hFc q h) hFc (fun u t H locs ht hvm hw hB hz1 hk1 hS => ?_)
          obtain ⟨hP1, hD1⟩ := hB
          rw [ht] at hP1
          obtain ⟨hP, hD⟩ := va_join (wr := []) (w1 := [(h1, .inr (4, [.ref t1, .ref ga, .int gn, .int gr, .int q_21.1, .int q_21.2.1])), (ga, .inl (cyA G 0, 200, .inl (q_21.2.2)))]) hP hD [1, 0] [] rfl rfl (by decide) (by decide) hk1 hFc hP1 hD1
          have hP : va_P (DG G) clP3 [(h1, .inr (4, [.ref t1, .ref ga, .int gn, .int gr, .int q_21.1, .int q_21.2.1])), (ga, .inl (cyA G 0, 200, .inl (q_21.2.2)))] H := hP
          have hD : va_D A [(h1, .inr (4, [.ref t1, .ref ga, .int gn, .int gr, .int q_21.1, .int q_21.2.1])), (ga, .inl (cyA G 0, 200, .inl (q_21.2.2)))] := hD
          refine W.widen (k := 0) (n := 0) (Nat.le_of_ble_eq_true rfl) (Nat.le_of_ble_eq_true rfl) ?_
          refine lv_iinc (v := (v3 + 1)) (lv' := [(3, .int (v3 + 1)), (0, .ref h1), (1, .int v1), (2, .int v2)]) hx hb dX4_comeToAnEnd_63 hl (k := 3) rfl rfl (by decide) rfl (fun ls hl => ?_)
          refine lv_goto (tgt := 31) hx hb dX4_comeToAnEnd_66 (by decide) ?_
          have hP9 := hP.sub (ws' := [(h1, .inr (4, [.ref t1, .ref ga, .int gn, .int gr, .int q_21.1, .int q_21.2.1])), (ga, .inl (cyA G 0, 200, .inl (q_21.2.2)))]) [0, 1] rfl
          have hD9 := hD.sub (ws' := [(h1, .inr (4, [.ref t1, .ref ga, .int gn, .int gr, .int q_21.1, .int q_21.2.1])), (ga, .inl (cyA G 0, 200, .inl (q_21.2.2)))]) [0, 1] (by decide) rfl
          refine W.widen (k := 0) (n := 0) (Nat.le_of_ble_eq_true rfl) (Nat.le_of_ble_eq_true rfl) ?_
          exact ih.2.1 gr q_21.1 q_21.2.1 q_21.2.2 v1 v2 (v3 + 1) _ _ hP9 hD9 hS _ (lv_sub hl [1, 2, 3, 0] rfl) hm
    · intro gr gm gt gf v2 H locs hP hD hS ls hl hm
      rw [f_X4_comeToAnEnd_L] at hm
      rw [if_neg (by decide), if_neg (by decide)] at hm
      refine lv_iload_n hx hb dX4_comeToAnEnd_77 rfl (lv_at hl 1 rfl) ?_
      refine lv_aload_n hx hb dX4_comeToAnEnd_78 rfl (lv_at hl 0 rfl) ?_
      refine va_get (D := DG G) (ci := 4) (v := .int gm) (C := RX4) (T := TX4) (N := 6) hx hb hts inW_X4 hown hK hP 0 rfl rfl 4 (by decide) (hts _ wm224) (fun _ h9 => h9) rfl dX4_comeToAnEnd_79 ?_
      refine lv_icmp_ge (tgt := 138) hx hb dX4_comeToAnEnd_82 (by decide) (fun c_4 => ?_) (fun c_4 => ?_)
      · rw [if_pos c_4] at hm
        refine lv_aload_n hx hb dX4_comeToAnEnd_138 rfl (lv_at hl 0 rfl) ?_
        refine va_get (D := DG G) (ci := 4) (v := .int gt) (C := RX4) (T := TX4) (N := 6) hx hb hts inW_X4 hown hK hP 0 rfl rfl 5 (by decide) (hts _ wm226) (fun _ h9 => h9) rfl dX4_comeToAnEnd_139 ?_
        refine lv_if_ne (tgt := 149) hx hb dX4_comeToAnEnd_142 (by decide) (fun c_5 => ?_) (fun c_5 => ?_)
        · rw [if_neg c_5] at hm
          refine lv_iconst (v := 0) hx hb dX4_comeToAnEnd_149 (by decide) ?_
          simp only [Option.some.injEq, Prod.mk.injEq] at hm
          obtain ⟨rfl, rfl, rfl, rfl, rfl⟩ := hm
          have hP9 := hP.sub (ws' := [(h1, .inr (4, [.ref t1, .ref ga, .int gn, .int gr, .int gm, .int gt])), (ga, .inl (cyA G 0, 200, .inl (gf)))]) [0, 1] rfl
          have hD9 := hD.sub (ws' := [(h1, .inr (4, [.ref t1, .ref ga, .int gn, .int gr, .int gm, .int gt])), (ga, .inl (cyA G 0, 200, .inl (gf)))]) [0, 1] (by decide) rfl
          refine W.widen (k := 0) (n := 0) (Nat.le_of_ble_eq_true rfl) (Nat.le_of_ble_eq_true rfl) ?_
          exact W.zret (v := 0) (ty := .boolean) hx hb hr (by decide) (fun t ht hW => ⟨⟨0, (), rfl, rfl, ⟨by rw [ht]; exact hP9, hD9⟩⟩, hS.F ht⟩) hS.2.2 dX4_comeToAnEnd_150 hlocks
        · rw [if_pos c_5] at hm
          refine lv_iconst (v := 1) hx hb dX4_comeToAnEnd_145 (by decide) ?_
          refine lv_goto (tgt := 150) hx hb dX4_comeToAnEnd_146 (by decide) ?_
          simp only [Option.some.injEq, Prod.mk.injEq] at hm
          obtain ⟨rfl, rfl, rfl, rfl, rfl⟩ := hm
          have hP9 := hP.sub (ws' := [(h1, .inr (4, [.ref t1, .ref ga, .int gn, .int gr, .int gm, .int gt])), (ga, .inl (cyA G 0, 200, .inl (gf)))]) [0, 1] rfl
          have hD9 := hD.sub (ws' := [(h1, .inr (4, [.ref t1, .ref ga, .int gn, .int gr, .int gm, .int gt])), (ga, .inl (cyA G 0, 200, .inl (gf)))]) [0, 1] (by decide) rfl
          refine W.widen (k := 0) (n := 0) (Nat.le_of_ble_eq_true rfl) (Nat.le_of_ble_eq_true rfl) ?_
          exact W.zret (v := 1) (ty := .boolean) hx hb hr (by decide) (fun t ht hW => ⟨⟨1, (), rfl, rfl, ⟨by rw [ht]; exact hP9, hD9⟩⟩, hS.F ht⟩) hS.2.2 dX4_comeToAnEnd_150 hlocks
      · rw [if_neg c_4] at hm
        refine lv_aload_n hx hb dX4_comeToAnEnd_85 rfl (lv_at hl 0 rfl) ?_
        refine va_get (D := DG G) (ci := 4) (v := .int gt) (C := RX4) (T := TX4) (N := 6) hx hb hts inW_X4 hown hK hP 0 rfl rfl 5 (by decide) (hts _ wm226) (fun _ h9 => h9) rfl dX4_comeToAnEnd_86 ?_
        refine lv_if_ne (tgt := 138) hx hb dX4_comeToAnEnd_89 (by decide) (fun c_6 => ?_) (fun c_6 => ?_)
        · rw [if_neg c_6] at hm
          refine lv_aload_n hx hb dX4_comeToAnEnd_138 rfl (lv_at hl 0 rfl) ?_
          refine va_get (D := DG G) (ci := 4) (v := .int gt) (C := RX4) (T := TX4) (N := 6) hx hb hts inW_X4 hown hK hP 0 rfl rfl 5 (by decide) (hts _ wm226) (fun _ h9 => h9) rfl dX4_comeToAnEnd_139 ?_
          refine lv_if_ne (tgt := 149) hx hb dX4_comeToAnEnd_142 (by decide) (fun c_7 => ?_) (fun c_7 => ?_)
          · rw [if_neg c_7] at hm
            refine lv_iconst (v := 0) hx hb dX4_comeToAnEnd_149 (by decide) ?_
            simp only [Option.some.injEq, Prod.mk.injEq] at hm
            obtain ⟨rfl, rfl, rfl, rfl, rfl⟩ := hm
            have hP9 := hP.sub (ws' := [(h1, .inr (4, [.ref t1, .ref ga, .int gn, .int gr, .int gm, .int gt])), (ga, .inl (cyA G 0, 200, .inl (gf)))]) [0, 1] rfl
            have hD9 := hD.sub (ws' := [(h1, .inr (4, [.ref t1, .ref ga, .int gn, .int gr, .int gm, .int gt])), (ga, .inl (cyA G 0, 200, .inl (gf)))]) [0, 1] (by decide) rfl
            refine W.widen (k := 0) (n := 0) (Nat.le_of_ble_eq_true rfl) (Nat.le_of_ble_eq_true rfl) ?_
            exact W.zret (v := 0) (ty := .boolean) hx hb hr (by decide) (fun t ht hW => ⟨⟨0, (), rfl, rfl, ⟨by rw [ht]; exact hP9, hD9⟩⟩, hS.F ht⟩) hS.2.2 dX4_comeToAnEnd_150 hlocks
          · rw [if_pos c_7] at hm
            refine lv_iconst (v := 1) hx hb dX4_comeToAnEnd_145 (by decide) ?_
            refine lv_goto (tgt := 150) hx hb dX4_comeToAnEnd_146 (by decide) ?_
            simp only [Option.some.injEq, Prod.mk.injEq] at hm
            obtain ⟨rfl, rfl, rfl, rfl, rfl⟩ := hm
            have hP9 := hP.sub (ws' := [(h1, .inr (4, [.ref t1, .ref ga, .int gn, .int gr, .int gm, .int gt])), (ga, .inl (cyA G 0, 200, .inl (gf)))]) [0, 1] rfl
            have hD9 := hD.sub (ws' := [(h1, .inr (4, [.ref t1, .ref ga, .int gn, .int gr, .int gm, .int gt])), (ga, .inl (cyA G 0, 200, .inl (gf)))]) [0, 1] (by decide) rfl
            refine W.widen (k := 0) (n := 0) (Nat.le_of_ble_eq_true rfl) (Nat.le_of_ble_eq_true rfl) ?_
            exact W.zret (v := 1) (ty := .boolean) hx hb hr (by decide) (fun t ht hW => ⟨⟨1, (), rfl, rfl, ⟨by rw [ht]; exact hP9, hD9⟩⟩, hS.F ht⟩) hS.2.2 dX4_comeToAnEnd_150 hlocks
        · rw [if_pos c_6] at hm
          refine lv_aload_n hx hb dX4_comeToAnEnd_92 rfl (lv_at hl 0 rfl) ?_
          refine lv_aload_n hx hb dX4_comeToAnEnd_93 rfl (lv_at hl 0 rfl) ?_
          refine va_get (D := DG G) (ci := 4) (v := .ref ga) (C := RX4) (T := TX4) (N := 6) hx hb hts inW_X4 hown hK hP 0 rfl rfl 1 (by decide) (hts _ wm221) (fun _ h9 => h9) rfl dX4_comeToAnEnd_94 ?_
          refine lv_iload_n hx hb dX4_comeToAnEnd_97 rfl (lv_at hl 1 rfl) ?_
          obtain ⟨b_8, hm⟩ := ite_some hm
          refine va_iald hx hb hK hP 1 0 rfl rfl (inb_vp b_8) dX4_comeToAnEnd_98 ?_
          refine lv_aload_n hx hb dX4_comeToAnEnd_99 rfl (lv_at hl 0 rfl) ?_
          refine va_get (D := DG G) (ci := 4) (v := .ref ga) (C := RX4) (T := TX4) (N := 6) hx hb hts inW_X4 hown hK hP 0 rfl rfl 1 (by decide) (hts _ wm221) (fun _ h9 => h9) rfl dX4_comeToAnEnd_100 ?_
          refine lv_iload_n hx hb dX4_comeToAnEnd_103 rfl (lv_at hl 1 rfl) ?_
          obtain ⟨b_9, hm⟩ := ite_some hm
          refine va_iald hx hb hK hP 1 0 rfl rfl (inb_vp b_9) dX4_comeToAnEnd_104 ?_
          obtain ⟨q_10, hq_10, hm⟩ := bind_some hm
          have hFc := va_free (wc := [(h1, .inr (4, [.ref t1, .ref ga, .int gn, .int gr, .int gm, .int gt]))]) hD hS hA [0] rfl
          refine va_calli (va_runV (As := [.int (gf (Int32.toNatClampNeg v2)), .int (gf (Int32.toNatClampNeg v2))]) (rest := []) ⟨hx, hb, hml, hown, hts⟩ (k_X4_behind l hfl G h1 (gf (Int32.toNatClampNeg v2)) (gf (Int32.toNatClampNeg v2)) t1 ga gn gr gm gt q_10 hq_10 H.size) (cwV 2 hts (gV wm1142 wm1144 ws_p19 wm9 wm1145) rfl rfl rfl (by decide +kernel) ⟨Nat.le_of_ble_eq_true rfl, Nat.le_of_ble_eq_true rfl⟩) (pre_v (pre_s hK hP hD hS hE [0] rfl rfl (by decide) hFc) (va_recv hK hP (ci := 4) (q0 := 0) rfl rfl)) rfl rfl hl.1 rfl (lv_room (Nat.le_of_ble_eq_true rfl)) dX4_comeToAnEnd_105 ⟨Nat.le_of_ble_eq_true rfl, Nat.le_of_ble_eq_true rfl⟩) hS (fun q _ h => hFc q h) hFc (fun r u t H locs ht hvm hw hB hz1 hk1 hS => ?_)
          rw [show r = q_10 from hw]
          obtain ⟨hP1, hD1⟩ := hB
          rw [ht] at hP1
          obtain ⟨hP, hD⟩ := va_join (wr := [(ga, .inl (cyA G 0, 200, .inl (gf)))]) (w1 := [(h1, .inr (4, [.ref t1, .ref ga, .int gn, .int gr, .int gm, .int gt]))]) hP hD [0] [1] rfl rfl (by decide) (by decide) hk1 hFc hP1 hD1
          have hP : va_P (DG G) clP3 [(ga, .inl (cyA G 0, 200, .inl (gf))), (h1, .inr (4, [.ref t1, .ref ga, .int gn, .int gr, .int gm, .int gt]))] H := hP
          have hD : va_D A [(ga, .inl (cyA G 0, 200, .inl (gf))), (h1, .inr (4, [.ref t1, .ref ga, .int gn, .int gr, .int gm, .int gt]))] := hD
          refine W.widen (k := 0) (n := 0) (Nat.le_of_ble_eq_true rfl) (Nat.le_of_ble_eq_true rfl) ?_
          refine lv_aload_n hx hb dX4_comeToAnEnd_108 rfl (lv_at hl 0 rfl) ?_
          refine va_get (D := DG G) (ci := 4) (v := .ref ga) (C := RX4) (T := TX4) (N := 6) hx hb hts inW_X4 hown hK hP 1 rfl rfl 1 (by decide) (hts _ wm221) (fun _ h9 => h9) rfl dX4_comeToAnEnd_109 ?_
          refine lv_iload_n hx hb dX4_comeToAnEnd_112 rfl (lv_at hl 1 rfl) ?_
          obtain ⟨b_11, hm⟩ := ite_some hm
          refine va_iald hx hb hK hP 0 0 rfl rfl (inb_vp b_11) dX4_comeToAnEnd_113 ?_
          refine lv_icmp_ne (tgt := 132) hx hb dX4_comeToAnEnd_114 (by decide) (fun c_12 => ?_) (fun c_12 => ?_)
          · rw [if_neg c_12] at hm
            refine lv_iinc (v := (v2 + 1)) (lv' := [(2, .int (v2 + 1)), (0, .ref h1)]) hx hb dX4_comeToAnEnd_132 hl (k := 1) rfl rfl (by decide) rfl (fun ls hl => ?_)
            refine lv_goto (tgt := 77) hx hb dX4_comeToAnEnd_135 (by decide) ?_
            have hP9 := hP.sub (ws' := [(h1, .inr (4, [.ref t1, .ref ga, .int gn, .int gr, .int gm, .int gt])), (ga, .inl (cyA G 0, 200, .inl (gf)))]) [1, 0] rfl
            have hD9 := hD.sub (ws' := [(h1, .inr (4, [.ref t1, .ref ga, .int gn, .int gr, .int gm, .int gt])), (ga, .inl (cyA G 0, 200, .inl (gf)))]) [1, 0] (by decide) rfl
            refine W.widen (k := 0) (n := 0) (Nat.le_of_ble_eq_true rfl) (Nat.le_of_ble_eq_true rfl) ?_
            exact ih.2.2 gr gm gt gf (v2 + 1) _ _ hP9 hD9 hS _ (lv_sub hl [1, 0] rfl) hm
          · rw [if_pos c_12] at hm
            refine lv_aload_n hx hb dX4_comeToAnEnd_117 rfl (lv_at hl 0 rfl) ?_
            refine lv_aload_n hx hb dX4_comeToAnEnd_118 rfl (lv_at hl 0 rfl) ?_
            refine va_get (D := DG G) (ci := 4) (v := .ref ga) (C := RX4) (T := TX4) (N := 6) hx hb hts inW_X4 hown hK hP 1 rfl rfl 1 (by decide) (hts _ wm221) (fun _ h9 => h9) rfl dX4_comeToAnEnd_119 ?_
            refine lv_iload_n hx hb dX4_comeToAnEnd_122 rfl (lv_at hl 1 rfl) ?_
            obtain ⟨b_13, hm⟩ := ite_some hm
            refine va_iald hx hb hK hP 0 0 rfl rfl (inb_vp b_13) dX4_comeToAnEnd_123 ?_
            obtain ⟨q_14, hq_14, hm⟩ := bind_some hm
            have hFc := va_free (wc := [(h1, .inr (4, [.ref t1, .ref ga, .int gn, .int gr, .int gm, .int gt]))]) hD hS hA [1] rfl
            refine va_calli (va_runV (As := [.int (gf (Int32.toNatClampNeg v2))]) (rest := []) ⟨hx, hb, hml, hown, hts⟩ (k_X4_hasLess l hfl G h1 (gf (Int32.toNatClampNeg v2)) t1 ga gn gr gm gt q_14 hq_14 H.size) (cwV 1 hts (gV wm1146 wm1148 ws_p20 wm9 wm1149) rfl rfl rfl (by decide +kernel) ⟨Nat.le_of_ble_eq_true rfl, Nat.le_of_ble_eq_true rfl⟩) (pre_v (pre_s hK hP hD hS hE [1] rfl rfl (by decide) hFc) (va_recv hK hP (ci := 4) (q0 := 1) rfl rfl)) rfl rfl hl.1 rfl (lv_room (Nat.le_of_ble_eq_true rfl)) dX4_comeToAnEnd_124 ⟨Nat.le_of_ble_eq_true rfl, Nat.le_of_ble_eq_true rfl⟩) hS (fun q _ h => hFc q h) hFc (fun r u t H locs ht hvm hw hB hz1 hk1 hS => ?_)
            rw [show r = q_14 from hw]
            obtain ⟨hP1, hD1⟩ := hB
            rw [ht] at hP1
            obtain ⟨hP, hD⟩ := va_join (wr := [(ga, .inl (cyA G 0, 200, .inl (gf)))]) (w1 := [(h1, .inr (4, [.ref t1, .ref ga, .int gn, .int gr, .int gm, .int gt]))]) hP hD [1] [0] rfl rfl (by decide) (by decide) hk1 hFc hP1 hD1
            have hP : va_P (DG G) clP3 [(ga, .inl (cyA G 0, 200, .inl (gf))), (h1, .inr (4, [.ref t1, .ref ga, .int gn, .int gr, .int gm, .int gt]))] H := hP
            have hD : va_D A [(ga, .inl (cyA G 0, 200, .inl (gf))), (h1, .inr (4, [.ref t1, .ref ga, .int gn, .int gr, .int gm, .int gt]))] := hD
            refine W.widen (k := 0) (n := 0) (Nat.le_of_ble_eq_true rfl) (Nat.le_of_ble_eq_true rfl) ?_
            refine lv_if_ne (tgt := 132) hx hb dX4_comeToAnEnd_127 (by decide) (fun c_15 => ?_) (fun c_15 => ?_)
            · rw [if_neg c_15] at hm
              refine lv_iinc (v := (v2 + 1)) (lv' := [(2, .int (v2 + 1)), (0, .ref h1)]) hx hb dX4_comeToAnEnd_132 hl (k := 1) rfl rfl (by decide) rfl (fun ls hl => ?_)
              refine lv_goto (tgt := 77) hx hb dX4_comeToAnEnd_135 (by decide) ?_
              have hP9 := hP.sub (ws' := [(h1, .inr (4, [.ref t1, .ref ga, .int gn, .int gr, .int gm, .int gt])), (ga, .inl (cyA G 0, 200, .inl (gf)))]) [1, 0] rfl
              have hD9 := hD.sub (ws' := [(h1, .inr (4, [.ref t1, .ref ga, .int gn, .int gr, .int gm, .int gt])), (ga, .inl (cyA G 0, 200, .inl (gf)))]) [1, 0] (by decide) rfl
              refine W.widen (k := 0) (n := 0) (Nat.le_of_ble_eq_true rfl) (Nat.le_of_ble_eq_true rfl) ?_
              exact ih.2.2 gr gm gt gf (v2 + 1) _ _ hP9 hD9 hS _ (lv_sub hl [1, 0] rfl) hm
            · rw [if_pos c_15] at hm
              refine lv_iconst (v := 0) hx hb dX4_comeToAnEnd_130 (by decide) ?_
              simp only [Option.some.injEq, Prod.mk.injEq] at hm
              obtain ⟨rfl, rfl, rfl, rfl, rfl⟩ := hm
              have hP9 := hP.sub (ws' := [(h1, .inr (4, [.ref t1, .ref ga, .int gn, .int gr, .int gm, .int gt])), (ga, .inl (cyA G 0, 200, .inl (gf)))]) [1, 0] rfl
              have hD9 := hD.sub (ws' := [(h1, .inr (4, [.ref t1, .ref ga, .int gn, .int gr, .int gm, .int gt])), (ga, .inl (cyA G 0, 200, .inl (gf)))]) [1, 0] (by decide) rfl
              refine W.widen (k := 0) (n := 0) (Nat.le_of_ble_eq_true rfl) (Nat.le_of_ble_eq_true rfl) ?_
              exact W.zret (v := 0) (ty := .boolean) hx hb hr (by decide) (fun t ht hW => ⟨⟨0, (), rfl, rfl, ⟨by rw [ht]; exact hP9, hD9⟩⟩, hS.F ht⟩) hS.2.2 dX4_comeToAnEnd_131 hlocks
set_option maxHeartbeats 4000000 in
set_option maxRecDepth 100000 in
theorem k_X4_comeToAnEnd (l : Launch) (hfl : l.stackTraces = false) (G : GC) (h1 : Nat) (t1 : Nat) (ga : Nat) (gn : Int32) (gr : Int32) (gm : Int32) (gt : Int32) (gf : Nat → Int32) (r9 : Int32) (gr_9 : Int32) (gm_9 : Int32) (gt_9 : Int32) (gf_9 : Nat → Int32) (hm : f_X4_comeToAnEnd gr gm gt gf = some (r9, gr_9, gm_9, gt_9, gf_9)) (sz : Nat) : Met l yX4_comeToAnEnd (Cond.code yX4_comeToAnEnd cX4_comeToAnEnd 4 (some .boolean) :: W0) ({ frames := 1, cells := 0, slots := 0, locals := 29 }) (va_Pc [.ref h1] (WD G [(h1, .inr (4, [.ref t1, .ref ga, .int gn, .int gr, .int gm, .int gt])), (ga, .inl (cyA G 0, 200, .inl (gf)))] sz)) (va_Qi (fun (r : Int32) (_ : Unit) => r = r9) (fun _ t => PW G (va_A [(h1, .inr (4, [.ref t1, .ref ga, .int gn, .int gr, .int gm, .int gt])), (ga, .inl (cyA G 0, 200, .inl (gf)))] sz) [(h1, .inr (4, [.ref t1, .ref ga, .int gn, .int gr_9, .int gm_9, .int gt_9])), (ga, .inl (cyA G 0, 200, .inl (gf_9)))] t) (va_A [(h1, .inr (4, [.ref t1, .ref ga, .int gn, .int gr, .int gm, .int gt])), (ga, .inl (cyA G 0, 200, .inl (gf)))] sz)) 0 0 (va_A [(h1, .inr (4, [.ref t1, .ref ga, .int gn, .int gr, .int gm, .int gt])), (ga, .inl (cyA G 0, 200, .inl (gf)))] sz) := by
  rw [f_X4_comeToAnEnd] at hm
  refine Met.ofW (cc := cX4_comeToAnEnd) (maxL := 4) (ret := (some .boolean)) (by decide) rfl ?_
  intro p e s m args below meth c s₁ B hml hv
  obtain ⟨rfl, hsz, hP, hK, hD0, hE⟩ := hv
  have hx := B.exec
  have hb := B.bytes
  have hr := B.returns
  have hts := w0_tail B.pre
  have hown : s.vm.findClass RX4 = some m.cls := findClass_of_methodNamed B.named
  have hlocks := B.notSynchronized
  subst hsz
  have hD := hD0.self (sz := s.heap.size)
  generalize hAe : va_A [(h1, .inr (4, [.ref t1, .ref ga, .int gn, .int gr, .int gm, .int gt])), (ga, .inl (cyA G 0, 200, .inl (gf)))] s.heap.size = A at hD hE ⊢
  have hA : ∀ q : Nat, s.heap.size ≤ q → A q := fun q h => by rw [← hAe]; exact Or.inr h
  have hS : va_S A s.heap s.heap [] := va_S.rf
  obtain ⟨H, hHe⟩ : ∃ H : Heap, H = s.heap := ⟨_, rfl⟩
  have hP : va_P (DG G) clP3 [(h1, .inr (4, [.ref t1, .ref ga, .int gn, .int gr, .int gm, .int gt])), (ga, .inl (cyA G 0, 200, .inl (gf)))] H := by rw [hHe]; exact hP
  have hS : va_S A s.heap H [] := by rw [hHe]; exact hS
  have hl := lv_entry ([.ref h1]) (n := 4) (Nat.le_of_ble_eq_true rfl)
  rw [lg_entry_eq, ← hHe]
  generalize (lg_sl ([.ref h1]) ++ List.replicate (4 - (lg_sl ([.ref h1])).length) Slot.unset).toArray = ls at hl ⊢
  have hl : lv_has ls 4 [(0, .ref h1)] := hl
  refine lv_aload_n hx hb dX4_comeToAnEnd_0 rfl (lv_at hl 0 rfl) ?_
  refine va_get (D := DG G) (ci := 4) (v := .int gm) (C := RX4) (T := TX4) (N := 6) hx hb hts inW_X4 hown hK hP 0 rfl rfl 4 (by decide) (hts _ wm224) (fun _ h9 => h9) rfl dX4_comeToAnEnd_1 ?_
  refine lv_istore_n (lv' := [(1, .int gm), (0, .ref h1)]) hx hb dX4_comeToAnEnd_4 rfl hl (by decide) rfl (fun ls hl => ?_)
  refine lv_iconst (v := 0) hx hb dX4_comeToAnEnd_5 (by decide) ?_
  refine lv_istore_n (lv' := [(2, .int 0), (1, .int gm), (0, .ref h1)]) hx hb dX4_comeToAnEnd_6 rfl hl (by decide) rfl (fun ls hl => ?_)
  have hP9 := hP.sub (ws' := [(h1, .inr (4, [.ref t1, .ref ga, .int gn, .int gr, .int gm, .int gt])), (ga, .inl (cyA G 0, 200, .inl (gf)))]) [0, 1] rfl
  have hD9 := hD.sub (ws' := [(h1, .inr (4, [.ref t1, .ref ga, .int gn, .int gr, .int gm, .int gt])), (ga, .inl (cyA G 0, 200, .inl (gf)))]) [0, 1] (by decide) rfl
  refine W.widen (k := 0) (n := 0) (Nat.le_of_ble_eq_true rfl) (Nat.le_of_ble_eq_true rfl) ?_
  exact (kl_X4_comeToAnEnd hfl hx hb hr hml hown hts hlocks hA hE hK r9 gr_9 gm_9 gt_9 gf_9 100000).1 gr gm gt gf gm 0 _ _ hP9 hD9 hS _ (lv_sub hl [2, 1, 0] rfl) hm
def f_X4_signsOf_L6 (np : Nat) : Nat → (Int32) → (Nat → Int32) → (Int32) → (Nat → Int32) → (Nat → Int32) → (Nat → Int32) → (Int32) → (Int32) → (Int32) → (Int32) → Option (Int32)
  | 0, _, _, _, _, _, _, _, _, _, _ => none
  | n + 1, gr, pp, mm, tf0, tf1, tf2, v2, v3, v4, v5 => (if gr ≤ v5 then some v4 else (if (Int32.ofNat np) ≤ v5 then some v4 else (if v2 < 0 then (f_X4_signsOf_L6 np n gr pp mm tf0 tf1 tf2 v2 v3 v4 (v5 + 1)) else (if inb v5 np = true then (Option.bind (f_X6_holds 200 mm tf0 tf1 tf2 (pp (Int32.toNatClampNeg v5)) v2) (fun q_5 => (if q_5 = 0 then (f_X4_signsOf_L6 np n gr pp mm tf0 tf1 tf2 v2 v3 v4 (v5 + 1)) else (if inb v5 np = true then (Option.bind (f_X9_kindOf mm tf0 (pp (Int32.toNatClampNeg v5))) (fun q_8 => (if q_8 = 1 then (f_X4_signsOf_L6 np n gr pp mm tf0 tf1 tf2 v2 v3 (v4 ||| ((1 : Int32) <<< (((4 * v5) + v3) &&& 31))) (v5 + 1)) else (f_X4_signsOf_L6 np n gr pp mm tf0 tf1 tf2 v2 v3 (v4 ||| ((65537 : Int32) <<< (((4 * v5) + v3) &&& 31))) (v5 + 1))))) else none)))) else none))))
def f_X4_signsOf  (np : Nat) (gr : Int32) (pp : Nat → Int32) (mm : Int32) (tf0 : Nat → Int32) (tf1 : Nat → Int32) (tf2 : Nat → Int32) (p1 : Int32) (p2 : Int32) : Option (Int32) := (f_X4_signsOf_L6 np 100000 gr pp mm tf0 tf1 tf2 p1 p2 0 0)
set_option maxHeartbeats 4000000 in
set_option maxRecDepth 100000 in
theorem kl_X4_signsOf_6 {l : Launch} (hfl : l.stackTraces = false) {G : GC} {np : Nat} {h1 : Nat} {o1 : Nat} {t1 : Nat} {ga : Nat} {oc : Nat} {op : Nat} {ta0 : Nat} {ta1 : Nat} {ta2 : Nat} {ta3 : Nat} {ta4 : Nat} {ta5 : Nat} {ta6 : Nat} {ta7 : Nat} {ta8 : Nat} {gn : Int32} {gm : Int32} {gt : Int32} {on : Int32} {ot : Int32} {os : Int32} {og : Int32} {ol : Int32} {oh : Int32} {A : Nat → Prop} {p : Program} {e : Env} {s : State} {m : MethodId} {args : Array Value} {below : List Frame} {meth : Method} {c : Code} (hx : p.tables.exec = Jvm.exec) (hb : c.code = cX4_signsOf) (hr : meth.sig.returnType = (some .int)) (hml : c.maxLocals = 7) (hown : s.vm.findClass RX4 = some m.cls) (hts : ∀ w ∈ W0, w.before args s = true) (hlocks : meth.locks = false) (hA : ∀ q : Nat, s.heap.size ≤ q → A q) (hE : EV G A s s.heap) (hK : va_K (DG G) clP3 (TY G) s) (r9 : Int32) : ∀ (n : Nat) (gr : Int32) (pp : Nat → Int32) (mm : Int32) (tf0 : Nat → Int32) (tf1 : Nat → Int32) (tf2 : Nat → Int32) (v2 : Int32) (v3 : Int32) (v4 : Int32) (v5 : Int32) (H : Heap) (locs : List Loc), va_P (DG G) clP3 [(h1, .inr (4, [.ref t1, .ref ga, .int gn, .int gr, .int gm, .int gt])), (o1, .inr (3, [.int on, .ref oc, .int ot, .ref op, .int os, .int og, .int ol, .int oh])), (op, .inl (cyA G 0, np, .inl (pp))), (t1, .inr (8, [.ref ta0, .ref ta1, .ref ta2, .ref ta3, .ref ta4, .ref ta5, .ref ta6, .ref ta7, .ref ta8, .int mm])), (ta0, .inl (cyA G 0, 32768, .inl (tf0))), (ta1, .inl (cyA G 0, 32768, .inl (tf1))), (ta2, .inl (cyA G 0, 32768, .inl (tf2)))] H → va_D A [(h1, .inr (4, [.ref t1, .ref ga, .int gn, .int gr, .int gm, .int gt])), (o1, .inr (3, [.int on, .ref oc, .int ot, .ref op, .int os, .int og, .int ol, .int oh])), (op, .inl (cyA G 0, np, .inl (pp))), (t1, .inr (8, [.ref ta0, .ref ta1, .ref ta2, .ref ta3, .ref ta4, .ref ta5, .ref ta6, .ref ta7, .ref ta8, .int mm])), (ta0, .inl (cyA G 0, 32768, .inl (tf0))), (ta1, .inl (cyA G 0, 32768, .inl (tf1))), (ta2, .inl (cyA G 0, 32768, .inl (tf2)))] → va_S A s.heap H locs → ∀ (ls : Array Slot), lv_has ls 7 [(0, .ref h1), (1, .ref o1), (2, .int v2), (3, .int v3), (4, .int v4), (5, .int v5)] → f_X4_signsOf_L6 np n gr pp mm tf0 tf1 tf2 v2 v3 v4 v5 = some r9 → W p l e ({ frames := 202, cells := 0, slots := 0, locals := 4644 }) s m args below meth c H locs 0 0 (MQ below (va_Qi (fun (r : Int32) (_ : Unit) => r = r9) (fun _ t => PW G A [(h1, .inr (4, [.ref t1, .ref ga, .int gn, .int gr, .int gm, .int gt])), (o1, .inr (3, [.int on, .ref oc, .int ot, .ref op, .int os, .int og, .int ol, .int oh])), (op, .inl (cyA G 0, np, .inl (pp))), (t1, .inr (8, [.ref ta0, .ref ta1, .ref ta2, .ref ta3, .ref ta4, .ref ta5, .ref ta6, .ref ta7, .ref ta8, .int mm])), (ta0, .inl (cyA G 0, 32768, .inl (tf0))), (ta1, .inl (cyA G 0, 32768, .inl (tf1))), (ta2, .inl (cyA G 0, 32768, .inl (tf2)))] t) A) args s 0 0 A) (F0 m 6 ls []) := by
  intro n
  induction n with
  | zero =>
    intro gr pp mm tf0 tf1 tf2 v2 v3 v4 v5 H locs hP hD hS ls hl hm
    rw [f_X4_signsOf_L6] at hm
    cases hm
  | succ n ih =>
    intro gr pp mm tf0 tf1 tf2 v2 v3 v4 v5 H locs hP hD hS ls hl hm
    rw [f_X4_signsOf_L6] at hm
    refine lv_iload hx hb dX4_signsOf_6 (lv_at hl 5 rfl) ?_
    refine lv_aload_n hx hb dX4_signsOf_8 rfl (lv_at hl 0 rfl) ?_
    refine va_get (D := DG G) (ci := 4) (v := .int gr) (C := RX4) (T := TX4) (N := 6) hx hb hts inW_X4 hown hK hP 0 rfl rfl 3 (by decide) (hts _ wm223) (fun _ h9 => h9) rfl dX4_signsOf_9 ?_
    refine lv_icmp_ge (tgt := 101) hx hb dX4_signsOf_12 (by decide) (fun c_1 => ?_) (fun c_1 => ?_)
    · rw [if_pos c_1] at hm
      refine lv_iload hx hb dX4_signsOf_101 (lv_at hl 4 rfl) ?_
      obtain rfl := Option.some.inj hm
      have hP9 := hP.sub (ws' := [(h1, .inr (4, [.ref t1, .ref ga, .int gn, .int gr, .int gm, .int gt])), (o1, .inr (3, [.int on, .ref oc, .int ot, .ref op, .int os, .int og, .int ol, .int oh])), (op, .inl (cyA G 0, np, .inl (pp))), (t1, .inr (8, [.ref ta0, .ref ta1, .ref ta2, .ref ta3, .ref ta4, .ref ta5, .ref ta6, .ref ta7, .ref ta8, .int mm])), (ta0, .inl (cyA G 0, 32768, .inl (tf0))), (ta1, .inl (cyA G 0, 32768, .inl (tf1))), (ta2, .inl (cyA G 0, 32768, .inl (tf2)))]) [0, 1, 2, 3, 4, 5, 6] rfl
      have hD9 := hD.sub (ws' := [(h1, .inr (4, [.ref t1, .ref ga, .int gn, .int gr, .int gm, .int gt])), (o1, .inr (3, [.int on, .ref oc, .int ot, .ref op, .int os, .int og, .int ol, .int oh])), (op, .inl (cyA G 0, np, .inl (pp))), (t1, .inr (8, [.ref ta0, .ref ta1, .ref ta2, .ref ta3, .ref ta4, .ref ta5, .ref ta6, .ref ta7, .ref ta8, .int mm])), (ta0, .inl (cyA G 0, 32768, .inl (tf0))), (ta1, .inl (cyA G 0, 32768, .inl (tf1))), (ta2, .inl (cyA G 0, 32768, .inl (tf2)))]) [0, 1, 2, 3, 4, 5, 6] (by decide) rfl
      refine W.widen (k := 0) (n := 0) (Nat.le_of_ble_eq_true rfl) (Nat.le_of_ble_eq_true rfl) ?_
      exact W.iret (v := v4) hx hb hr (fun t ht hW => ⟨⟨v4, (), rfl, rfl, ⟨by rw [ht]; exact hP9, hD9⟩⟩, hS.F ht⟩) hS.2.2 dX4_signsOf_103 hlocks
    · rw [if_neg c_1] at hm
      refine lv_iload hx hb dX4_signsOf_15 (lv_at hl 5 rfl) ?_
      refine lv_aload_n hx hb dX4_signsOf_17 rfl (lv_at hl 1 rfl) ?_
      refine va_getN (D := DG G) (ci := 3) (v := .ref op) (C := RX3) (T := TX3) (N := 8) hx hb hts inW_X3 hown hK hP 1 rfl rfl 3 (by decide) (va_Nw.use rfl (hE.1 _ nw916)) (fun _ h9 => h9) rfl dX4_signsOf_18 ?_
      refine va_alen (v := Int32.ofNat np) hx hb hK hP 2 0 rfl rfl rfl dX4_signsOf_21 ?_
      refine lv_icmp_ge (tgt := 101) hx hb dX4_signsOf_22 (by decide) (fun c_2 => ?_) (fun c_2 => ?_)
      · rw [if_pos c_2] at hm
        refine lv_iload hx hb dX4_signsOf_101 (lv_at hl 4 rfl) ?_
        obtain rfl := Option.some.inj hm
        have hP9 := hP.sub (ws' := [(h1, .inr (4, [.ref t1, .ref ga, .int gn, .int gr, .int gm, .int gt])), (o1, .inr (3, [.int on, .ref oc, .int ot, .ref op, .int os, .int og, .int ol, .int oh])), (op, .inl (cyA G 0, np, .inl (pp))), (t1, .inr (8, [.ref ta0, .ref ta1, .ref ta2, .ref ta3, .ref ta4, .ref ta5, .ref ta6, .ref ta7, .ref ta8, .int mm])), (ta0, .inl (cyA G 0, 32768, .inl (tf0))), (ta1, .inl (cyA G 0, 32768, .inl (tf1))), (ta2, .inl (cyA G 0, 32768, .inl (tf2)))]) [0, 1, 2, 3, 4, 5, 6] rfl
        have hD9 := hD.sub (ws' := [(h1, .inr (4, [.ref t1, .ref ga, .int gn, .int gr, .int gm, .int gt])), (o1, .inr (3, [.int on, .ref oc, .int ot, .ref op, .int os, .int og, .int ol, .int oh])), (op, .inl (cyA G 0, np, .inl (pp))), (t1, .inr (8, [.ref ta0, .ref ta1, .ref ta2, .ref ta3, .ref ta4, .ref ta5, .ref ta6, .ref ta7, .ref ta8, .int mm])), (ta0, .inl (cyA G 0, 32768, .inl (tf0))), (ta1, .inl (cyA G 0, 32768, .inl (tf1))), (ta2, .inl (cyA G 0, 32768, .inl (tf2)))]) [0, 1, 2, 3, 4, 5, 6] (by decide) rfl
        refine W.widen (k := 0) (n := 0) (Nat.le_of_ble_eq_true rfl) (Nat.le_of_ble_eq_true rfl) ?_
        exact W.iret (v := v4) hx hb hr (fun t ht hW => ⟨⟨v4, (), rfl, rfl, ⟨by rw [ht]; exact hP9, hD9⟩⟩, hS.F ht⟩) hS.2.2 dX4_signsOf_103 hlocks
      · rw [if_neg c_2] at hm
        refine lv_iload_n hx hb dX4_signsOf_25 rfl (lv_at hl 2 rfl) ?_
        refine lv_if_lt (tgt := 95) hx hb dX4_signsOf_26 (by decide) (fun c_3 => ?_) (fun c_3 => ?_)
        · rw [if_pos c_3] at hm
          refine lv_iinc (v := (v5 + 1)) (lv' := [(5, .int (v5 + 1)), (0, .ref h1), (1, .ref o1), (2, .int v2), (3, .int v3), (4, .int v4)]) hx hb dX4_signsOf_95 hl (k := 5) rfl rfl (by decide) rfl (fun ls hl => ?_)
          refine lv_goto (tgt := 6) hx hb dX4_signsOf_98 (by decide) ?_
          have hP9 := hP.sub (ws' := [(h1, .inr (4, [.ref t1, .ref ga, .int gn, .int gr, .int gm, .int gt])), (o1, .inr (3, [.int on, .ref oc, .int ot, .ref op, .int os, .int og, .int ol, .int oh])), (op, .inl (cyA G 0, np, .inl (pp))), (t1, .inr (8, [.ref ta0, .ref ta1, .ref ta2, .ref ta3, .ref ta4, .ref ta5, .ref ta6, .ref ta7, .ref ta8, .int mm])), (ta0, .inl (cyA G 0, 32768, .inl (tf0))), (ta1, .inl (cyA G 0, 32768, .inl (tf1))), (ta2, .inl (cyA G 0, 32768, .inl (tf2)))]) [0, 1, 2, 3, 4, 5, 6] rfl
          have hD9 := hD.sub (ws' := [(h1, .inr (4, [.ref t1, .ref ga, .int gn, .int gr, .int gm, .int gt])), (o1, .inr (3, [.int on, .ref oc, .int ot, .ref op, .int os, .int og, .int ol, .int oh])), (op, .inl (cyA G 0, np, .inl (pp))), (t1, .inr (8, [.ref ta0, .ref ta1, .ref ta2, .ref ta3, .ref ta4, .ref ta5, .ref ta6, .ref ta7, .ref ta8, .int mm])), (ta0, .inl (cyA G 0, 32768, .inl (tf0))), (ta1, .inl (cyA G 0, 32768, .inl (tf1))), (ta2, .inl (cyA G 0, 32768, .inl (tf2)))]) [0, 1, 2, 3, 4, 5, 6] (by decide) rfl
          refine W.widen (k := 0) (n := 0) (Nat.le_of_ble_eq_true rfl) (Nat.le_of_ble_eq_true rfl) ?_
          exact ih gr pp mm tf0 tf1 tf2 v2 v3 v4 (v5 + 1) _ _ hP9 hD9 hS _ (lv_sub hl [1, 2, 3, 4, 5, 0] rfl) hm
        · rw [if_neg c_3] at hm
          refine lv_aload_n hx hb dX4_signsOf_29 rfl (lv_at hl 0 rfl) ?_
          refine va_get (D := DG G) (ci := 4) (v := .ref t1) (C := RX4) (T := TX4) (N := 6) hx hb hts inW_X4 hown hK hP 0 rfl rfl 0 (by decide) (hts _ wm220) (fun _ h9 => h9) rfl dX4_signsOf_30 ?_
          refine lv_aload_n hx hb dX4_signsOf_33 rfl (lv_at hl 1 rfl) ?_
          refine va_getN (D := DG G) (ci := 3) (v := .ref op) (C := RX3) (T := TX3) (N := 8) hx hb hts inW_X3 hown hK hP 1 rfl rfl 3 (by decide) (va_Nw.use rfl (hE.1 _ nw916)) (fun _ h9 => h9) rfl dX4_signsOf_34 ?_
          refine lv_iload hx hb dX4_signsOf_37 (lv_at hl 5 rfl) ?_
          obtain ⟨b_4, hm⟩ := ite_some hm
          refine va_iald hx hb hK hP 2 0 rfl rfl (inb_vp b_4) dX4_signsOf_39 ?_
          refine lv_iload_n hx hb dX4_signsOf_40 rfl (lv_at hl 2 rfl) ?_
          obtain ⟨q_5, hq_5, hm⟩ := bind_some hm
          have hFc := va_free (wc := [(t1, .inr (8, [.ref ta0, .ref ta1, .ref ta2, .ref ta3, .ref ta4, .ref ta5, .ref ta6, .ref ta7, .ref ta8, .int mm])), (ta0, .inl (cyA G 0, 32768, .inl (tf0))), (ta1, .inl (cyA G 0, 32768, .inl (tf1))), (ta2, .inl (cyA G 0, 32768, .inl (tf2)))]) hD hS hA [3, 4, 5, 6] rfl
          refine va_calli (va_runSN (As := [.ref t1, .int (pp (Int32.toNatClampNeg v5)), .int v2]) (rest := []) ⟨hx, hb, hml, hown, hts⟩ (k_X6_holds l hfl G 200 t1 (pp (Int32.toNatClampNeg v5)) v2 ta0 ta1 ta2 ta3 ta4 ta5 ta6 ta7 ta8 mm tf0 tf1 tf2 q_5 hq_5 H.size) ⟨va_cnB 3 hts (gC wm1131) rfl rfl rfl (hE.1 _ nw1129) (hts _ wm20) (by decide +kernel) ⟨Nat.le_of_ble_eq_true rfl, Nat.le_of_ble_eq_true rfl⟩, hts _ wm1130, trivial⟩ (pre_s hK hP hD hS hE [3, 4, 5, 6] rfl rfl (by decide) hFc) rfl rfl hl.1 rfl (lv_room (Nat.le_of_ble_eq_true rfl)) dX4_signsOf_41 ⟨Nat.le_of_ble_eq_true rfl, Nat.le_of_ble_eq_true rfl⟩) hS (fun q _ h => hFc q h) hFc (fun r u t H locs ht hvm hw hB hz1 hk1 hS => ?_)
          rw [show r = q_5 from hw]
          obtain ⟨hP1, hD1⟩ := hB
          rw [ht] at hP1
          obtain ⟨hP, hD⟩ := va_join (wr := [(h1, .inr (4, [.ref t1, .ref ga, .int gn, .int gr, .int gm, .int gt])), (o1, .inr (3, [.int on, .ref oc, .int ot, .ref op, .int os, .int og, .int ol, .int oh])), (op, .inl (cyA G 0, np, .inl (pp)))]) (w1 := [(t1, .inr (8, [.ref ta0, .ref ta1, .ref ta2, .ref ta3, .ref ta4, .ref ta5, .ref ta6, .ref ta7, .ref ta8, .int mm])), (ta0, .inl (cyA G 0, 32768, .inl (tf0))), (ta1, .inl (cyA G 0, 32768, .inl (tf1))), (ta2, .inl (cyA G 0, 32768, .inl (tf2)))]) hP hD [3, 4, 5, 6] [0, 1, 2] rfl rfl (by decide) (by decide) hk1 hFc hP1 hD1
          have hP : va_P (DG G) clP3 [(h1, .inr (4, [.ref t1, .ref ga, .int gn, .int gr, .int gm, .int gt])), (o1, .inr (3, [.int on, .ref oc, .int ot, .ref op, .int os, .int og, .int ol, .int oh])), (op, .inl (cyA G 0, np, .inl (pp))), (t1, .inr (8, [.ref ta0, .ref ta1, .ref ta2, .ref ta3, .ref ta4, .ref ta5, .ref ta6, .ref ta7, .ref ta8, .int mm])), (ta0, .inl (cyA G 0, 32768, .inl (tf0))), (ta1, .inl (cyA G 0, 32768, .inl (tf1))), (ta2, .inl (cyA G 0, 32768, .inl (tf2)))] H := hP
          have hD : va_D A [(h1, .inr (4, [.ref t1, .ref ga, .int gn, .int gr, .int gm, .int gt])), (o1, .inr (3, [.int on, .ref oc, .int ot, .ref op, .int os, .int og, .int ol, .int oh])), (op, .inl (cyA G 0, np, .inl (pp))), (t1, .inr (8, [.ref ta0, .ref ta1, .ref ta2, .ref ta3, .ref ta4, .ref ta5, .ref ta6, .ref ta7, .ref ta8, .int mm])), (ta0, .inl (cyA G 0, 32768, .inl (tf0))), (ta1, .inl (cyA G 0, 32768, .inl (tf1))), (ta2, .inl (cyA G 0, 32768, .inl (tf2)))] := hD
          refine W.widen (k := 0) (n := 0) (Nat.le_of_ble_eq_true rfl) (Nat.le_of_ble_eq_true rfl) ?_
          refine lv_if_eq (tgt := 95) hx hb dX4_signsOf_44 (by decide) (fun c_6 => ?_) (fun c_6 => ?_)
          · rw [if_pos c_6] at hm
            refine lv_iinc (v := (v5 + 1)) (lv' := [(5, .int (v5 + 1)), (0, .ref h1), (1, .ref o1), (2, .int v2), (3, .int v3), (4, .int v4)]) hx hb dX4_signsOf_95 hl (k := 5) rfl rfl (by decide) rfl (fun ls hl => ?_)
            refine lv_goto (tgt := 6) hx hb dX4_signsOf_98 (by decide) ?_
            have hP9 := hP.sub (ws' := [(h1, .inr (4, [.ref t1, .ref ga, .int gn, .int gr, .int gm, .int gt])), (o1, .inr (3, [.int on, .ref oc, .int ot, .ref op, .int os, .int og, .int ol, .int oh])), (op, .inl (cyA G 0, np, .inl (pp))), (t1, .inr (8, [.ref ta0, .ref ta1, .ref ta2, .ref ta3, .ref ta4, .ref ta5, .ref ta6, .ref ta7, .ref ta8, .int mm])), (ta0, .inl (cyA G 0, 32768, .inl (tf0))), (ta1, .inl (cyA G 0, 32768, .inl (tf1))), (ta2, .inl (cyA G 0, 32768, .inl (tf2)))]) [0, 1, 2, 3, 4, 5, 6] rfl
            have hD9 := hD.sub (ws' := [(h1, .inr (4, [.ref t1, .ref ga, .int gn, .int gr, .int gm, .int gt])), (o1, .inr (3, [.int on, .ref oc, .int ot, .ref op, .int os, .int og, .int ol, .int oh])), (op, .inl (cyA G 0, np, .inl (pp))), (t1, .inr (8, [.ref ta0, .ref ta1, .ref ta2, .ref ta3, .ref ta4, .ref ta5, .ref ta6, .ref ta7, .ref ta8, .int mm])), (ta0, .inl (cyA G 0, 32768, .inl (tf0))), (ta1, .inl (cyA G 0, 32768, .inl (tf1))), (ta2, .inl (cyA G 0, 32768, .inl (tf2)))]) [0, 1, 2, 3, 4, 5, 6] (by decide) rfl
            refine W.widen (k := 0) (n := 0) (Nat.le_of_ble_eq_true rfl) (Nat.le_of_ble_eq_true rfl) ?_
            exact ih gr pp mm tf0 tf1 tf2 v2 v3 v4 (v5 + 1) _ _ hP9 hD9 hS _ (lv_sub hl [1, 2, 3, 4, 5, 0] rfl) hm
          · rw [if_neg c_6] at hm
            refine lv_aload_n hx hb dX4_signsOf_47 rfl (lv_at hl 0 rfl) ?_
            refine va_get (D := DG G) (ci := 4) (v := .ref t1) (C := RX4) (T := TX4) (N := 6) hx hb hts inW_X4 hown hK hP 0 rfl rfl 0 (by decide) (hts _ wm220) (fun _ h9 => h9) rfl dX4_signsOf_48 ?_
            refine lv_aload_n hx hb dX4_signsOf_51 rfl (lv_at hl 1 rfl) ?_
            refine va_getN (D := DG G) (ci := 3) (v := .ref op) (C := RX3) (T := TX3) (N := 8) hx hb hts inW_X3 hown hK hP 1 rfl rfl 3 (by decide) (va_Nw.use rfl (hE.1 _ nw916)) (fun _ h9 => h9) rfl dX4_signsOf_52 ?_
            refine lv_iload hx hb dX4_signsOf_55 (lv_at hl 5 rfl) ?_
            obtain ⟨b_7, hm⟩ := ite_some hm
            refine va_iald hx hb hK hP 2 0 rfl rfl (inb_vp b_7) dX4_signsOf_57 ?_
            obtain ⟨q_8, hq_8, hm⟩ := bind_some hm
            have hFc := va_free (wc := [(t1, .inr (8, [.ref ta0, .ref ta1, .ref ta2, .ref ta3, .ref ta4, .ref ta5, .ref ta6, .ref ta7, .ref ta8, .int mm])), (ta0, .inl (cyA G 0, 32768, .inl (tf0)))]) hD hS hA [3, 4] rfl
            refine va_calli (va_runV (As := [.int (pp (Int32.toNatClampNeg v5))]) (rest := []) ⟨hx, hb, hml, hown, hts⟩ (k_X9_kindOf l hfl G t1 (pp (Int32.toNatClampNeg v5)) ta0 ta1 ta2 ta3 ta4 ta5 ta6 ta7 ta8 mm tf0 q_8 hq_8 H.size) (cwV 1 hts (gV wm1120 wm435 wm436 wm2 wm437) rfl rfl rfl (by decide +kernel) ⟨Nat.le_of_ble_eq_true rfl, Nat.le_of_ble_eq_true rfl⟩) (pre_v (pre_s hK hP hD hS hE [3, 4] rfl rfl (by decide) hFc) (va_recv hK hP (ci := 8) (q0 := 3) rfl rfl)) rfl rfl hl.1 rfl (lv_room (Nat.le_of_ble_eq_true rfl)) dX4_signsOf_58 ⟨Nat.le_of_ble_eq_true rfl, Nat.le_of_ble_eq_true rfl⟩) hS (fun q _ h => hFc q h) hFc (fun r u t H locs ht hvm hw hB hz1 hk1 hS => ?_)
            rw [show r = q_8 from hw]
            obtain ⟨hP1, hD1⟩ := hB
            rw [ht] at hP1
            obtain ⟨hP, hD⟩ := va_join (wr := [(h1, .inr (4, [.ref t1, .ref ga, .int gn, .int gr, .int gm, .int gt])), (o1, .inr (3, [.int on, .ref oc, .int ot, .ref op, .int os, .int og, .int ol, .int oh])), (op, .inl (cyA G 0, np, .inl (pp))), (ta1, .inl (cyA G 0, 32768, .inl (tf1))), (ta2, .inl (cyA G 0, 32768, .inl (tf2)))]) (w1 := [(t1, .inr (8, [.ref ta0, .ref ta1, .ref ta2, .ref ta3, .ref ta4, .ref ta5, .ref ta6, .ref ta7, .ref ta8, .int mm])), (ta0, .inl (cyA G 0, 32768, .inl (tf0)))]) hP hD [3, 4] [0, 1, 2, 5, 6] rfl rfl (by decide) (by decide) hk1 hFc hP1 hD1
            have hP : va_P (DG G) clP3 [(h1, .inr (4, [.ref t1, .ref ga, .int gn, .int gr, .int gm, .int gt])), (o1, .inr (3, [.int on, .ref oc, .int ot, .ref op, .int os, .int og, .int ol, .int oh])), (op, .inl (cyA G 0, np, .inl (pp))), (ta1, .inl (cyA G 0, 32768, .inl (tf1))), (ta2, .inl (cyA G 0, 32768, .inl (tf2))), (t1, .inr (8, [.ref ta0, .ref ta1, .ref ta2, .ref ta3, .ref ta4, .ref ta5, .ref ta6, .ref ta7, .ref ta8, .int mm])), (ta0, .inl (cyA G 0, 32768, .inl (tf0)))] H := hP
            have hD : va_D A [(h1, .inr (4, [.ref t1, .ref ga, .int gn, .int gr, .int gm, .int gt])), (o1, .inr (3, [.int on, .ref oc, .int ot, .ref op, .int os, .int og, .int ol, .int oh])), (op, .inl (cyA G 0, np, .inl (pp))), (ta1, .inl (cyA G 0, 32768, .inl (tf1))), (ta2, .inl (cyA G 0, 32768, .inl (tf2))), (t1, .inr (8, [.ref ta0, .ref ta1, .ref ta2, .ref ta3, .ref ta4, .ref ta5, .ref ta6, .ref ta7, .ref ta8, .int mm])), (ta0, .inl (cyA G 0, 32768, .inl (tf0)))] := hD
            refine W.widen (k := 0) (n := 0) (Nat.le_of_ble_eq_true rfl) (Nat.le_of_ble_eq_true rfl) ?_
            refine lv_iconst (v := 1) hx hb dX4_signsOf_61 (by decide) ?_
            refine lv_icmp_ne (tgt := 69) hx hb dX4_signsOf_62 (by decide) (fun c_9 => ?_) (fun c_9 => ?_)
            · rw [if_neg c_9] at hm
              refine lv_iconst (v := 0) hx hb dX4_signsOf_69 (by decide) ?_
              refine lv_istore (lv' := [(6, .int 0), (0, .ref h1), (1, .ref o1), (2, .int v2), (3, .int v3), (4, .int v4), (5, .int v5)]) hx hb dX4_signsOf_70 hl (by decide) rfl (fun ls hl => ?_)
              refine lv_iload hx hb dX4_signsOf_72 (lv_at hl 5 rfl) ?_
              refine lv_iload hx hb dX4_signsOf_74 (lv_at hl 0 rfl) ?_
              refine lv_if_eq (tgt := 83) hx hb dX4_signsOf_76 (by decide) (fun _ => ?_) (fun c => absurd (by decide) c)
              refine lv_ldc (v := 65537) hx hb hown (hts _ wm1133) dX4_signsOf_83 ?_
              refine lv_iconst (v := 4) hx hb dX4_signsOf_85 (by decide) ?_
              refine lv_iload hx hb dX4_signsOf_86 (lv_at hl 6 rfl) ?_
              refine lv_imul hx hb dX4_signsOf_88 ?_
              refine lv_iload_n hx hb dX4_signsOf_89 rfl (lv_at hl 4 rfl) ?_
              refine lv_iadd hx hb dX4_signsOf_90 ?_
              refine lv_ishl hx hb dX4_signsOf_91 ?_
              refine lv_ior hx hb dX4_signsOf_92 ?_
              refine lv_istore (lv' := [(4, .int (v4 ||| ((65537 : Int32) <<< (((4 * v5) + v3) &&& 31)))), (6, .int 0), (0, .ref h1), (1, .ref o1), (2, .int v2), (3, .int v3), (5, .int v5)]) hx hb dX4_signsOf_93 hl (by decide) rfl (fun ls hl => ?_)
              refine lv_iinc (v := (v5 + 1)) (lv' := [(5, .int (v5 + 1)), (4, .int (v4 ||| ((65537 : Int32) <<< (((4 * v5) + v3) &&& 31)))), (6, .int 0), (0, .ref h1), (1, .ref o1), (2, .int v2), (3, .int v3)]) hx hb dX4_signsOf_95 hl (k := 6) rfl rfl (by decide) rfl (fun ls hl => ?_)
              refine lv_goto (tgt := 6) hx hb dX4_signsOf_98 (by decide) ?_
              have hP9 := hP.sub (ws' := [(h1, .inr (4, [.ref t1, .ref ga, .int gn, .int gr, .int gm, .int gt])), (o1, .inr (3, [.int on, .ref oc, .int ot, .ref op, .int os, .int og, .int ol, .int oh])), (op, .inl (cyA G 0, np, .inl (pp))), (t1, .inr (8, [.ref ta0, .ref ta1, .ref ta2, .ref ta3, .ref ta4, .ref ta5, .ref ta6, .ref ta7, .ref ta8, .int mm])), (ta0, .inl (cyA G 0, 32768, .inl (tf0))), (ta1, .inl (cyA G 0, 32768, .inl (tf1))), (ta2, .inl (cyA G 0, 32768, .inl (tf2)))]) [0, 1, 2, 5, 6, 3, 4] rfl
              have hD9 := hD.sub (ws' := [(h1, .inr (4, [.ref t1, .ref ga, .int gn, .int gr, .int gm, .int gt])), (o1, .inr (3, [.int on, .ref oc, .int ot, .ref op, .int os, .int og, .int ol, .int oh])), (op, .inl (cyA G 0, np, .inl (pp))), (t1, .inr (8, [.ref ta0, .ref ta1, .ref ta2, .ref ta3, .ref ta4, .ref ta5, .ref ta6, .ref ta7, .ref ta8, .int mm])), (ta0, .inl (cyA G 0, 32768, .inl (tf0))), (ta1, .inl (cyA G 0, 32768, .inl (tf1))), (ta2, .inl (cyA G 0, 32768, .inl (tf2)))]) [0, 1, 2, 5, 6, 3, 4] (by decide) rfl
              refine W.widen (k := 0) (n := 0) (Nat.le_of_ble_eq_true rfl) (Nat.le_of_ble_eq_true rfl) ?_
              exact ih gr pp mm tf0 tf1 tf2 v2 v3 (v4 ||| ((65537 : Int32) <<< (((4 * v5) + v3) &&& 31))) (v5 + 1) _ _ hP9 hD9 hS _ (lv_sub hl [3, 4, 5, 6, 1, 0] rfl) hm
            · rw [if_pos c_9] at hm
              refine lv_iconst (v := 1) hx hb dX4_signsOf_65 (by decide) ?_
              refine lv_goto (tgt := 70) hx hb dX4_signsOf_66 (by decide) ?_
              refine lv_istore (lv' := [(6, .int 1), (0, .ref h1), (1, .ref o1), (2, .int v2), (3, .int v3), (4, .int v4), (5, .int v5)]) hx hb dX4_signsOf_70 hl (by decide) rfl (fun ls hl => ?_)
              refine lv_iload hx hb dX4_signsOf_72 (lv_at hl 5 rfl) ?_
              refine lv_iload hx hb dX4_signsOf_74 (lv_at hl 0 rfl) ?_
              refine lv_if_eq (tgt := 83) hx hb dX4_signsOf_76 (by decide) (fun c => absurd c (by decide)) (fun _ => ?_)
              refine lv_iconst (v := 1) hx hb dX4_signsOf_79 (by decide) ?_
              refine lv_goto (tgt := 85) hx hb dX4_signsOf_80 (by decide) ?_
              refine lv_iconst (v := 4) hx hb dX4_signsOf_85 (by decide) ?_
              refine lv_iload hx hb dX4_signsOf_86 (lv_at hl 6 rfl) ?_
              refine lv_imul hx hb dX4_signsOf_88 ?_
              refine lv_iload_n hx hb dX4_signsOf_89 rfl (lv_at hl 4 rfl) ?_
              refine lv_iadd hx hb dX4_signsOf_90 ?_
              refine lv_ishl hx hb dX4_signsOf_91 ?_
              refine lv_ior hx hb dX4_signsOf_92 ?_
              refine lv_istore (lv' := [(4, .int (v4 ||| ((1 : Int32) <<< (((4 * v5) + v3) &&& 31)))), (6, .int 1), (0, .ref h1), (1, .ref o1), (2, .int v2), (3, .int v3), (5, .int v5)]) hx hb dX4_signsOf_93 hl (by decide) rfl (fun ls hl => ?_)
              refine lv_iinc (v := (v5 + 1)) (lv' := [(5, .int (v5 + 1)), (4, .int (v4 ||| ((1 : Int32) <<< (((4 * v5) + v3) &&& 31)))), (6, .int 1), (0, .ref h1), (1, .ref o1), (2, .int v2), (3, .int v3)]) hx hb dX4_signsOf_95 hl (k := 6) rfl rfl (by decide) rfl (fun ls hl => ?_)
              refine lv_goto (tgt := 6) hx hb dX4_signsOf_98 (by decide) ?_
              have hP9 := hP.sub (ws' := [(h1, .inr (4, [.ref t1, .ref ga, .int gn, .int gr, .int gm, .int gt])), (o1, .inr (3, [.int on, .ref oc, .int ot, .ref op, .int os, .int og, .int ol, .int oh])), (op, .inl (cyA G 0, np, .inl (pp))), (t1, .inr (8, [.ref ta0, .ref ta1, .ref ta2, .ref ta3, .ref ta4, .ref ta5, .ref ta6, .ref ta7, .ref ta8, .int mm])), (ta0, .inl (cyA G 0, 32768, .inl (tf0))), (ta1, .inl (cyA G 0, 32768, .inl (tf1))), (ta2, .inl (cyA G 0, 32768, .inl (tf2)))]) [0, 1, 2, 5, 6, 3, 4] rfl
              have hD9 := hD.sub (ws' := [(h1, .inr (4, [.ref t1, .ref ga, .int gn, .int gr, .int gm, .int gt])), (o1, .inr (3, [.int on, .ref oc, .int ot, .ref op, .int os, .int og, .int ol, .int oh])), (op, .inl (cyA G 0, np, .inl (pp))), (t1, .inr (8, [.ref ta0, .ref ta1, .ref ta2, .ref ta3, .ref ta4, .ref ta5, .ref ta6, .ref ta7, .ref ta8, .int mm])), (ta0, .inl (cyA G 0, 32768, .inl (tf0))), (ta1, .inl (cyA G 0, 32768, .inl (tf1))), (ta2, .inl (cyA G 0, 32768, .inl (tf2)))]) [0, 1, 2, 5, 6, 3, 4] (by decide) rfl
              refine W.widen (k := 0) (n := 0) (Nat.le_of_ble_eq_true rfl) (Nat.le_of_ble_eq_true rfl) ?_
              exact ih gr pp mm tf0 tf1 tf2 v2 v3 (v4 ||| ((1 : Int32) <<< (((4 * v5) + v3) &&& 31))) (v5 + 1) _ _ hP9 hD9 hS _ (lv_sub hl [3, 4, 5, 6, 1, 0] rfl) hm
set_option maxHeartbeats 4000000 in
set_option maxRecDepth 100000 in
theorem k_X4_signsOf (l : Launch) (hfl : l.stackTraces = false) (G : GC) (np : Nat) (h1 : Nat) (o1 : Nat) (p1 : Int32) (p2 : Int32) (t1 : Nat) (ga : Nat) (gn : Int32) (gr : Int32) (gm : Int32) (gt : Int32) (on : Int32) (oc : Nat) (ot : Int32) (op : Nat) (os : Int32) (og : Int32) (ol : Int32) (oh : Int32) (pp : Nat → Int32) (ta0 : Nat) (ta1 : Nat) (ta2 : Nat) (ta3 : Nat) (ta4 : Nat) (ta5 : Nat) (ta6 : Nat) (ta7 : Nat) (ta8 : Nat) (mm : Int32) (tf0 : Nat → Int32) (tf1 : Nat → Int32) (tf2 : Nat → Int32) (r9 : Int32) (hm : f_X4_signsOf np gr pp mm tf0 tf1 tf2 p1 p2 = some r9) (sz : Nat) : Met l yX4_signsOf (Cond.code yX4_signsOf cX4_signsOf 7 (some .int) :: W0) ({ frames := 202, cells := 0, slots := 0, locals := 4644 }) (va_Pc [.ref h1, .ref o1, .int p1, .int p2] (WD G [(h1, .inr (4, [.ref t1, .ref ga, .int gn, .int gr, .int gm, .int gt])), (o1, .inr (3, [.int on, .ref oc, .int ot, .ref op, .int os, .int og, .int ol, .int oh])), (op, .inl (cyA G 0, np, .inl (pp))), (t1, .inr (8, [.ref ta0, .ref ta1, .ref ta2, .ref ta3, .ref ta4, .ref ta5, .ref ta6, .ref ta7, .ref ta8, .int mm])), (ta0, .inl (cyA G 0, 32768, .inl (tf0))), (ta1, .inl (cyA G 0, 32768, .inl (tf1))), (ta2, .inl (cyA G 0, 32768, .inl (tf2)))] sz)) (va_Qi (fun (r : Int32) (_ : Unit) => r = r9) (fun _ t => PW G (va_A [(h1, .inr (4, [.ref t1, .ref ga, .int gn, .int gr, .int gm, .int gt])), (o1, .inr (3, [.int on, .ref oc, .int ot, .ref op, .int os, .int og, .int ol, .int oh])), (op, .inl (cyA G 0, np, .inl (pp))), (t1, .inr (8, [.ref ta0, .ref ta1, .ref ta2, .ref ta3, .ref ta4, .ref ta5, .ref ta6, .ref ta7, .ref ta8, .int mm])), (ta0, .inl (cyA G 0, 32768, .inl (tf0))), (ta1, .inl (cyA G 0, 32768, .inl (tf1))), (ta2, .inl (cyA G 0, 32768, .inl (tf2)))] sz) [(h1, .inr (4, [.ref t1, .ref ga, .int gn, .int gr, .int gm, .int gt])), (o1, .inr (3, [.int on, .ref oc, .int ot, .ref op, .int os, .int og, .int ol, .int oh])), (op, .inl (cyA G 0, np, .inl (pp))), (t1, .inr (8, [.ref ta0, .ref ta1, .ref ta2, .ref ta3, .ref ta4, .ref ta5, .ref ta6, .ref ta7, .ref ta8, .int mm])), (ta0, .inl (cyA G 0, 32768, .inl (tf0))), (ta1, .inl (cyA G 0, 32768, .inl (tf1))), (ta2, .inl (cyA G 0, 32768, .inl (tf2)))] t) (va_A [(h1, .inr (4, [.ref t1, .ref ga, .int gn, .int gr, .int gm, .int gt])), (o1, .inr (3, [.int on, .ref oc, .int ot, .ref op, .int os, .int og, .int ol, .int oh])), (op, .inl (cyA G 0, np, .inl (pp))), (t1, .inr (8, [.ref ta0, .ref ta1, .ref ta2, .ref ta3, .ref ta4, .ref ta5, .ref ta6, .ref ta7, .ref ta8, .int mm])), (ta0, .inl (cyA G 0, 32768, .inl (tf0))), (ta1, .inl (cyA G 0, 32768, .inl (tf1))), (ta2, .inl (cyA G 0, 32768, .inl (tf2)))] sz)) 0 0 (va_A [(h1, .inr (4, [.ref t1, .ref ga, .int gn, .int gr, .int gm, .int gt])), (o1, .inr (3, [.int on, .ref oc, .int ot, .ref op, .int os, .int og, .int ol, .int oh])), (op, .inl (cyA G 0, np, .inl (pp))), (t1, .inr (8, [.ref ta0, .ref ta1, .ref ta2, .ref ta3, .ref ta4, .ref ta5, .ref ta6, .ref ta7, .ref ta8, .int mm])), (ta0, .inl (cyA G 0, 32768, .inl (tf0))), (ta1, .inl (cyA G 0, 32768, .inl (tf1))), (ta2, .inl (cyA G 0, 32768, .inl (tf2)))] sz) := by
  rw [f_X4_signsOf] at hm
  refine Met.ofW (cc := cX4_signsOf) (maxL := 7) (ret := (some .int)) (by decide) rfl ?_
  intro p e s m args below meth c s₁ B hml hv
  obtain ⟨rfl, hsz, hP, hK, hD0, hE⟩ := hv
  have hx := B.exec
  have hb := B.bytes
  have hr := B.returns
  have hts := w0_tail B.pre
  have hown : s.vm.findClass RX4 = some m.cls := findClass_of_methodNamed B.named
  have hlocks := B.notSynchronized
  subst hsz
  have hD := hD0.self (sz := s.heap.size)
  generalize hAe : va_A [(h1, .inr (4, [.ref t1, .ref ga, .int gn, .int gr, .int gm, .int gt])), (o1, .inr (3, [.int on, .ref oc, .int ot, .ref op, .int os, .int og, .int ol, .int oh])), (op, .inl (cyA G 0, np, .inl (pp))), (t1, .inr (8, [.ref ta0, .ref ta1, .ref ta2, .ref ta3, .ref ta4, .ref ta5, .ref ta6, .ref ta7, .ref ta8, .int mm])), (ta0, .inl (cyA G 0, 32768, .inl (tf0))), (ta1, .inl (cyA G 0, 32768, .inl (tf1))), (ta2, .inl (cyA G 0, 32768, .inl (tf2)))] s.heap.size = A at hD hE ⊢
  have hA : ∀ q : Nat, s.heap.size ≤ q → A q := fun q h => by rw [← hAe]; exact Or.inr h
  have hS : va_S A s.heap s.heap [] := va_S.rf
  obtain ⟨H, hHe⟩ : ∃ H : Heap, H = s.heap := ⟨_, rfl⟩
  have hP : va_P (DG G) clP3 [(h1, .inr (4, [.ref t1, .ref ga, .int gn, .int gr, .int gm, .int gt])), (o1, .inr (3, [.int on, .ref oc, .int ot, .ref op, .int os, .int og, .int ol, .int oh])), (op, .inl (cyA G 0, np, .inl (pp))), (t1, .inr (8, [.ref ta0, .ref ta1, .ref ta2, .ref ta3, .ref ta4, .ref ta5, .ref ta6, .ref ta7, .ref ta8, .int mm])), (ta0, .inl (cyA G 0, 32768, .inl (tf0))), (ta1, .inl (cyA G 0, 32768, .inl (tf1))), (ta2, .inl (cyA G 0, 32768, .inl (tf2)))] H := by rw [hHe]; exact hP
  have hS : va_S A s.heap H [] := by rw [hHe]; exact hS
  have hl := lv_entry ([.ref h1, .ref o1, .int p1, .int p2]) (n := 7) (Nat.le_of_ble_eq_true rfl)
  rw [lg_entry_eq, ← hHe]
  generalize (lg_sl ([.ref h1, .ref o1, .int p1, .int p2]) ++ List.replicate (7 - (lg_sl ([.ref h1, .ref o1, .int p1, .int p2])).length) Slot.unset).toArray = ls at hl ⊢
  have hl : lv_has ls 7 [(0, .ref h1), (1, .ref o1), (2, .int p1), (3, .int p2)] := hl
  refine lv_iconst (v := 0) hx hb dX4_signsOf_0 (by decide) ?_
  refine lv_istore (lv' := [(4, .int 0), (0, .ref h1), (1, .ref o1), (2, .int p1), (3, .int p2)]) hx hb dX4_signsOf_1 hl (by decide) rfl (fun ls hl => ?_)
  refine lv_iconst (v := 0) hx hb dX4_signsOf_3 (by decide) ?_
  refine lv_istore (lv' := [(5, .int 0), (4, .int 0), (0, .ref h1), (1, .ref o1), (2, .int p1), (3, .int p2)]) hx hb dX4_signsOf_4 hl (by decide) rfl (fun ls hl => ?_)
  have hP9 := hP.sub (ws' := [(h1, .inr (4, [.ref t1, .ref ga, .int gn, .int gr, .int gm, .int gt])), (o1, .inr (3, [.int on, .ref oc, .int ot, .ref op, .int os, .int og, .int ol, .int oh])), (op, .inl (cyA G 0, np, .inl (pp))), (t1, .inr (8, [.ref ta0, .ref ta1, .ref ta2, .ref ta3, .ref ta4, .ref ta5, .ref ta6, .ref ta7, .ref ta8, .int mm])), (ta0, .inl (cyA G 0, 32768, .inl (tf0))), (ta1, .inl (cyA G 0, 32768, .inl (tf1))), (ta2, .inl (cyA G 0, 32768, .inl (tf2)))]) [0, 1, 2, 3, 4, 5, 6] rfl
  have hD9 := hD.sub (ws' := [(h1, .inr (4, [.ref t1, .ref ga, .int gn, .int gr, .int gm, .int gt])), (o1, .inr (3, [.int on, .ref oc, .int ot, .ref op, .int os, .int og, .int ol, .int oh])), (op, .inl (cyA G 0, np, .inl (pp))), (t1, .inr (8, [.ref ta0, .ref ta1, .ref ta2, .ref ta3, .ref ta4, .ref ta5, .ref ta6, .ref ta7, .ref ta8, .int mm])), (ta0, .inl (cyA G 0, 32768, .inl (tf0))), (ta1, .inl (cyA G 0, 32768, .inl (tf1))), (ta2, .inl (cyA G 0, 32768, .inl (tf2)))]) [0, 1, 2, 3, 4, 5, 6] (by decide) rfl
  refine W.widen (k := 0) (n := 0) (Nat.le_of_ble_eq_true rfl) (Nat.le_of_ble_eq_true rfl) ?_
  exact kl_X4_signsOf_6 hfl hx hb hr hml hown hts hlocks hA hE hK r9 100000 gr pp mm tf0 tf1 tf2 p1 p2 0 0 _ _ hP9 hD9 hS _ (lv_sub hl [2, 3, 4, 5, 1, 0] rfl) hm
def f_X4_graphOf_L18 (np : Nat) : Nat → (Int32) → (Nat → Int32) → (Int32) → (Nat → Int32) → (Nat → Int32) → (Nat → Int32) → (Int32) → (Int32) → (Int32) → (Int32) → Option (Int32)
  | 0, _, _, _, _, _, _, _, _, _, _ => none
  | n + 1, gr, pp, mm, tf0, tf1, tf2, v3, v4, v5, v6 => (if v6 < 0 then some v4 else (Option.bind (f_X9_secondOf mm tf2 v5) (fun q_3 => (if gr ≤ v6 then (Option.bind (f_X9_firstOf mm tf1 v5) (fun q_5 => (f_X4_graphOf_L18 np n gr pp mm tf0 tf1 tf2 v3 v4 q_5 (v6 + (-1))))) else (Option.bind (f_X9_kindOf mm tf0 q_3) (fun q_6 => (if q_6 = 1 then (Option.bind (f_X9_firstOf mm tf1 q_3) (fun q_9 => (Option.bind (f_X4_signsOf np gr pp mm tf0 tf1 tf2 (q_9 - v3) v6) (fun q_10 => (Option.bind (f_X9_firstOf mm tf1 v5) (fun q_11 => (f_X4_graphOf_L18 np n gr pp mm tf0 tf1 tf2 v3 (v4 ||| q_10) q_11 (v6 + (-1))))))))) else (Option.bind (f_X9_firstOf mm tf1 v5) (fun q_8 => (f_X4_graphOf_L18 np n gr pp mm tf0 tf1 tf2 v3 v4 q_8 (v6 + (-1))))))))))))
def f_X4_graphOf  (np : Nat) (gr : Int32) (pp : Nat → Int32) (mm : Int32) (tf0 : Nat → Int32) (tf1 : Nat → Int32) (tf2 : Nat → Int32) (p1 : Int32) (p2 : Int32) : Option (Int32) := (Option.bind (f_X9_argumentsOf mm tf0 tf1 p1) (fun q_1 => (f_X4_graphOf_L18 np 100000 gr pp mm tf0 tf1 tf2 p2 0 p1 (q_1 - 1))))
set_option maxHeartbeats 4000000 in
set_option maxRecDepth 100000 in
theorem kl_X4_graphOf_18 {l : Launch} (hfl : l.stackTraces = false) {G : GC} {np : Nat} {h1 : Nat} {o1 : Nat} {t1 : Nat} {ga : Nat} {oc : Nat} {op : Nat} {ta0 : Nat} {ta1 : Nat} {ta2 : Nat} {ta3 : Nat} {ta4 : Nat} {ta5 : Nat} {ta6 : Nat} {ta7 : Nat} {ta8 : Nat} {gn : Int32} {gm : Int32} {gt : Int32} {on : Int32} {ot : Int32} {os : Int32} {og : Int32} {ol : Int32} {oh : Int32} {A : Nat → Prop} {p : Program} {e : Env} {s : State} {m : MethodId} {args : Array Value} {below : List Frame} {meth : Method} {c : Code} (hx : p.tables.exec = Jvm.exec) (hb : c.code = cX4_graphOf) (hr : meth.sig.returnType = (some .int)) (hml : c.maxLocals = 8) (hown : s.vm.findClass RX4 = some m.cls) (hts : ∀ w ∈ W0, w.before args s = true) (hlocks : meth.locks = false) (hA : ∀ q : Nat, s.heap.size ≤ q → A q) (hE : EV G A s s.heap) (hK : va_K (DG G) clP3 (TY G) s) (r9 : Int32) : ∀ (n : Nat) (gr : Int32) (pp : Nat → Int32) (mm : Int32) (tf0 : Nat → Int32) (tf1 : Nat → Int32) (tf2 : Nat → Int32) (v3 : Int32) (v4 : Int32) (v5 : Int32) (v6 : Int32) (H : Heap) (locs : List Loc), va_P (DG G) clP3 [(h1, .inr (4, [.ref t1, .ref ga, .int gn, .int gr, .int gm, .int gt])), (o1, .inr (3, [.int on, .ref oc, .int ot, .ref op, .int os, .int og, .int ol, .int oh])), (op, .inl (cyA G 0, np, .inl (pp))), (t1, .inr (8, [.ref ta0, .ref ta1, .ref ta2, .ref ta3, .ref ta4, .ref ta5, .ref ta6, .ref ta7, .ref ta8, .int mm])), (ta0, .inl (cyA G 0, 32768, .inl (tf0))), (ta1, .inl (cyA G 0, 32768, .inl (tf1))), (ta2, .inl (cyA G 0, 32768, .inl (tf2)))] H → va_D A [(h1, .inr (4, [.ref t1, .ref ga, .int gn, .int gr, .int gm, .int gt])), (o1, .inr (3, [.int on, .ref oc, .int ot, .ref op, .int os, .int og, .int ol, .int oh])), (op, .inl (cyA G 0, np, .inl (pp))), (t1, .inr (8, [.ref ta0, .ref ta1, .ref ta2, .ref ta3, .ref ta4, .ref ta5, .ref ta6, .ref ta7, .ref ta8, .int mm])), (ta0, .inl (cyA G 0, 32768, .inl (tf0))), (ta1, .inl (cyA G 0, 32768, .inl (tf1))), (ta2, .inl (cyA G 0, 32768, .inl (tf2)))] → va_S A s.heap H locs → ∀ (ls : Array Slot), lv_has ls 8 [(0, .ref h1), (1, .ref o1), (3, .int v3), (4, .int v4), (5, .int v5), (6, .int v6)] → f_X4_graphOf_L18 np n gr pp mm tf0 tf1 tf2 v3 v4 v5 v6 = some r9 → W p l e ({ frames := 203, cells := 0, slots := 0, locals := 4670 }) s m args below meth c H locs 0 0 (MQ below (va_Qi (fun (r : Int32) (_ : Unit) => r = r9) (fun _ t => PW G A [(h1, .inr (4, [.ref t1, .ref ga, .int gn, .int gr, .int gm, .int gt])), (o1, .inr (3, [.int on, .ref oc, .int ot, .ref op, .int os, .int og, .int ol, .int oh])), (op, .inl (cyA G 0, np, .inl (pp))), (t1, .inr (8, [.ref ta0, .ref ta1, .ref ta2, .ref ta3, .ref ta4, .ref ta5, .ref ta6, .ref ta7, .ref ta8, .int mm])), (ta0, .inl (cyA G 0, 32768, .inl (tf0))), (ta1, .inl (cyA G 0, 32768, .inl (tf1))), (ta2, .inl (cyA G 0, 32768, .inl (tf2)))] t) A) args s 0 0 A) (F0 m 18 ls []) := by
  intro n
  induction n with
  | zero =>
    intro gr pp mm tf0 tf1 tf2 v3 v4 v5 v6 H locs hP hD hS ls hl hm
    rw [f_X4_graphOf_L18] at hm
    cases hm
  | succ n ih =>
    intro gr pp mm tf0 tf1 tf2 v3 v4 v5 v6 H locs hP hD hS ls hl hm
    rw [f_X4_graphOf_L18] at hm
    refine lv_iload hx hb dX4_graphOf_18 (lv_at hl 5 rfl) ?_
    refine lv_if_lt (tgt := 96) hx hb dX4_graphOf_20 (by decide) (fun c_2 => ?_) (fun c_2 => ?_)
    · rw [if_pos c_2] at hm
      refine lv_iload hx hb dX4_graphOf_96 (lv_at hl 3 rfl) ?_
      obtain rfl := Option.some.inj hm
      have hP9 := hP.sub (ws' := [(h1, .inr (4, [.ref t1, .ref ga, .int gn, .int gr, .int gm, .int gt])), (o1, .inr (3, [.int on, .ref oc, .int ot, .ref op, .int os, .int og, .int ol, .int oh])), (op, .inl (cyA G 0, np, .inl (pp))), (t1, .inr (8, [.ref ta0, .ref ta1, .ref ta2, .ref ta3, .ref ta4, .ref ta5, .ref ta6, .ref ta7, .ref ta8, .int mm])), (ta0, .inl (cyA G 0, 32768, .inl (tf0))), (ta1, .inl (cyA G 0, 32768, .inl (tf1))), (ta2, .inl (cyA G 0, 32768, .inl (tf2)))]) [0, 1, 2, 3, 4, 5, 6] rfl
      have hD9 := hD.sub (ws' := [(h1, .inr (4, [.ref t1, .ref ga, .int gn, .int gr, .int gm, .int gt])), (o1, .inr (3, [.int on, .ref oc, .int ot, .ref op, .int os, .int og, .int ol, .int oh])), (op, .inl (cyA G 0, np, .inl (pp))), (t1, .inr (8, [.ref ta0, .ref ta1, .ref ta2, .ref ta3, .ref ta4, .ref ta5, .ref ta6, .ref ta7, .ref ta8, .int mm])), (ta0, .inl (cyA G 0, 32768, .inl (tf0))), (ta1, .inl (cyA G 0, 32768, .inl (tf1))), (ta2, .inl (cyA G 0, 32768, .inl (tf2)))]) [0, 1, 2, 3, 4, 5, 6] (by decide) rfl
      refine W.widen (k := 0) (n := 0) (Nat.le_of_ble_eq_true rfl) (Nat.le_of_ble_eq_true rfl) ?_
      exact W.iret (v := v4) hx hb hr (fun t ht hW => ⟨⟨v4, (), rfl, rfl, ⟨by rw [ht]; exact hP9, hD9⟩⟩, hS.F ht⟩) hS.2.2 dX4_graphOf_98 hlocks
    · rw [if_neg c_2] at hm
      refine lv_aload_n hx hb dX4_graphOf_23 rfl (lv_at hl 0 rfl) ?_
      refine va_get (D := DG G) (ci := 4) (v := .ref t1) (C := RX4) (T := TX4) (N := 6) hx hb hts inW_X4 hown hK hP 0 rfl rfl 0 (by decide) (hts _ wm220) (fun _ h9 => h9) rfl dX4_graphOf_24 ?_
      refine lv_iload hx hb dX4_graphOf_27 (lv_at hl 4 rfl) ?_
      obtain ⟨q_3, hq_3, hm⟩ := bind_some hm
      have hFc := va_free (wc := [(t1, .inr (8, [.ref ta0, .ref ta1, .ref ta2, .ref ta3, .ref ta4, .ref ta5, .ref ta6, .ref ta7, .ref ta8, .int mm])), (ta2, .inl (cyA G 0, 32768, .inl (tf2)))]) hD hS hA [3, 6] rfl
      refine va_calli (va_runV (As := [.int v5]) (rest := []) ⟨hx, hb, hml, hown, hts⟩ (k_X9_secondOf l hfl G t1 v5 ta0 ta1 ta2 ta3 ta4 ta5 ta6 ta7 ta8 mm tf2 q_3 hq_3 H.size) (cwV 1 hts (gV wm1118 wm460 wm461 wm2 wm462) rfl rfl rfl (by decide +kernel) ⟨Nat.le_of_ble_eq_true rfl, Nat.le_of_ble_eq_true rfl⟩) (pre_v (pre_s hK hP hD hS hE [3, 6] rfl rfl (by decide) hFc) (va_recv hK hP (ci := 8) (q0 := 3) rfl rfl)) rfl rfl hl.1 rfl (lv_room (Nat.le_of_ble_eq_true rfl)) dX4_graphOf_29 ⟨Nat.le_of_ble_eq_true rfl, Nat.le_of_ble_eq_true rfl⟩) hS (fun q _ h => hFc q h) hFc (fun r u t H locs ht hvm hw hB hz1 hk1 hS => ?_)
      rw [show r = q_3 from hw]
      obtain ⟨hP1, hD1⟩ := hB
      rw [ht] at hP1
      obtain ⟨hP, hD⟩ := va_join (wr := [(h1, .inr (4, [.ref t1, .ref ga, .int gn, .int gr, .int gm, .int gt])), (o1, .inr (3, [.int on, .ref oc, .int ot, .ref op, .int os, .int og, .int ol, .int oh])), (op, .inl (cyA G 0, np, .inl (pp))), (ta0, .inl (cyA G 0, 32768, .inl (tf0))), (ta1, .inl (cyA G 0, 32768, .inl (tf1)))]) (w1 := [(t1, .inr (8, [.ref ta0, .ref ta1, .ref ta2, .ref ta3, .ref ta4, .ref ta5, .ref ta6, .ref ta7, .ref ta8, .int mm])), (ta2, .inl (cyA G 0, 32768, .inl (tf2)))]) hP hD [3, 6] [0, 1, 2, 4, 5] rfl rfl (by decide) (by decide) hk1 hFc hP1 hD1
      have hP : va_P (DG G) clP3 [(h1, .inr (4, [.ref t1, .ref ga, .int gn, .int gr, .int gm, .int gt])), (o1, .inr (3, [.int on, .ref oc, .int ot, .ref op, .int os, .int og, .int ol, .int oh])), (op, .inl (cyA G 0, np, .inl (pp))), (ta0, .inl (cyA G 0, 32768, .inl (tf0))), (ta1, .inl (cyA G 0, 32768, .inl (tf1))), (t1, .inr (8, [.ref ta0, .ref ta1, .ref ta2, .ref ta3, .ref ta4, .ref ta5, .ref ta6, .ref ta7, .ref ta8, .int mm])), (ta2, .inl (cyA G 0, 32768, .inl (tf2)))] H := hP
      have hD : va_D A [(h1, .inr (4, [.ref t1, .ref ga, .int gn, .int gr, .int gm, .int gt])), (o1, .inr (3, [.int on, .ref oc, .int ot, .ref op, .int os, .int og, .int ol, .int oh])), (op, .inl (cyA G 0, np, .inl (pp))), (ta0, .inl (cyA G 0, 32768, .inl (tf0))), (ta1, .inl (cyA G 0, 32768, .inl (tf1))), (t1, .inr (8, [.ref ta0, .ref ta1, .ref ta2, .ref ta3, .ref ta4, .ref ta5, .ref ta6, .ref ta7, .ref ta8, .int mm])), (ta2, .inl (cyA G 0, 32768, .inl (tf2)))] := hD
      refine W.widen (k := 0) (n := 0) (Nat.le_of_ble_eq_true rfl) (Nat.le_of_ble_eq_true rfl) ?_
      refine lv_istore (lv' := [(7, .int q_3), (0, .ref h1), (1, .ref o1), (3, .int v3), (4, .int v4), (5, .int v5), (6, .int v6)]) hx hb dX4_graphOf_32 hl (by decide) rfl (fun ls hl => ?_)
      refine lv_iload hx hb dX4_graphOf_34 (lv_at hl 6 rfl) ?_
      refine lv_aload_n hx hb dX4_graphOf_36 rfl (lv_at hl 1 rfl) ?_
      refine va_get (D := DG G) (ci := 4) (v := .int gr) (C := RX4) (T := TX4) (N := 6) hx hb hts inW_X4 hown hK hP 0 rfl rfl 3 (by decide) (hts _ wm223) (fun _ h9 => h9) rfl dX4_graphOf_37 ?_
      refine lv_icmp_ge (tgt := 79) hx hb dX4_graphOf_40 (by decide) (fun c_4 => ?_) (fun c_4 => ?_)
      · rw [if_pos c_4] at hm
        refine lv_aload_n hx hb dX4_graphOf_79 rfl (lv_at hl 1 rfl) ?_
        refine va_get (D := DG G) (ci := 4) (v := .ref t1) (C := RX4) (T := TX4) (N := 6) hx hb hts inW_X4 hown hK hP 0 rfl rfl 0 (by decide) (hts _ wm220) (fun _ h9 => h9) rfl dX4_graphOf_80 ?_
        refine lv_iload hx hb dX4_graphOf_83 (lv_at hl 5 rfl) ?_
        obtain ⟨q_5, hq_5, hm⟩ := bind_some hm
        have hFc := va_free (wc := [(t1, .inr (8, [.ref ta0, .ref ta1, .ref ta2, .ref ta3, .ref ta4, .ref ta5, .ref ta6, .ref ta7, .ref ta8, .int mm])), (ta1, .inl (cyA G 0, 32768, .inl (tf1)))]) hD hS hA [5, 4] rfl
        refine va_calli (va_runV (As := [.int v5]) (rest := []) ⟨hx, hb, hml, hown, hts⟩ (k_X9_firstOf l hfl G t1 v5 ta0 ta1 ta2 ta3 ta4 ta5 ta6 ta7 ta8 mm tf1 q_5 hq_5 H.size) (cwV 1 hts (gV wm1119 wm431 wm432 wm2 wm433) rfl rfl rfl (by decide +kernel) ⟨Nat.le_of_ble_eq_true rfl, Nat.le_of_ble_eq_true rfl⟩) (pre_v (pre_s hK hP hD hS hE [5, 4] rfl rfl (by decide) hFc) (va_recv hK hP (ci := 8) (q0 := 5) rfl rfl)) rfl rfl hl.1 rfl (lv_room (Nat.le_of_ble_eq_true rfl)) dX4_graphOf_85 ⟨Nat.le_of_ble_eq_true rfl, Nat.le_of_ble_eq_true rfl⟩) hS (fun q _ h => hFc q h) hFc (fun r u t H locs ht hvm hw hB hz1 hk1 hS => ?_)
        rw [show r = q_5 from hw]
        obtain ⟨hP1, hD1⟩ := hB
        rw [ht] at hP1
        obtain ⟨hP, hD⟩ := va_join (wr := [(h1, .inr (4, [.ref t1, .ref ga, .int gn, .int gr, .int gm, .int gt])), (o1, .inr (3, [.int on, .ref oc, .int ot, .ref op, .int os, .int og, .int ol, .int oh])), (op, .inl (cyA G 0, np, .inl (pp))), (ta0, .inl (cyA G 0, 32768, .inl (tf0))), (ta2, .inl (cyA G 0, 32768, .inl (tf2)))]) (w1 := [(t1, .inr (8, [.ref ta0, .ref ta1, .ref ta2, .ref ta3, .ref ta4, .ref ta5, .ref ta6, .ref ta7, .ref ta8, .int mm])), (ta1, .inl (cyA G 0, 32768, .inl (tf1)))]) hP hD [5, 4] [0, 1, 2, 3, 6] rfl rfl (by decide) (by decide) hk1 hFc hP1 hD1
        have hP : va_P (DG G) clP3 [(h1, .inr (4, [.ref t1, .ref ga, .int gn, .int gr, .int gm, .int gt])), (o1, .inr (3, [.int on, .ref oc, .int ot, .ref op, .int os, .int og, .int ol, .int oh])), (op, .inl (cyA G 0, np, .inl (pp))), (ta0, .inl (cyA G 0, 32768, .inl (tf0))), (ta2, .inl (cyA G 0, 32768, .inl (tf2))), (t1, .inr (8, [.ref ta0, .ref ta1, .ref ta2, .ref ta3, .ref ta4, .ref ta5, .ref ta6, .ref ta7, .ref ta8, .int mm])), (ta1, .inl (cyA G 0, 32768, .inl (tf1)))] H := hP
        have hD : va_D A [(h1, .inr (4, [.ref t1, .ref ga, .int gn, .int gr, .int gm, .int gt])), (o1, .inr (3, [.int on, .ref oc, .int ot, .ref op, .int os, .int og, .int ol, .int oh])), (op, .inl (cyA G 0, np, .inl (pp))), (ta0, .inl (cyA G 0, 32768, .inl (tf0))), (ta2, .inl (cyA G 0, 32768, .inl (tf2))), (t1, .inr (8, [.ref ta0, .ref ta1, .ref ta2, .ref ta3, .ref ta4, .ref ta5, .ref ta6, .ref ta7, .ref ta8, .int mm])), (ta1, .inl (cyA G 0, 32768, .inl (tf1)))] := hD
        refine W.widen (k := 0) (n := 0) (Nat.le_of_ble_eq_true rfl) (Nat.le_of_ble_eq_true rfl) ?_
        refine lv_istore (lv' := [(5, .int q_5), (7, .int q_3), (0, .ref h1), (1, .ref o1), (3, .int v3), (4, .int v4), (6, .int v6)]) hx hb dX4_graphOf_88 hl (by decide) rfl (fun ls hl => ?_)
        refine lv_iinc (v := (v6 + (-1))) (lv' := [(6, .int (v6 + (-1))), (5, .int q_5), (7, .int q_3), (0, .ref h1), (1, .ref o1), (3, .int v3), (4, .int v4)]) hx hb dX4_graphOf_90 hl (k := 6) rfl rfl (by decide) rfl (fun ls hl => ?_)
        refine lv_goto (tgt := 18) hx hb dX4_graphOf_93 (by decide) ?_
        have hP9 := hP.sub (ws' := [(h1, .inr (4, [.ref t1, .ref ga, .int gn, .int gr, .int gm, .int gt])), (o1, .inr (3, [.int on, .ref oc, .int ot, .ref op, .int os, .int og, .int ol, .int oh])), (op, .inl (cyA G 0, np, .inl (pp))), (t1, .inr (8, [.ref ta0, .ref ta1, .ref ta2, .ref ta3, .ref ta4, .ref ta5, .ref ta6, .ref ta7, .ref ta8, .int mm])), (ta0, .inl (cyA G 0, 32768, .inl (tf0))), (ta1, .inl (cyA G 0, 32768, .inl (tf1))), (ta2, .inl (cyA G 0, 32768, .inl (tf2)))]) [0, 1, 2, 5, 3, 6, 4] rfl
        have hD9 := hD.sub (ws' := [(h1, .inr (4, [.ref t1, .ref ga, .int gn, .int gr, .int gm, .int gt])), (o1, .inr (3, [.int on, .ref oc, .int ot, .ref op, .int os, .int og, .int ol, .int oh])), (op, .inl (cyA G 0, np, .inl (pp))), (t1, .inr (8, [.ref ta0, .ref ta1, .ref ta2, .ref ta3, .ref ta4, .ref ta5, .ref ta6, .ref ta7, .ref ta8, .int mm])), (ta0, .inl (cyA G 0, 32768, .inl (tf0))), (ta1, .inl (cyA G 0, 32768, .inl (tf1))), (ta2, .inl (cyA G 0, 32768, .inl (tf2)))]) [0, 1, 2, 5, 3, 6, 4] (by decide) rfl
        refine W.widen (k := 0) (n := 0) (Nat.le_of_ble_eq_true rfl) (Nat.le_of_ble_eq_true rfl) ?_
        exact ih gr pp mm tf0 tf1 tf2 v3 v4 q_5 (v6 + (-1)) _ _ hP9 hD9 hS _ (lv_sub hl [3, 4, 5, 6, 1, 0] rfl) hm
      · rw [if_neg c_4] at hm
        refine lv_aload_n hx hb dX4_graphOf_43 rfl (lv_at hl 1 rfl) ?_
        refine va_get (D := DG G) (ci := 4) (v := .ref t1) (C := RX4) (T := TX4) (N := 6) hx hb hts inW_X4 hown hK hP 0 rfl rfl 0 (by decide) (hts _ wm220) (fun _ h9 => h9) rfl dX4_graphOf_44 ?_
        refine lv_iload hx hb dX4_graphOf_47 (lv_at hl 0 rfl) ?_
        obtain ⟨q_6, hq_6, hm⟩ := bind_some hm
        have hFc := va_free (wc := [(t1, .inr (8, [.ref ta0, .ref ta1, .ref ta2, .ref ta3, .ref ta4, .ref ta5, .ref ta6, .ref ta7, .ref ta8, .int mm])), (ta0, .inl (cyA G 0, 32768, .inl (tf0)))]) hD hS hA [5, 3] rfl
        refine va_calli (va_runV (As := [.int q_3]) (rest := []) ⟨hx, hb, hml, hown, hts⟩ (k_X9_kindOf l hfl G t1 q_3 ta0 ta1 ta2 ta3 ta4 ta5 ta6 ta7 ta8 mm tf0 q_6 hq_6 H.size) (cwV 1 hts (gV wm1120 wm435 wm436 wm2 wm437) rfl rfl rfl (by decide +kernel) ⟨Nat.le_of_ble_eq_true rfl, Nat.le_of_ble_eq_true rfl⟩) (pre_v (pre_s hK hP hD hS hE [5, 3] rfl rfl (by decide) hFc) (va_recv hK hP (ci := 8) (q0 := 5) rfl rfl)) rfl rfl hl.1 rfl (lv_room (Nat.le_of_ble_eq_true rfl)) dX4_graphOf_49 ⟨Nat.le_of_ble_eq_true rfl, Nat.le_of_ble_eq_true rfl⟩) hS (fun q _ h => hFc q h) hFc (fun r u t H locs ht hvm hw hB hz1 hk1 hS => ?_)
        rw [show r = q_6 from hw]
        obtain ⟨hP1, hD1⟩ := hB
        rw [ht] at hP1
        obtain ⟨hP, hD⟩ := va_join (wr := [(h1, .inr (4, [.ref t1, .ref ga, .int gn, .int gr, .int gm, .int gt])), (o1, .inr (3, [.int on, .ref oc, .int ot, .ref op, .int os, .int og, .int ol, .int oh])), (op, .inl (cyA G 0, np, .inl (pp))), (ta1, .inl (cyA G 0, 32768, .inl (tf1))), (ta2, .inl (cyA G 0, 32768, .inl (tf2)))]) (w1 := [(t1, .inr (8, [.ref ta0, .ref ta1, .ref ta2, .ref ta3, .ref ta4, .ref ta5, .ref ta6, .ref ta7, .ref ta8, .int mm])), (ta0, .inl (cyA G 0, 32768, .inl (tf0)))]) hP hD [5, 3] [0, 1, 2, 4, 6] rfl rfl (by decide) (by decide) hk1 hFc hP1 hD1
        have hP : va_P (DG G) clP3 [(h1, .inr (4, [.ref t1, .ref ga, .int gn, .int gr, .int gm, .int gt])), (o1, .inr (3, [.int on, .ref oc, .int ot, .ref op, .int os, .int og, .int ol, .int oh])), (op, .inl (cyA G 0, np, .inl (pp))), (ta1, .inl (cyA G 0, 32768, .inl (tf1))), (ta2, .inl (cyA G 0, 32768, .inl (tf2))), (t1, .inr (8, [.ref ta0, .ref ta1, .ref ta2, .ref ta3, .ref ta4, .ref ta5, .ref ta6, .ref ta7, .ref ta8, .int mm])), (ta0, .inl (cyA G 0, 32768, .inl (tf0)))] H := hP
        have hD : va_D A [(h1, .inr (4, [.ref t1, .ref ga, .int gn, .int gr, .int gm, .int gt])), (o1, .inr (3, [.int on, .ref oc, .int ot, .ref op, .int os, .int og, .int ol, .int oh])), (op, .inl (cyA G 0, np, .inl (pp))), (ta1, .inl (cyA G 0, 32768, .inl (tf1))), (ta2, .inl (cyA G 0, 32768, .inl (tf2))), (t1, .inr (8, [.ref ta0, .ref ta1, .ref ta2, .ref ta3, .ref ta4, .ref ta5, .ref ta6, .ref ta7, .ref ta8, .int mm])), (ta0, .inl (cyA G 0, 32768, .inl (tf0)))] := hD
        refine W.widen (k := 0) (n := 0) (Nat.le_of_ble_eq_true rfl) (Nat.le_of_ble_eq_true rfl) ?_
        refine lv_iconst (v := 1) hx hb dX4_graphOf_52 (by decide) ?_
        refine lv_icmp_ne (tgt := 79) hx hb dX4_graphOf_53 (by decide) (fun c_7 => ?_) (fun c_7 => ?_)
        · rw [if_neg c_7] at hm
          refine lv_aload_n hx hb dX4_graphOf_79 rfl (lv_at hl 1 rfl) ?_
          refine va_get (D := DG G) (ci := 4) (v := .ref t1) (C := RX4) (T := TX4) (N := 6) hx hb hts inW_X4 hown hK hP 0 rfl rfl 0 (by decide) (hts _ wm220) (fun _ h9 => h9) rfl dX4_graphOf_80 ?_
          refine lv_iload hx hb dX4_graphOf_83 (lv_at hl 5 rfl) ?_
          obtain ⟨q_8, hq_8, hm⟩ := bind_some hm
          have hFc := va_free (wc := [(t1, .inr (8, [.ref ta0, .ref ta1, .ref ta2, .ref ta3, .ref ta4, .ref ta5, .ref ta6, .ref ta7, .ref ta8, .int mm])), (ta1, .inl (cyA G 0, 32768, .inl (tf1)))]) hD hS hA [5, 3] rfl
          refine va_calli (va_runV (As := [.int v5]) (rest := []) ⟨hx, hb, hml, hown, hts⟩ (k_X9_firstOf l hfl G t1 v5 ta0 ta1 ta2 ta3 ta4 ta5 ta6 ta7 ta8 mm tf1 q_8 hq_8 H.size) (cwV 1 hts (gV wm1119 wm431 wm432 wm2 wm433) rfl rfl rfl (by decide +kernel) ⟨Nat.le_of_ble_eq_true rfl, Nat.le_of_ble_eq_true rfl⟩) (pre_v (pre_s hK hP hD hS hE [5, 3] rfl rfl (by decide) hFc) (va_recv hK hP (ci := 8) (q0 := 5) rfl rfl)) rfl rfl hl.1 rfl (lv_room (Nat.le_of_ble_eq_true rfl)) dX4_graphOf_85 ⟨Nat.le_of_ble_eq_true rfl, Nat.le_of_ble_eq_true rfl⟩) hS (fun q _ h => hFc q h) hFc (fun r u t H locs ht hvm hw hB hz1 hk1 hS => ?_)
          rw [show r = q_8 from hw]
          obtain ⟨hP1, hD1⟩ := hB
          rw [ht] at hP1
          obtain ⟨hP, hD⟩ := va_join (wr := [(h1, .inr (4, [.ref t1, .ref ga, .int gn, .int gr, .int gm, .int gt])), (o1, .inr (3, [.int on, .ref oc, .int ot, .ref op, .int os, .int og, .int ol, .int oh])), (op, .inl (cyA G 0, np, .inl (pp))), (ta2, .inl (cyA G 0, 32768, .inl (tf2))), (ta0, .inl (cyA G 0, 32768, .inl (tf0)))]) (w1 := [(t1, .inr (8, [.ref ta0, .ref ta1, .ref ta2, .ref ta3, .ref ta4, .ref ta5, .ref ta6, .ref ta7, .ref ta8, .int mm])), (ta1, .inl (cyA G 0, 32768, .inl (tf1)))]) hP hD [5, 3] [0, 1, 2, 4, 6] rfl rfl (by decide) (by decide) hk1 hFc hP1 hD1
          have hP : va_P (DG G) clP3 [(h1, .inr (4, [.ref t1, .ref ga, .int gn, .int gr, .int gm, .int gt])), (o1, .inr (3, [.int on, .ref oc, .int ot, .ref op, .int os, .int og, .int ol, .int oh])), (op, .inl (cyA G 0, np, .inl (pp))), (ta2, .inl (cyA G 0, 32768, .inl (tf2))), (ta0, .inl (cyA G 0, 32768, .inl (tf0))), (t1, .inr (8, [.ref ta0, .ref ta1, .ref ta2, .ref ta3, .ref ta4, .ref ta5, .ref ta6, .ref ta7, .ref ta8, .int mm])), (ta1, .inl (cyA G 0, 32768, .inl (tf1)))] H := hP
          have hD : va_D A [(h1, .inr (4, [.ref t1, .ref ga, .int gn, .int gr, .int gm, .int gt])), (o1, .inr (3, [.int on, .ref oc, .int ot, .ref op, .int os, .int og, .int ol, .int oh])), (op, .inl (cyA G 0, np, .inl (pp))), (ta2, .inl (cyA G 0, 32768, .inl (tf2))), (ta0, .inl (cyA G 0, 32768, .inl (tf0))), (t1, .inr (8, [.ref ta0, .ref ta1, .ref ta2, .ref ta3, .ref ta4, .ref ta5, .ref ta6, .ref ta7, .ref ta8, .int mm])), (ta1, .inl (cyA G 0, 32768, .inl (tf1)))] := hD
          refine W.widen (k := 0) (n := 0) (Nat.le_of_ble_eq_true rfl) (Nat.le_of_ble_eq_true rfl) ?_
          refine lv_istore (lv' := [(5, .int q_8), (7, .int q_3), (0, .ref h1), (1, .ref o1), (3, .int v3), (4, .int v4), (6, .int v6)]) hx hb dX4_graphOf_88 hl (by decide) rfl (fun ls hl => ?_)
          refine lv_iinc (v := (v6 + (-1))) (lv' := [(6, .int (v6 + (-1))), (5, .int q_8), (7, .int q_3), (0, .ref h1), (1, .ref o1), (3, .int v3), (4, .int v4)]) hx hb dX4_graphOf_90 hl (k := 6) rfl rfl (by decide) rfl (fun ls hl => ?_)
          refine lv_goto (tgt := 18) hx hb dX4_graphOf_93 (by decide) ?_
          have hP9 := hP.sub (ws' := [(h1, .inr (4, [.ref t1, .ref ga, .int gn, .int gr, .int gm, .int gt])), (o1, .inr (3, [.int on, .ref oc, .int ot, .ref op, .int os, .int og, .int ol, .int oh])), (op, .inl (cyA G 0, np, .inl (pp))), (t1, .inr (8, [.ref ta0, .ref ta1, .ref ta2, .ref ta3, .ref ta4, .ref ta5, .ref ta6, .ref ta7, .ref ta8, .int mm])), (ta0, .inl (cyA G 0, 32768, .inl (tf0))), (ta1, .inl (cyA G 0, 32768, .inl (tf1))), (ta2, .inl (cyA G 0, 32768, .inl (tf2)))]) [0, 1, 2, 5, 4, 6, 3] rfl
          have hD9 := hD.sub (ws' := [(h1, .inr (4, [.ref t1, .ref ga, .int gn, .int gr, .int gm, .int gt])), (o1, .inr (3, [.int on, .ref oc, .int ot, .ref op, .int os, .int og, .int ol, .int oh])), (op, .inl (cyA G 0, np, .inl (pp))), (t1, .inr (8, [.ref ta0, .ref ta1, .ref ta2, .ref ta3, .ref ta4, .ref ta5, .ref ta6, .ref ta7, .ref ta8, .int mm])), (ta0, .inl (cyA G 0, 32768, .inl (tf0))), (ta1, .inl (cyA G 0, 32768, .inl (tf1))), (ta2, .inl (cyA G 0, 32768, .inl (tf2)))]) [0, 1, 2, 5, 4, 6, 3] (by decide) rfl
          refine W.widen (k := 0) (n := 0) (Nat.le_of_ble_eq_true rfl) (Nat.le_of_ble_eq_true rfl) ?_
          exact ih gr pp mm tf0 tf1 tf2 v3 v4 q_8 (v6 + (-1)) _ _ hP9 hD9 hS _ (lv_sub hl [3, 4, 5, 6, 1, 0] rfl) hm
        · rw [if_pos c_7] at hm
          refine lv_iload hx hb dX4_graphOf_56 (lv_at hl 4 rfl) ?_
          refine lv_aload_n hx hb dX4_graphOf_58 rfl (lv_at hl 1 rfl) ?_
          refine lv_aload_n hx hb dX4_graphOf_59 rfl (lv_at hl 2 rfl) ?_
          refine lv_aload_n hx hb dX4_graphOf_60 rfl (lv_at hl 1 rfl) ?_
          refine va_get (D := DG G) (ci := 4) (v := .ref t1) (C := RX4) (T := TX4) (N := 6) hx hb hts inW_X4 hown hK hP 0 rfl rfl 0 (by decide) (hts _ wm220) (fun _ h9 => h9) rfl dX4_graphOf_61 ?_
          refine lv_iload hx hb dX4_graphOf_64 (lv_at hl 0 rfl) ?_
          obtain ⟨q_9, hq_9, hm⟩ := bind_some hm
          have hFc := va_free (wc := [(t1, .inr (8, [.ref ta0, .ref ta1, .ref ta2, .ref ta3, .ref ta4, .ref ta5, .ref ta6, .ref ta7, .ref ta8, .int mm])), (ta1, .inl (cyA G 0, 32768, .inl (tf1)))]) hD hS hA [5, 3] rfl
          refine va_calli (va_runV (As := [.int q_3]) (rest := [.ref o1, .ref h1, .int v4]) ⟨hx, hb, hml, hown, hts⟩ (k_X9_firstOf l hfl G t1 q_3 ta0 ta1 ta2 ta3 ta4 ta5 ta6 ta7 ta8 mm tf1 q_9 hq_9 H.size) (cwV 1 hts (gV wm1119 wm431 wm432 wm2 wm433) rfl rfl rfl (by decide +kernel) ⟨Nat.le_of_ble_eq_true rfl, Nat.le_of_ble_eq_true rfl⟩) (pre_v (pre_s hK hP hD hS hE [5, 3] rfl rfl (by decide) hFc) (va_recv hK hP (ci := 8) (q0 := 5) rfl rfl)) rfl rfl hl.1 rfl (lv_room (Nat.le_of_ble_eq_true rfl)) dX4_graphOf_66 ⟨Nat.le_of_ble_eq_true rfl, Nat.le_of_ble_eq_true rfl⟩) hS (fun q _ h => hFc q h) hFc (fun r u t H locs ht hvm hw hB hz1 hk1 hS => ?_)
          rw [show r = q_9 from hw]
          obtain ⟨hP1, hD1⟩ := hB
          rw [ht] at hP1
          obtain ⟨hP, hD⟩ := va_join (wr := [(h1, .inr (4, [.ref t1, .ref ga, .int gn, .int gr, .int gm, .int gt])), (o1, .inr (3, [.int on, .ref oc, .int ot, .ref op, .int os, .int og, .int ol, .int oh])), (op, .inl (cyA G 0, np, .inl (pp))), (ta2, .inl (cyA G 0, 32768, .inl (tf2))), (ta0, .inl (cyA G 0, 32768, .inl (tf0)))]) (w1 := [(t1, .inr (8, [.ref ta0, .ref ta1, .ref ta2, .ref ta3, .ref ta4, .ref ta5, .ref ta6, .ref ta7, .ref ta8, .int mm])), (ta1, .inl (cyA G 0, 32768, .inl (tf1)))]) hP hD [5, 3] [0, 1, 2, 4, 6] rfl rfl (by decide) (by decide) hk1 hFc hP1 hD1
          have hP : va_P (DG G) clP3 [(h1, .inr (4, [.ref t1, .ref ga, .int gn, .int gr, .int gm, .int gt])), (o1, .inr (3, [.int on, .ref oc, .int ot, .ref op, .int os, .int og, .int ol, .int oh])), (op, .inl (cyA G 0, np, .inl (pp))), (ta2, .inl (cyA G 0, 32768, .inl (tf2))), (ta0, .inl (cyA G 0, 32768, .inl (tf0))), (t1, .inr (8, [.ref ta0, .ref ta1, .ref ta2, .ref ta3, .ref ta4, .ref ta5, .ref ta6, .ref ta7, .ref ta8, .int mm])), (ta1, .inl (cyA G 0, 32768, .inl (tf1)))] H := hP
          have hD : va_D A [(h1, .inr (4, [.ref t1, .ref ga, .int gn, .int gr, .int gm, .int gt])), (o1, .inr (3, [.int on, .ref oc, .int ot, .ref op, .int os, .int og, .int ol, .int oh])), (op, .inl (cyA G 0, np, .inl (pp))), (ta2, .inl (cyA G 0, 32768, .inl (tf2))), (ta0, .inl (cyA G 0, 32768, .inl (tf0))), (t1, .inr (8, [.ref ta0, .ref ta1, .ref ta2, .ref ta3, .ref ta4, .ref ta5, .ref ta6, .ref ta7, .ref ta8, .int mm])), (ta1, .inl (cyA G 0, 32768, .inl (tf1)))] := hD
          refine W.widen (k := 0) (n := 0) (Nat.le_of_ble_eq_true rfl) (Nat.le_of_ble_eq_true rfl) ?_
          refine lv_iload_n hx hb dX4_graphOf_69 rfl (lv_at hl 3 rfl) ?_
          refine lv_isub hx hb dX4_graphOf_70 ?_
          refine lv_iload hx hb dX4_graphOf_71 (lv_at hl 6 rfl) ?_
          obtain ⟨q_10, hq_10, hm⟩ := bind_some hm
          have hFc := va_free (wc := [(h1, .inr (4, [.ref t1, .ref ga, .int gn, .int gr, .int gm, .int gt])), (o1, .inr (3, [.int on, .ref oc, .int ot, .ref op, .int os, .int og, .int ol, .int oh])), (op, .inl (cyA G 0, np, .inl (pp))), (t1, .inr (8, [.ref ta0, .ref ta1, .ref ta2, .ref ta3, .ref ta4, .ref ta5, .ref ta6, .ref ta7, .ref ta8, .int mm])), (ta0, .inl (cyA G 0, 32768, .inl (tf0))), (ta1, .inl (cyA G 0, 32768, .inl (tf1))), (ta2, .inl (cyA G 0, 32768, .inl (tf2)))]) hD hS hA [0, 1, 2, 5, 4, 6, 3] rfl
          refine va_calli (va_runV (As := [.ref o1, .int (q_9 - v3), .int v6]) (rest := [.int v4]) ⟨hx, hb, hml, hown, hts⟩ (k_X4_signsOf l hfl G np h1 o1 (q_9 - v3) v6 t1 ga gn gr gm gt on oc ot op os og ol oh pp ta0 ta1 ta2 ta3 ta4 ta5 ta6 ta7 ta8 mm tf0 tf1 tf2 q_10 hq_10 H.size) (cwV 3 hts (gV wm1125 wm1127 ws_p17 wm9 wm1128) rfl rfl rfl (by decide +kernel) ⟨Nat.le_of_ble_eq_true rfl, Nat.le_of_ble_eq_true rfl⟩) (pre_v (pre_s hK hP hD hS hE [0, 1, 2, 5, 4, 6, 3] rfl rfl (by decide) hFc) (va_recv hK hP (ci := 4) (q0 := 0) rfl rfl)) rfl rfl hl.1 rfl (lv_room (Nat.le_of_ble_eq_true rfl)) dX4_graphOf_73 ⟨Nat.le_of_ble_eq_true rfl, Nat.le_of_ble_eq_true rfl⟩) hS (fun q _ h => hFc q h) hFc (fun r u t H locs ht hvm hw hB hz1 hk1 hS => ?_)
          rw [show r = q_10 from hw]
          obtain ⟨hP1, hD1⟩ := hB
          rw [ht] at hP1
          obtain ⟨hP, hD⟩ := va_join (wr := []) (w1 := [(h1, .inr (4, [.ref t1, .ref ga, .int gn, .int gr, .int gm, .int gt])), (o1, .inr (3, [.int on, .ref oc, .int ot, .ref op, .int os, .int og, .int ol, .int oh])), (op, .inl (cyA G 0, np, .inl (pp))), (t1, .inr (8, [.ref ta0, .ref ta1, .ref ta2, .ref ta3, .ref ta4, .ref ta5, .ref ta6, .ref ta7, .ref ta8, .int mm])), (ta0, .inl (cyA G 0, 32768, .inl (tf0))), (ta1, .inl (cyA G 0, 32768, .inl (tf1))), (ta2, .inl (cyA G 0, 32768, .inl (tf2)))]) hP hD [0, 1, 2, 5, 4, 6, 3] [] rfl rfl (by decide) (by decide) hk1 hFc hP1 hD1
          have hP : va_P (DG G) clP3 [(h1, .inr (4, [.ref t1, .ref ga, .int gn, .int gr, .int gm, .int gt])), (o1, .inr (3, [.int on, .ref oc, .int ot, .ref op, .int os, .int og, .int ol, .int oh])), (op, .inl (cyA G 0, np, .inl (pp))), (t1, .inr (8, [.ref ta0, .ref ta1, .ref ta2, .ref ta3, .ref ta4, .ref ta5, .ref ta6, .ref ta7, .ref ta8, .int mm])), (ta0, .inl (cyA G 0, 32768, .inl (tf0))), (ta1, .inl (cyA G 0, 32768, .inl (tf1))), (ta2, .inl (cyA G 0, 32768, .inl (tf2)))] H := hP
          have hD : va_D A [(h1, .inr (4, [.ref t1, .ref ga, .int gn, .int gr, .int gm, .int gt])), (o1, .inr (3, [.int on, .ref oc, .int ot, .ref op, .int os, .int og, .int ol, .int oh])), (op, .inl (cyA G 0, np, .inl (pp))), (t1, .inr (8, [.ref ta0, .ref ta1, .ref ta2, .ref ta3, .ref ta4, .ref ta5, .ref ta6, .ref ta7, .ref ta8, .int mm])), (ta0, .inl (cyA G 0, 32768, .inl (tf0))), (ta1, .inl (cyA G 0, 32768, .inl (tf1))), (ta2, .inl (cyA G 0, 32768, .inl (tf2)))] := hD
          refine W.widen (k := 0) (n := 0) (Nat.le_of_ble_eq_true rfl) (Nat.le_of_ble_eq_true rfl) ?_
          refine lv_ior hx hb dX4_graphOf_76 ?_
          refine lv_istore (lv' := [(4, .int (v4 ||| q_10)), (7, .int q_3), (0, .ref h1), (1, .ref o1), (3, .int v3), (5, .int v5), (6, .int v6)]) hx hb dX4_graphOf_77 hl (by decide) rfl (fun ls hl => ?_)
          refine lv_aload_n hx hb dX4_graphOf_79 rfl (lv_at hl 2 rfl) ?_
          refine va_get (D := DG G) (ci := 4) (v := .ref t1) (C := RX4) (T := TX4) (N := 6) hx hb hts inW_X4 hown hK hP 0 rfl rfl 0 (by decide) (hts _ wm220) (fun _ h9 => h9) rfl dX4_graphOf_80 ?_
          refine lv_iload hx hb dX4_graphOf_83 (lv_at hl 5 rfl) ?_
          obtain ⟨q_11, hq_11, hm⟩ := bind_some hm
          have hFc := va_free (wc := [(t1, .inr (8, [.ref ta0, .ref ta1, .ref ta2, .ref ta3, .ref ta4, .ref ta5, .ref ta6, .ref ta7, .ref ta8, .int mm])), (ta1, .inl (cyA G 0, 32768, .inl (tf1)))]) hD hS hA [3, 5] rfl
          refine va_calli (va_runV (As := [.int v5]) (rest := []) ⟨hx, hb, hml, hown, hts⟩ (k_X9_firstOf l hfl G t1 v5 ta0 ta1 ta2 ta3 ta4 ta5 ta6 ta7 ta8 mm tf1 q_11 hq_11 H.size) (cwV 1 hts (gV wm1119 wm431 wm432 wm2 wm433) rfl rfl rfl (by decide +kernel) ⟨Nat.le_of_ble_eq_true rfl, Nat.le_of_ble_eq_true rfl⟩) (pre_v (pre_s hK hP hD hS hE [3, 5] rfl rfl (by decide) hFc) (va_recv hK hP (ci := 8) (q0 := 3) rfl rfl)) rfl rfl hl.1 rfl (lv_room (Nat.le_of_ble_eq_true rfl)) dX4_graphOf_85 ⟨Nat.le_of_ble_eq_true rfl, Nat.le_of_ble_eq_true rfl⟩) hS (fun q _ h => hFc q h) hFc (fun r u t H locs ht hvm hw hB hz1 hk1 hS => ?_)
          rw [show r = q_11 from hw]
          obtain ⟨hP1, hD1⟩ := hB
          rw [ht] at hP1
          obtain ⟨hP, hD⟩ := va_join (wr := [(h1, .inr (4, [.ref t1, .ref ga, .int gn, .int gr, .int gm, .int gt])), (o1, .inr (3, [.int on, .ref oc, .int ot, .ref op, .int os, .int og, .int ol, .int oh])), (op, .inl (cyA G 0, np, .inl (pp))), (ta0, .inl (cyA G 0, 32768, .inl (tf0))), (ta2, .inl (cyA G 0, 32768, .inl (tf2)))]) (w1 := [(t1, .inr (8, [.ref ta0, .ref ta1, .ref ta2, .ref ta3, .ref ta4, .ref ta5, .ref ta6, .ref ta7, .ref ta8, .int mm])), (ta1, .inl (cyA G 0, 32768, .inl (tf1)))]) hP hD [3, 5] [0, 1, 2, 4, 6] rfl rfl (by decide) (by decide) hk1 hFc hP1 hD1
          have hP : va_P (DG G) clP3 [(h1, .inr (4, [.ref t1, .ref ga, .int gn, .int gr, .int gm, .int gt])), (o1, .inr (3, [.int on, .ref oc, .int ot, .ref op, .int os, .int og, .int ol, .int oh])), (op, .inl (cyA G 0, np, .inl (pp))), (ta0, .inl (cyA G 0, 32768, .inl (tf0))), (ta2, .inl (cyA G 0, 32768, .inl (tf2))), (t1, .inr (8, [.ref ta0, .ref ta1, .ref ta2, .ref ta3, .ref ta4, .ref ta5, .ref ta6, .ref ta7, .ref ta8, .int mm])), (ta1, .inl (cyA G 0, 32768, .inl (tf1)))] H := hP
          have hD : va_D A [(h1, .inr (4, [.ref t1, .ref ga, .int gn, .int gr, .int gm, .int gt])), (o1, .inr (3, [.int on, .ref oc, .int ot, .ref op, .int os, .int og, .int ol, .int oh])), (op, .inl (cyA G 0, np, .inl (pp))), (ta0, .inl (cyA G 0, 32768, .inl (tf0))), (ta2, .inl (cyA G 0, 32768, .inl (tf2))), (t1, .inr (8, [.ref ta0, .ref ta1, .ref ta2, .ref ta3, .ref ta4, .ref ta5, .ref ta6, .ref ta7, .ref ta8, .int mm])), (ta1, .inl (cyA G 0, 32768, .inl (tf1)))] := hD
          refine W.widen (k := 0) (n := 0) (Nat.le_of_ble_eq_true rfl) (Nat.le_of_ble_eq_true rfl) ?_
          refine lv_istore (lv' := [(5, .int q_11), (4, .int (v4 ||| q_10)), (7, .int q_3), (0, .ref h1), (1, .ref o1), (3, .int v3), (6, .int v6)]) hx hb dX4_graphOf_88 hl (by decide) rfl (fun ls hl => ?_)
          refine lv_iinc (v := (v6 + (-1))) (lv' := [(6, .int (v6 + (-1))), (5, .int q_11), (4, .int (v4 ||| q_10)), (7, .int q_3), (0, .ref h1), (1, .ref o1), (3, .int v3)]) hx hb dX4_graphOf_90 hl (k := 6) rfl rfl (by decide) rfl (fun ls hl => ?_)
          refine lv_goto (tgt := 18) hx hb dX4_graphOf_93 (by decide) ?_
          have hP9 := hP.sub (ws' := [(h1, .inr (4, [.ref t1, .ref ga, .int gn, .int gr, .int gm, .int gt])), (o1, .inr (3, [.int on, .ref oc, .int ot, .ref op, .int os, .int og, .int ol, .int oh])), (op, .inl (cyA G 0, np, .inl (pp))), (t1, .inr (8, [.ref ta0, .ref ta1, .ref ta2, .ref ta3, .ref ta4, .ref ta5, .ref ta6, .ref ta7, .ref ta8, .int mm])), (ta0, .inl (cyA G 0, 32768, .inl (tf0))), (ta1, .inl (cyA G 0, 32768, .inl (tf1))), (ta2, .inl (cyA G 0, 32768, .inl (tf2)))]) [0, 1, 2, 5, 3, 6, 4] rfl
          have hD9 := hD.sub (ws' := [(h1, .inr (4, [.ref t1, .ref ga, .int gn, .int gr, .int gm, .int gt])), (o1, .inr (3, [.int on, .ref oc, .int ot, .ref op, .int os, .int og, .int ol, .int oh])), (op, .inl (cyA G 0, np, .inl (pp))), (t1, .inr (8, [.ref ta0, .ref ta1, .ref ta2, .ref ta3, .ref ta4, .ref ta5, .ref ta6, .ref ta7, .ref ta8, .int mm])), (ta0, .inl (cyA G 0, 32768, .inl (tf0))), (ta1, .inl (cyA G 0, 32768, .inl (tf1))), (ta2, .inl (cyA G 0, 32768, .inl (tf2)))]) [0, 1, 2, 5, 3, 6, 4] (by decide) rfl
          refine W.widen (k := 0) (n := 0) (Nat.le_of_ble_eq_true rfl) (Nat.le_of_ble_eq_true rfl) ?_
          exact ih gr pp mm tf0 tf1 tf2 v3 (v4 ||| q_10) q_11 (v6 + (-1)) _ _ hP9 hD9 hS _ (lv_sub hl [4, 5, 6, 2, 1, 0] rfl) hm
set_option maxHeartbeats 4000000 in
set_option maxRecDepth 100000 in
theorem k_X4_graphOf (l : Launch) (hfl : l.stackTraces = false) (G : GC) (np : Nat) (h1 : Nat) (o1 : Nat) (p1 : Int32) (p2 : Int32) (t1 : Nat) (ga : Nat) (gn : Int32) (gr : Int32) (gm : Int32) (gt : Int32) (on : Int32) (oc : Nat) (ot : Int32) (op : Nat) (os : Int32) (og : Int32) (ol : Int32) (oh : Int32) (pp : Nat → Int32) (ta0 : Nat) (ta1 : Nat) (ta2 : Nat) (ta3 : Nat) (ta4 : Nat) (ta5 : Nat) (ta6 : Nat) (ta7 : Nat) (ta8 : Nat) (mm : Int32) (tf0 : Nat → Int32) (tf1 : Nat → Int32) (tf2 : Nat → Int32) (r9 : Int32) (hm : f_X4_graphOf np gr pp mm tf0 tf1 tf2 p1 p2 = some r9) (sz : Nat) : Met l yX4_graphOf (Cond.code yX4_graphOf cX4_graphOf 8 (some .int) :: W0) ({ frames := 203, cells := 0, slots := 0, locals := 4670 }) (va_Pc [.ref h1, .ref o1, .int p1, .int p2] (WD G [(h1, .inr (4, [.ref t1, .ref ga, .int gn, .int gr, .int gm, .int gt])), (o1, .inr (3, [.int on, .ref oc, .int ot, .ref op, .int os, .int og, .int ol, .int oh])), (op, .inl (cyA G 0, np, .inl (pp))), (t1, .inr (8, [.ref ta0, .ref ta1, .ref ta2, .ref ta3, .ref ta4, .ref ta5, .ref ta6, .ref ta7, .ref ta8, .int mm])), (ta0, .inl (cyA G 0, 32768, .inl (tf0))), (ta1, .inl (cyA G 0, 32768, .inl (tf1))), (ta2, .inl (cyA G 0, 32768, .inl (tf2)))] sz)) (va_Qi (fun (r : Int32) (_ : Unit) => r = r9) (fun _ t => PW G (va_A [(h1, .inr (4, [.ref t1, .ref ga, .int gn, .int gr, .int gm, .int gt])), (o1, .inr (3, [.int on, .ref oc, .int ot, .ref op, .int os, .int og, .int ol, .int oh])), (op, .inl (cyA G 0, np, .inl (pp))), (t1, .inr (8, [.ref ta0, .ref ta1, .ref ta2, .ref ta3, .ref ta4, .ref ta5, .ref ta6, .ref ta7, .ref ta8, .int mm])), (ta0, .inl (cyA G 0, 32768, .inl (tf0))), (ta1, .inl (cyA G 0, 32768, .inl (tf1))), (ta2, .inl (cyA G 0, 32768, .inl (tf2)))] sz) [(h1, .inr (4, [.ref t1, .ref ga, .int gn, .int gr, .int gm, .int gt])), (o1, .inr (3, [.int on, .ref oc, .int ot, .ref op, .int os, .int og, .int ol, .int oh])), (op, .inl (cyA G 0, np, .inl (pp))), (t1, .inr (8, [.ref ta0, .ref ta1, .ref ta2, .ref ta3, .ref ta4, .ref ta5, .ref ta6, .ref ta7, .ref ta8, .int mm])), (ta0, .inl (cyA G 0, 32768, .inl (tf0))), (ta1, .inl (cyA G 0, 32768, .inl (tf1))), (ta2, .inl (cyA G 0, 32768, .inl (tf2)))] t) (va_A [(h1, .inr (4, [.ref t1, .ref ga, .int gn, .int gr, .int gm, .int gt])), (o1, .inr (3, [.int on, .ref oc, .int ot, .ref op, .int os, .int og, .int ol, .int oh])), (op, .inl (cyA G 0, np, .inl (pp))), (t1, .inr (8, [.ref ta0, .ref ta1, .ref ta2, .ref ta3, .ref ta4, .ref ta5, .ref ta6, .ref ta7, .ref ta8, .int mm])), (ta0, .inl (cyA G 0, 32768, .inl (tf0))), (ta1, .inl (cyA G 0, 32768, .inl (tf1))), (ta2, .inl (cyA G 0, 32768, .inl (tf2)))] sz)) 0 0 (va_A [(h1, .inr (4, [.ref t1, .ref ga, .int gn, .int gr, .int gm, .int gt])), (o1, .inr (3, [.int on, .ref oc, .int ot, .ref op, .int os, .int og, .int ol, .int oh])), (op, .inl (cyA G 0, np, .inl (pp))), (t1, .inr (8, [.ref ta0, .ref ta1, .ref ta2, .ref ta3, .ref ta4, .ref ta5, .ref ta6, .ref ta7, .ref ta8, .int mm])), (ta0, .inl (cyA G 0, 32768, .inl (tf0))), (ta1, .inl (cyA G 0, 32768, .inl (tf1))), (ta2, .inl (cyA G 0, 32768, .inl (tf2)))] sz) := by
  rw [f_X4_graphOf] at hm
  refine Met.ofW (cc := cX4_graphOf) (maxL := 8) (ret := (some .int)) (by decide) rfl ?_
  intro p e s m args below meth c s₁ B hml hv
  obtain ⟨rfl, hsz, hP, hK, hD0, hE⟩ := hv
  have hx := B.exec
  have hb := B.bytes
  have hr := B.returns
  have hts := w0_tail B.pre
  have hown : s.vm.findClass RX4 = some m.cls := findClass_of_methodNamed B.named
  have hlocks := B.notSynchronized
  subst hsz
  have hD := hD0.self (sz := s.heap.size)
  generalize hAe : va_A [(h1, .inr (4, [.ref t1, .ref ga, .int gn, .int gr, .int gm, .int gt])), (o1, .inr (3, [.int on, .ref oc, .int ot, .ref op, .int os, .int og, .int ol, .int oh])), (op, .inl (cyA G 0, np, .inl (pp))), (t1, .inr (8, [.ref ta0, .ref ta1, .ref ta2, .ref ta3, .ref ta4, .ref ta5, .ref ta6, .ref ta7, .ref ta8, .int mm])), (ta0, .inl (cyA G 0, 32768, .inl (tf0))), (ta1, .inl (cyA G 0, 32768, .inl (tf1))), (ta2, .inl (cyA G 0, 32768, .inl (tf2)))] s.heap.size = A at hD hE ⊢
  have hA : ∀ q : Nat, s.heap.size ≤ q → A q := fun q h => by rw [← hAe]; exact Or.inr h
  have hS : va_S A s.heap s.heap [] := va_S.rf
  obtain ⟨H, hHe⟩ : ∃ H : Heap, H = s.heap := ⟨_, rfl⟩
  have hP : va_P (DG G) clP3 [(h1, .inr (4, [.ref t1, .ref ga, .int gn, .int gr, .int gm, .int gt])), (o1, .inr (3, [.int on, .ref oc, .int ot, .ref op, .int os, .int og, .int ol, .int oh])), (op, .inl (cyA G 0, np, .inl (pp))), (t1, .inr (8, [.ref ta0, .ref ta1, .ref ta2, .ref ta3, .ref ta4, .ref ta5, .ref ta6, .ref ta7, .ref ta8, .int mm])), (ta0, .inl (cyA G 0, 32768, .inl (tf0))), (ta1, .inl (cyA G 0, 32768, .inl (tf1))), (ta2, .inl (cyA G 0, 32768, .inl (tf2)))] H := by rw [hHe]; exact hP
  have hS : va_S A s.heap H [] := by rw [hHe]; exact hS
  have hl := lv_entry ([.ref h1, .ref o1, .int p1, .int p2]) (n := 8) (Nat.le_of_ble_eq_true rfl)
  rw [lg_entry_eq, ← hHe]
  generalize (lg_sl ([.ref h1, .ref o1, .int p1, .int p2]) ++ List.replicate (8 - (lg_sl ([.ref h1, .ref o1, .int p1, .int p2])).length) Slot.unset).toArray = ls at hl ⊢
  have hl : lv_has ls 8 [(0, .ref h1), (1, .ref o1), (2, .int p1), (3, .int p2)] := hl
  refine lv_iconst (v := 0) hx hb dX4_graphOf_0 (by decide) ?_
  refine lv_istore (lv' := [(4, .int 0), (0, .ref h1), (1, .ref o1), (2, .int p1), (3, .int p2)]) hx hb dX4_graphOf_1 hl (by decide) rfl (fun ls hl => ?_)
  refine lv_iload_n hx hb dX4_graphOf_3 rfl (lv_at hl 3 rfl) ?_
  refine lv_istore (lv' := [(5, .int p1), (4, .int 0), (0, .ref h1), (1, .ref o1), (2, .int p1), (3, .int p2)]) hx hb dX4_graphOf_4 hl (by decide) rfl (fun ls hl => ?_)
  refine lv_aload_n hx hb dX4_graphOf_6 rfl (lv_at hl 2 rfl) ?_
  refine va_get (D := DG G) (ci := 4) (v := .ref t1) (C := RX4) (T := TX4) (N := 6) hx hb hts inW_X4 hown hK hP 0 rfl rfl 0 (by decide) (hts _ wm220) (fun _ h9 => h9) rfl dX4_graphOf_7 ?_
  refine lv_iload_n hx hb dX4_graphOf_10 rfl (lv_at hl 4 rfl) ?_
  obtain ⟨q_1, hq_1, hm⟩ := bind_some hm
  have hFc := va_free (wc := [(t1, .inr (8, [.ref ta0, .ref ta1, .ref ta2, .ref ta3, .ref ta4, .ref ta5, .ref ta6, .ref ta7, .ref ta8, .int mm])), (ta0, .inl (cyA G 0, 32768, .inl (tf0))), (ta1, .inl (cyA G 0, 32768, .inl (tf1)))]) hD hS hA [3, 4, 5] rfl
  refine va_calli (va_runV (As := [.int p1]) (rest := []) ⟨hx, hb, hml, hown, hts⟩ (k_X9_argumentsOf l hfl G t1 p1 ta0 ta1 ta2 ta3 ta4 ta5 ta6 ta7 ta8 mm tf0 tf1 q_1 hq_1 H.size) (cwV 1 hts (gV wm1114 wm1115 wm1116 wm2 wm1117) rfl rfl rfl (by decide +kernel) ⟨Nat.le_of_ble_eq_true rfl, Nat.le_of_ble_eq_true rfl⟩) (pre_v (pre_s hK hP hD hS hE [3, 4, 5] rfl rfl (by decide) hFc) (va_recv hK hP (ci := 8) (q0 := 3) rfl rfl)) rfl rfl hl.1 rfl (lv_room (Nat.le_of_ble_eq_true rfl)) dX4_graphOf_11 ⟨Nat.le_of_ble_eq_true rfl, Nat.le_of_ble_eq_true rfl⟩) hS (fun q _ h => hFc q h) hFc (fun r u t H locs ht hvm hw hB hz1 hk1 hS => ?_)
  rw [show r = q_1 from hw]
  obtain ⟨hP1, hD1⟩ := hB
  rw [ht] at hP1
  obtain ⟨hP, hD⟩ := va_join (wr := [(h1, .inr (4, [.ref t1, .ref ga, .int gn, .int gr, .int gm, .int gt])), (o1, .inr (3, [.int on, .ref oc, .int ot, .ref op, .int os, .int og, .int ol, .int oh])), (op, .inl (cyA G 0, np, .inl (pp))), (ta2, .inl (cyA G 0, 32768, .inl (tf2)))]) (w1 := [(t1, .inr (8, [.ref ta0, .ref ta1, .ref ta2, .ref ta3, .ref ta4, .ref ta5, .ref ta6, .ref ta7, .ref ta8, .int mm])), (ta0, .inl (cyA G 0, 32768, .inl (tf0))), (ta1, .inl (cyA G 0, 32768, .inl (tf1)))]) hP hD [3, 4, 5] [0, 1, 2, 6] rfl rfl (by decide) (by decide) hk1 hFc hP1 hD1
  have hP : va_P (DG G) clP3 [(h1, .inr (4, [.ref t1, .ref ga, .int gn, .int gr, .int gm, .int gt])), (o1, .inr (3, [.int on, .ref oc, .int ot, .ref op, .int os, .int og, .int ol, .int oh])), (op, .inl (cyA G 0, np, .inl (pp))), (ta2, .inl (cyA G 0, 32768, .inl (tf2))), (t1, .inr (8, [.ref ta0, .ref ta1, .ref ta2, .ref ta3, .ref ta4, .ref ta5, .ref ta6, .ref ta7, .ref ta8, .int mm])), (ta0, .inl (cyA G 0, 32768, .inl (tf0))), (ta1, .inl (cyA G 0, 32768, .inl (tf1)))] H := hP
  have hD : va_D A [(h1, .inr (4, [.ref t1, .ref ga, .int gn, .int gr, .int gm, .int gt])), (o1, .inr (3, [.int on, .ref oc, .int ot, .ref op, .int os, .int og, .int ol, .int oh])), (op, .inl (cyA G 0, np, .inl (pp))), (ta2, .inl (cyA G 0, 32768, .inl (tf2))), (t1, .inr (8, [.ref ta0, .ref ta1, .ref ta2, .ref ta3, .ref ta4, .ref ta5, .ref ta6, .ref ta7, .ref ta8, .int mm])), (ta0, .inl (cyA G 0, 32768, .inl (tf0))), (ta1, .inl (cyA G 0, 32768, .inl (tf1)))] := hD
  refine W.widen (k := 0) (n := 0) (Nat.le_of_ble_eq_true rfl) (Nat.le_of_ble_eq_true rfl) ?_
  refine lv_iconst (v := 1) hx hb dX4_graphOf_14 (by decide) ?_
  refine lv_isub hx hb dX4_graphOf_15 ?_
  refine lv_istore (lv' := [(6, .int (q_1 - 1)), (5, .int p1), (4, .int 0), (0, .ref h1), (1, .ref o1), (2, .int p1), (3, .int p2)]) hx hb dX4_graphOf_16 hl (by decide) rfl (fun ls hl => ?_)
  have hP9 := hP.sub (ws' := [(h1, .inr (4, [.ref t1, .ref ga, .int gn, .int gr, .int gm, .int gt])), (o1, .inr (3, [.int on, .ref oc, .int ot, .ref op, .int os, .int og, .int ol, .int oh])), (op, .inl (cyA G 0, np, .inl (pp))), (t1, .inr (8, [.ref ta0, .ref ta1, .ref ta2, .ref ta3, .ref ta4, .ref ta5, .ref ta6, .ref ta7, .ref ta8, .int mm])), (ta0, .inl (cyA G 0, 32768, .inl (tf0))), (ta1, .inl (cyA G 0, 32768, .inl (tf1))), (ta2, .inl (cyA G 0, 32768, .inl (tf2)))]) [0, 1, 2, 4, 5, 6, 3] rfl
  have hD9 := hD.sub (ws' := [(h1, .inr (4, [.ref t1, .ref ga, .int gn, .int gr, .int gm, .int gt])), (o1, .inr (3, [.int on, .ref oc, .int ot, .ref op, .int os, .int og, .int ol, .int oh])), (op, .inl (cyA G 0, np, .inl (pp))), (t1, .inr (8, [.ref ta0, .ref ta1, .ref ta2, .ref ta3, .ref ta4, .ref ta5, .ref ta6, .ref ta7, .ref ta8, .int mm])), (ta0, .inl (cyA G 0, 32768, .inl (tf0))), (ta1, .inl (cyA G 0, 32768, .inl (tf1))), (ta2, .inl (cyA G 0, 32768, .inl (tf2)))]) [0, 1, 2, 4, 5, 6, 3] (by decide) rfl
  refine W.widen (k := 0) (n := 0) (Nat.le_of_ble_eq_true rfl) (Nat.le_of_ble_eq_true rfl) ?_
  exact kl_X4_graphOf_18 hfl hx hb hr hml hown hts hlocks hA hE hK r9 100000 gr pp mm tf0 tf1 tf2 p2 0 p1 (q_1 - 1) _ _ hP9 hD9 hS _ (lv_sub hl [3, 4, 6, 2, 1, 0] rfl) hm
