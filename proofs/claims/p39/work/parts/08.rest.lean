def f_X7_hasData  (dc : Int32) (p1 : Int32) : Option (Int32) := (if p1 < 0 then some 0 else (if dc ≤ p1 then some 0 else some 1))
set_option maxHeartbeats 4000000 in
set_option maxRecDepth 100000 in
theorem k_X7_hasData (l : Launch) (hfl : l.stackTraces = false) (G : GC) (s1 : Nat) (p1 : Int32) (t1 : Nat) (sr1 : Nat) (sr2 : Nat) (sr3 : Nat) (sr4 : Nat) (sr5 : Nat) (sr6 : Nat) (sr7 : Nat) (dc : Int32) (cc : Int32) (r9 : Int32) (hm : f_X7_hasData dc p1 = some r9) (sz : Nat) : Met l yX7_hasData (Cond.code yX7_hasData cX7_hasData 2 (some .boolean) :: W0) ({ frames := 0, cells := 0, slots := 0, locals := 0 }) (va_Pc [.ref s1, .int p1] (WD G [(s1, .inr (6, [.ref t1, .ref sr1, .ref sr2, .ref sr3, .ref sr4, .ref sr5, .ref sr6, .ref sr7, .int dc, .int cc]))] sz)) (va_Qi (fun (r : Int32) (_ : Unit) => r = r9) (fun _ t => PW G (va_A [(s1, .inr (6, [.ref t1, .ref sr1, .ref sr2, .ref sr3, .ref sr4, .ref sr5, .ref sr6, .ref sr7, .int dc, .int cc]))] sz) [(s1, .inr (6, [.ref t1, .ref sr1, .ref sr2, .ref sr3, .ref sr4, .ref sr5, .ref sr6, .ref sr7, .int dc, .int cc]))] t) (va_A [(s1, .inr (6, [.ref t1, .ref sr1, .ref sr2, .ref sr3, .ref sr4, .ref sr5, .ref sr6, .ref sr7, .int dc, .int cc]))] sz)) 0 0 (va_A [(s1, .inr (6, [.ref t1, .ref sr1, .ref sr2, .ref sr3, .ref sr4, .ref sr5, .ref sr6, .ref sr7, .int dc, .int cc]))] sz) := by
  rw [f_X7_hasData] at hm
  refine Met.ofW (cc := cX7_hasData) (maxL := 2) (ret := (some .boolean)) (by decide) rfl ?_
  intro p e s m args below meth c s₁ B hml hv
  obtain ⟨rfl, hsz, hP, hK, hD0, hE⟩ := hv
  have hx := B.exec
  have hb := B.bytes
  have hr := B.returns
  have hts := w0_tail B.pre
  have hown : s.vm.findClass RX7 = some m.cls := findClass_of_methodNamed B.named
  have hlocks := B.notSynchronized
  subst hsz
  have hD := hD0.self (sz := s.heap.size)
  generalize hAe : va_A [(s1, .inr (6, [.ref t1, .ref sr1, .ref sr2, .ref sr3, .ref sr4, .ref sr5, .ref sr6, .ref sr7, .int dc, .int cc]))] s.heap.size = A at hD hE ⊢
  have hA : ∀ q : Nat, s.heap.size ≤ q → A q := fun q h => by rw [← hAe]; exact Or.inr h
  have hS : va_S A s.heap s.heap [] := va_S.rf
  obtain ⟨H, hHe⟩ : ∃ H : Heap, H = s.heap := ⟨_, rfl⟩
  have hP : va_P (DG G) clP3 [(s1, .inr (6, [.ref t1, .ref sr1, .ref sr2, .ref sr3, .ref sr4, .ref sr5, .ref sr6, .ref sr7, .int dc, .int cc]))] H := by rw [hHe]; exact hP
  have hS : va_S A s.heap H [] := by rw [hHe]; exact hS
  have hl := lv_entry ([.ref s1, .int p1]) (n := 2) (Nat.le_of_ble_eq_true rfl)
  rw [lg_entry_eq, ← hHe]
  generalize (lg_sl ([.ref s1, .int p1]) ++ List.replicate (2 - (lg_sl ([.ref s1, .int p1])).length) Slot.unset).toArray = ls at hl ⊢
  have hl : lv_has ls 2 [(0, .ref s1), (1, .int p1)] := hl
  refine lv_iload_n hx hb dX7_hasData_0 rfl (lv_at hl 1 rfl) ?_
  refine lv_if_lt (tgt := 16) hx hb dX7_hasData_1 (by decide) (fun c_1 => ?_) (fun c_1 => ?_)
  · rw [if_pos c_1] at hm
    refine lv_iconst (v := 0) hx hb dX7_hasData_16 (by decide) ?_
    obtain rfl := Option.some.inj hm
    have hP9 := hP.sub (ws' := [(s1, .inr (6, [.ref t1, .ref sr1, .ref sr2, .ref sr3, .ref sr4, .ref sr5, .ref sr6, .ref sr7, .int dc, .int cc]))]) [0] rfl
    have hD9 := hD.sub (ws' := [(s1, .inr (6, [.ref t1, .ref sr1, .ref sr2, .ref sr3, .ref sr4, .ref sr5, .ref sr6, .ref sr7, .int dc, .int cc]))]) [0] (by decide) rfl
    refine W.widen (k := 0) (n := 0) (Nat.le_of_ble_eq_true rfl) (Nat.le_of_ble_eq_true rfl) ?_
    exact W.zret (v := 0) (ty := .boolean) hx hb hr (by decide) (fun t ht hW => ⟨⟨0, (), rfl, rfl, ⟨by rw [ht]; exact hP9, hD9⟩⟩, hS.F ht⟩) hS.2.2 dX7_hasData_17 hlocks
  · rw [if_neg c_1] at hm
    refine lv_iload_n hx hb dX7_hasData_4 rfl (lv_at hl 1 rfl) ?_
    refine lv_aload_n hx hb dX7_hasData_5 rfl (lv_at hl 0 rfl) ?_
    refine va_get (D := DG G) (ci := 6) (v := .int dc) (C := RX7) (T := TX7) (N := 10) hx hb hts inW_X7 hown hK hP 0 rfl rfl 8 (by decide) (hts _ wm103) (fun _ h9 => h9) rfl dX7_hasData_6 ?_
    refine lv_icmp_ge (tgt := 16) hx hb dX7_hasData_9 (by decide) (fun c_2 => ?_) (fun c_2 => ?_)
    · rw [if_pos c_2] at hm
      refine lv_iconst (v := 0) hx hb dX7_hasData_16 (by decide) ?_
      obtain rfl := Option.some.inj hm
      have hP9 := hP.sub (ws' := [(s1, .inr (6, [.ref t1, .ref sr1, .ref sr2, .ref sr3, .ref sr4, .ref sr5, .ref sr6, .ref sr7, .int dc, .int cc]))]) [0] rfl
      have hD9 := hD.sub (ws' := [(s1, .inr (6, [.ref t1, .ref sr1, .ref sr2, .ref sr3, .ref sr4, .ref sr5, .ref sr6, .ref sr7, .int dc, .int cc]))]) [0] (by decide) rfl
      refine W.widen (k := 0) (n := 0) (Nat.le_of_ble_eq_true rfl) (Nat.le_of_ble_eq_true rfl) ?_
      exact W.zret (v := 0) (ty := .boolean) hx hb hr (by decide) (fun t ht hW => ⟨⟨0, (), rfl, rfl, ⟨by rw [ht]; exact hP9, hD9⟩⟩, hS.F ht⟩) hS.2.2 dX7_hasData_17 hlocks
    · rw [if_neg c_2] at hm
      refine lv_iconst (v := 1) hx hb dX7_hasData_12 (by decide) ?_
      refine lv_goto (tgt := 17) hx hb dX7_hasData_13 (by decide) ?_
      obtain rfl := Option.some.inj hm
      have hP9 := hP.sub (ws' := [(s1, .inr (6, [.ref t1, .ref sr1, .ref sr2, .ref sr3, .ref sr4, .ref sr5, .ref sr6, .ref sr7, .int dc, .int cc]))]) [0] rfl
      have hD9 := hD.sub (ws' := [(s1, .inr (6, [.ref t1, .ref sr1, .ref sr2, .ref sr3, .ref sr4, .ref sr5, .ref sr6, .ref sr7, .int dc, .int cc]))]) [0] (by decide) rfl
      refine W.widen (k := 0) (n := 0) (Nat.le_of_ble_eq_true rfl) (Nat.le_of_ble_eq_true rfl) ?_
      exact W.zret (v := 1) (ty := .boolean) hx hb hr (by decide) (fun t ht hW => ⟨⟨1, (), rfl, rfl, ⟨by rw [ht]; exact hP9, hD9⟩⟩, hS.F ht⟩) hS.2.2 dX7_hasData_17 hlocks
def f_X7_hasConstructor  (cc : Int32) (p1 : Int32) : Option (Int32) := (if p1 < 0 then some 0 else (if cc ≤ p1 then some 0 else some 1))
set_option maxHeartbeats 4000000 in
set_option maxRecDepth 100000 in
theorem k_X7_hasConstructor (l : Launch) (hfl : l.stackTraces = false) (G : GC) (s1 : Nat) (p1 : Int32) (t1 : Nat) (sr1 : Nat) (sr2 : Nat) (sr3 : Nat) (sr4 : Nat) (sr5 : Nat) (sr6 : Nat) (sr7 : Nat) (dc : Int32) (cc : Int32) (r9 : Int32) (hm : f_X7_hasConstructor cc p1 = some r9) (sz : Nat) : Met l yX7_hasConstructor (Cond.code yX7_hasConstructor cX7_hasConstructor 2 (some .boolean) :: W0) ({ frames := 0, cells := 0, slots := 0, locals := 0 }) (va_Pc [.ref s1, .int p1] (WD G [(s1, .inr (6, [.ref t1, .ref sr1, .ref sr2, .ref sr3, .ref sr4, .ref sr5, .ref sr6, .ref sr7, .int dc, .int cc]))] sz)) (va_Qi (fun (r : Int32) (_ : Unit) => r = r9) (fun _ t => PW G (va_A [(s1, .inr (6, [.ref t1, .ref sr1, .ref sr2, .ref sr3, .ref sr4, .ref sr5, .ref sr6, .ref sr7, .int dc, .int cc]))] sz) [(s1, .inr (6, [.ref t1, .ref sr1, .ref sr2, .ref sr3, .ref sr4, .ref sr5, .ref sr6, .ref sr7, .int dc, .int cc]))] t) (va_A [(s1, .inr (6, [.ref t1, .ref sr1, .ref sr2, .ref sr3, .ref sr4, .ref sr5, .ref sr6, .ref sr7, .int dc, .int cc]))] sz)) 0 0 (va_A [(s1, .inr (6, [.ref t1, .ref sr1, .ref sr2, .ref sr3, .ref sr4, .ref sr5, .ref sr6, .ref sr7, .int dc, .int cc]))] sz) := by
  rw [f_X7_hasConstructor] at hm
  refine Met.ofW (cc := cX7_hasConstructor) (maxL := 2) (ret := (some .boolean)) (by decide) rfl ?_
  intro p e s m args below meth c s₁ B hml hv
  obtain ⟨rfl, hsz, hP, hK, hD0, hE⟩ := hv
  have hx := B.exec
  have hb := B.bytes
  have hr := B.returns
  have hts := w0_tail B.pre
  have hown : s.vm.findClass RX7 = some m.cls := findClass_of_methodNamed B.named
  have hlocks := B.notSynchronized
  subst hsz
  have hD := hD0.self (sz := s.heap.size)
  generalize hAe : va_A [(s1, .inr (6, [.ref t1, .ref sr1, .ref sr2, .ref sr3, .ref sr4, .ref sr5, .ref sr6, .ref sr7, .int dc, .int cc]))] s.heap.size = A at hD hE ⊢
  have hA : ∀ q : Nat, s.heap.size ≤ q → A q := fun q h => by rw [← hAe]; exact Or.inr h
  have hS : va_S A s.heap s.heap [] := va_S.rf
  obtain ⟨H, hHe⟩ : ∃ H : Heap, H = s.heap := ⟨_, rfl⟩
  have hP : va_P (DG G) clP3 [(s1, .inr (6, [.ref t1, .ref sr1, .ref sr2, .ref sr3, .ref sr4, .ref sr5, .ref sr6, .ref sr7, .int dc, .int cc]))] H := by rw [hHe]; exact hP
  have hS : va_S A s.heap H [] := by rw [hHe]; exact hS
  have hl := lv_entry ([.ref s1, .int p1]) (n := 2) (Nat.le_of_ble_eq_true rfl)
  rw [lg_entry_eq, ← hHe]
  generalize (lg_sl ([.ref s1, .int p1]) ++ List.replicate (2 - (lg_sl ([.ref s1, .int p1])).length) Slot.unset).toArray = ls at hl ⊢
  have hl : lv_has ls 2 [(0, .ref s1), (1, .int p1)] := hl
  refine lv_iload_n hx hb dX7_hasConstructor_0 rfl (lv_at hl 1 rfl) ?_
  refine lv_if_lt (tgt := 16) hx hb dX7_hasConstructor_1 (by decide) (fun c_1 => ?_) (fun c_1 => ?_)
  · rw [if_pos c_1] at hm
    refine lv_iconst (v := 0) hx hb dX7_hasConstructor_16 (by decide) ?_
    obtain rfl := Option.some.inj hm
    have hP9 := hP.sub (ws' := [(s1, .inr (6, [.ref t1, .ref sr1, .ref sr2, .ref sr3, .ref sr4, .ref sr5, .ref sr6, .ref sr7, .int dc, .int cc]))]) [0] rfl
    have hD9 := hD.sub (ws' := [(s1, .inr (6, [.ref t1, .ref sr1, .ref sr2, .ref sr3, .ref sr4, .ref sr5, .ref sr6, .ref sr7, .int dc, .int cc]))]) [0] (by decide) rfl
    refine W.widen (k := 0) (n := 0) (Nat.le_of_ble_eq_true rfl) (Nat.le_of_ble_eq_true rfl) ?_
    exact W.zret (v := 0) (ty := .boolean) hx hb hr (by decide) (fun t ht hW => ⟨⟨0, (), rfl, rfl, ⟨by rw [ht]; exact hP9, hD9⟩⟩, hS.F ht⟩) hS.2.2 dX7_hasConstructor_17 hlocks
  · rw [if_neg c_1] at hm
    refine lv_iload_n hx hb dX7_hasConstructor_4 rfl (lv_at hl 1 rfl) ?_
    refine lv_aload_n hx hb dX7_hasConstructor_5 rfl (lv_at hl 0 rfl) ?_
    refine va_get (D := DG G) (ci := 6) (v := .int cc) (C := RX7) (T := TX7) (N := 10) hx hb hts inW_X7 hown hK hP 0 rfl rfl 9 (by decide) (hts _ wm105) (fun _ h9 => h9) rfl dX7_hasConstructor_6 ?_
    refine lv_icmp_ge (tgt := 16) hx hb dX7_hasConstructor_9 (by decide) (fun c_2 => ?_) (fun c_2 => ?_)
    · rw [if_pos c_2] at hm
      refine lv_iconst (v := 0) hx hb dX7_hasConstructor_16 (by decide) ?_
      obtain rfl := Option.some.inj hm
      have hP9 := hP.sub (ws' := [(s1, .inr (6, [.ref t1, .ref sr1, .ref sr2, .ref sr3, .ref sr4, .ref sr5, .ref sr6, .ref sr7, .int dc, .int cc]))]) [0] rfl
      have hD9 := hD.sub (ws' := [(s1, .inr (6, [.ref t1, .ref sr1, .ref sr2, .ref sr3, .ref sr4, .ref sr5, .ref sr6, .ref sr7, .int dc, .int cc]))]) [0] (by decide) rfl
      refine W.widen (k := 0) (n := 0) (Nat.le_of_ble_eq_true rfl) (Nat.le_of_ble_eq_true rfl) ?_
      exact W.zret (v := 0) (ty := .boolean) hx hb hr (by decide) (fun t ht hW => ⟨⟨0, (), rfl, rfl, ⟨by rw [ht]; exact hP9, hD9⟩⟩, hS.F ht⟩) hS.2.2 dX7_hasConstructor_17 hlocks
    · rw [if_neg c_2] at hm
      refine lv_iconst (v := 1) hx hb dX7_hasConstructor_12 (by decide) ?_
      refine lv_goto (tgt := 17) hx hb dX7_hasConstructor_13 (by decide) ?_
      obtain rfl := Option.some.inj hm
      have hP9 := hP.sub (ws' := [(s1, .inr (6, [.ref t1, .ref sr1, .ref sr2, .ref sr3, .ref sr4, .ref sr5, .ref sr6, .ref sr7, .int dc, .int cc]))]) [0] rfl
      have hD9 := hD.sub (ws' := [(s1, .inr (6, [.ref t1, .ref sr1, .ref sr2, .ref sr3, .ref sr4, .ref sr5, .ref sr6, .ref sr7, .int dc, .int cc]))]) [0] (by decide) rfl
      refine W.widen (k := 0) (n := 0) (Nat.le_of_ble_eq_true rfl) (Nat.le_of_ble_eq_true rfl) ?_
      exact W.zret (v := 1) (ty := .boolean) hx hb hr (by decide) (fun t ht hW => ⟨⟨1, (), rfl, rfl, ⟨by rw [ht]; exact hP9, hD9⟩⟩, hS.F ht⟩) hS.2.2 dX7_hasConstructor_17 hlocks
def f_X7_wasSplit  (dc : Int32) (sf_splitBy : Nat → Int32) (p1 : Int32) : Option (Int32) := (Option.bind (f_X7_hasData dc p1) (fun q_1 => (if q_1 = 0 then some 0 else (if inb p1 6 = true then (if (sf_splitBy (Int32.toNatClampNeg p1)) = 0 then some 0 else some 1) else none))))
set_option maxHeartbeats 4000000 in
set_option maxRecDepth 100000 in
theorem k_X7_wasSplit (l : Launch) (hfl : l.stackTraces = false) (G : GC) (s1 : Nat) (p1 : Int32) (t1 : Nat) (sr1 : Nat) (sr2 : Nat) (sr3 : Nat) (sr4 : Nat) (sr5 : Nat) (sr6 : Nat) (sr7 : Nat) (dc : Int32) (cc : Int32) (sf_splitBy : Nat → Int32) (r9 : Int32) (hm : f_X7_wasSplit dc sf_splitBy p1 = some r9) (sz : Nat) : Met l yX7_wasSplit (Cond.code yX7_wasSplit cX7_wasSplit 2 (some .boolean) :: W0) ({ frames := 1, cells := 0, slots := 0, locals := 21 }) (va_Pc [.ref s1, .int p1] (WD G [(s1, .inr (6, [.ref t1, .ref sr1, .ref sr2, .ref sr3, .ref sr4, .ref sr5, .ref sr6, .ref sr7, .int dc, .int cc])), (sr1, .inl (cyA G 1, 6, .inl (sf_splitBy)))] sz)) (va_Qi (fun (r : Int32) (_ : Unit) => r = r9) (fun _ t => PW G (va_A [(s1, .inr (6, [.ref t1, .ref sr1, .ref sr2, .ref sr3, .ref sr4, .ref sr5, .ref sr6, .ref sr7, .int dc, .int cc])), (sr1, .inl (cyA G 1, 6, .inl (sf_splitBy)))] sz) [(s1, .inr (6, [.ref t1, .ref sr1, .ref sr2, .ref sr3, .ref sr4, .ref sr5, .ref sr6, .ref sr7, .int dc, .int cc])), (sr1, .inl (cyA G 1, 6, .inl (sf_splitBy)))] t) (va_A [(s1, .inr (6, [.ref t1, .ref sr1, .ref sr2, .ref sr3, .ref sr4, .ref sr5, .ref sr6, .ref sr7, .int dc, .int cc])), (sr1, .inl (cyA G 1, 6, .inl (sf_splitBy)))] sz)) 0 0 (va_A [(s1, .inr (6, [.ref t1, .ref sr1, .ref sr2, .ref sr3, .ref sr4, .ref sr5, .ref sr6, .ref sr7, .int dc, .int cc])), (sr1, .inl (cyA G 1, 6, .inl (sf_splitBy)))] sz) := by
  rw [f_X7_wasSplit] at hm
  refine Met.ofW (cc := cX7_wasSplit) (maxL := 2) (ret := (some .boolean)) (by decide) rfl ?_
  intro p e s m args below meth c s₁ B hml hv
  obtain ⟨rfl, hsz, hP, hK, hD0, hE⟩ := hv
  have hx := B.exec
  have hb := B.bytes
  have hr := B.returns
  have hts := w0_tail B.pre
  have hown : s.vm.findClass RX7 = some m.cls := findClass_of_methodNamed B.named
  have hlocks := B.notSynchronized
  subst hsz
  have hD := hD0.self (sz := s.heap.size)
  generalize hAe : va_A [(s1, .inr (6, [.ref t1, .ref sr1, .ref sr2, .ref sr3, .ref sr4, .ref sr5, .ref sr6, .ref sr7, .int dc, .int cc])), (sr1, .inl (cyA G 1, 6, .inl (sf_splitBy)))] s.heap.size = A at hD hE ⊢
  have hA : ∀ q : Nat, s.heap.size ≤ q → A q := fun q h => by rw [← hAe]; exact Or.inr h
  have hS : va_S A s.heap s.heap [] := va_S.rf
  obtain ⟨H, hHe⟩ : ∃ H : Heap, H = s.heap := ⟨_, rfl⟩
  have hP : va_P (DG G) clP3 [(s1, .inr (6, [.ref t1, .ref sr1, .ref sr2, .ref sr3, .ref sr4, .ref sr5, .ref sr6, .ref sr7, .int dc, .int cc])), (sr1, .inl (cyA G 1, 6, .inl (sf_splitBy)))] H := by rw [hHe]; exact hP
  have hS : va_S A s.heap H [] := by rw [hHe]; exact hS
  have hl := lv_entry ([.ref s1, .int p1]) (n := 2) (Nat.le_of_ble_eq_true rfl)
  rw [lg_entry_eq, ← hHe]
  generalize (lg_sl ([.ref s1, .int p1]) ++ List.replicate (2 - (lg_sl ([.ref s1, .int p1])).length) Slot.unset).toArray = ls at hl ⊢
  have hl : lv_has ls 2 [(0, .ref s1), (1, .int p1)] := hl
  refine lv_aload_n hx hb dX7_wasSplit_0 rfl (lv_at hl 0 rfl) ?_
  refine lv_iload_n hx hb dX7_wasSplit_1 rfl (lv_at hl 1 rfl) ?_
  obtain ⟨q_1, hq_1, hm⟩ := bind_some hm
  have hFc := va_free (wc := [(s1, .inr (6, [.ref t1, .ref sr1, .ref sr2, .ref sr3, .ref sr4, .ref sr5, .ref sr6, .ref sr7, .int dc, .int cc]))]) hD hS hA [0] rfl
  refine va_calli (va_runV (As := [.int p1]) (rest := []) ⟨hx, hb, hml, hown, hts⟩ (k_X7_hasData l hfl G s1 p1 t1 sr1 sr2 sr3 sr4 sr5 sr6 sr7 dc cc q_1 hq_1 H.size) (cwV 1 hts (gV wm799 wm754 wm755 wm4 wm756) rfl rfl rfl (by decide +kernel) ⟨Nat.le_of_ble_eq_true rfl, Nat.le_of_ble_eq_true rfl⟩) (pre_v (pre_s hK hP hD hS hE [0] rfl rfl (by decide) hFc) (va_recv hK hP (ci := 6) (q0 := 0) rfl rfl)) rfl rfl hl.1 rfl (lv_room (Nat.le_of_ble_eq_true rfl)) dX7_wasSplit_2 ⟨Nat.le_of_ble_eq_true rfl, Nat.le_of_ble_eq_true rfl⟩) hS (fun q _ h => hFc q h) hFc (fun r u t H locs ht hvm hw hB hz1 hk1 hS => ?_)
  rw [show r = q_1 from hw]
  obtain ⟨hP1, hD1⟩ := hB
  rw [ht] at hP1
  obtain ⟨hP, hD⟩ := va_join (wr := [(sr1, .inl (cyA G 1, 6, .inl (sf_splitBy)))]) (w1 := [(s1, .inr (6, [.ref t1, .ref sr1, .ref sr2, .ref sr3, .ref sr4, .ref sr5, .ref sr6, .ref sr7, .int dc, .int cc]))]) hP hD [0] [1] rfl rfl (by decide) (by decide) hk1 hFc hP1 hD1
  have hP : va_P (DG G) clP3 [(sr1, .inl (cyA G 1, 6, .inl (sf_splitBy))), (s1, .inr (6, [.ref t1, .ref sr1, .ref sr2, .ref sr3, .ref sr4, .ref sr5, .ref sr6, .ref sr7, .int dc, .int cc]))] H := hP
  have hD : va_D A [(sr1, .inl (cyA G 1, 6, .inl (sf_splitBy))), (s1, .inr (6, [.ref t1, .ref sr1, .ref sr2, .ref sr3, .ref sr4, .ref sr5, .ref sr6, .ref sr7, .int dc, .int cc]))] := hD
  refine W.widen (k := 0) (n := 0) (Nat.le_of_ble_eq_true rfl) (Nat.le_of_ble_eq_true rfl) ?_
  refine lv_if_eq (tgt := 21) hx hb dX7_wasSplit_5 (by decide) (fun c_2 => ?_) (fun c_2 => ?_)
  · rw [if_pos c_2] at hm
    refine lv_iconst (v := 0) hx hb dX7_wasSplit_21 (by decide) ?_
    obtain rfl := Option.some.inj hm
    have hP9 := hP.sub (ws' := [(s1, .inr (6, [.ref t1, .ref sr1, .ref sr2, .ref sr3, .ref sr4, .ref sr5, .ref sr6, .ref sr7, .int dc, .int cc])), (sr1, .inl (cyA G 1, 6, .inl (sf_splitBy)))]) [1, 0] rfl
    have hD9 := hD.sub (ws' := [(s1, .inr (6, [.ref t1, .ref sr1, .ref sr2, .ref sr3, .ref sr4, .ref sr5, .ref sr6, .ref sr7, .int dc, .int cc])), (sr1, .inl (cyA G 1, 6, .inl (sf_splitBy)))]) [1, 0] (by decide) rfl
    refine W.widen (k := 0) (n := 0) (Nat.le_of_ble_eq_true rfl) (Nat.le_of_ble_eq_true rfl) ?_
    exact W.zret (v := 0) (ty := .boolean) hx hb hr (by decide) (fun t ht hW => ⟨⟨0, (), rfl, rfl, ⟨by rw [ht]; exact hP9, hD9⟩⟩, hS.F ht⟩) hS.2.2 dX7_wasSplit_22 hlocks
  · rw [if_neg c_2] at hm
    refine lv_aload_n hx hb dX7_wasSplit_8 rfl (lv_at hl 0 rfl) ?_
    refine va_get (D := DG G) (ci := 6) (v := .ref sr1) (C := RX7) (T := TX7) (N := 10) hx hb hts inW_X7 hown hK hP 1 rfl rfl 1 (by decide) (hts _ wm96) (fun _ h9 => h9) rfl dX7_wasSplit_9 ?_
    refine lv_iload_n hx hb dX7_wasSplit_12 rfl (lv_at hl 1 rfl) ?_
    obtain ⟨b_3, hm⟩ := ite_some hm
    refine va_zald hx hb hK hP 0 1 rfl rfl (inb_vp b_3) dX7_wasSplit_13 ?_
    refine lv_if_eq (tgt := 21) hx hb dX7_wasSplit_14 (by decide) (fun c_4 => ?_) (fun c_4 => ?_)
    · rw [if_pos c_4] at hm
      refine lv_iconst (v := 0) hx hb dX7_wasSplit_21 (by decide) ?_
      obtain rfl := Option.some.inj hm
      have hP9 := hP.sub (ws' := [(s1, .inr (6, [.ref t1, .ref sr1, .ref sr2, .ref sr3, .ref sr4, .ref sr5, .ref sr6, .ref sr7, .int dc, .int cc])), (sr1, .inl (cyA G 1, 6, .inl (sf_splitBy)))]) [1, 0] rfl
      have hD9 := hD.sub (ws' := [(s1, .inr (6, [.ref t1, .ref sr1, .ref sr2, .ref sr3, .ref sr4, .ref sr5, .ref sr6, .ref sr7, .int dc, .int cc])), (sr1, .inl (cyA G 1, 6, .inl (sf_splitBy)))]) [1, 0] (by decide) rfl
      refine W.widen (k := 0) (n := 0) (Nat.le_of_ble_eq_true rfl) (Nat.le_of_ble_eq_true rfl) ?_
      exact W.zret (v := 0) (ty := .boolean) hx hb hr (by decide) (fun t ht hW => ⟨⟨0, (), rfl, rfl, ⟨by rw [ht]; exact hP9, hD9⟩⟩, hS.F ht⟩) hS.2.2 dX7_wasSplit_22 hlocks
    · rw [if_neg c_4] at hm
      refine lv_iconst (v := 1) hx hb dX7_wasSplit_17 (by decide) ?_
      refine lv_goto (tgt := 22) hx hb dX7_wasSplit_18 (by decide) ?_
      obtain rfl := Option.some.inj hm
      have hP9 := hP.sub (ws' := [(s1, .inr (6, [.ref t1, .ref sr1, .ref sr2, .ref sr3, .ref sr4, .ref sr5, .ref sr6, .ref sr7, .int dc, .int cc])), (sr1, .inl (cyA G 1, 6, .inl (sf_splitBy)))]) [1, 0] rfl
      have hD9 := hD.sub (ws' := [(s1, .inr (6, [.ref t1, .ref sr1, .ref sr2, .ref sr3, .ref sr4, .ref sr5, .ref sr6, .ref sr7, .int dc, .int cc])), (sr1, .inl (cyA G 1, 6, .inl (sf_splitBy)))]) [1, 0] (by decide) rfl
      refine W.widen (k := 0) (n := 0) (Nat.le_of_ble_eq_true rfl) (Nat.le_of_ble_eq_true rfl) ?_
      exact W.zret (v := 1) (ty := .boolean) hx hb hr (by decide) (fun t ht hW => ⟨⟨1, (), rfl, rfl, ⟨by rw [ht]; exact hP9, hD9⟩⟩, hS.F ht⟩) hS.2.2 dX7_wasSplit_22 hlocks
def f_X7_noteSplit  (dc : Int32) (sf_splitBy : Nat → Int32) (p1 : Int32) : Option (Int32 × (Nat → Int32)) := (Option.bind (f_X7_hasData dc p1) (fun q_1 => (if q_1 = 0 then some (dc, sf_splitBy) else (if inb p1 6 = true then some (dc, upd sf_splitBy (Int32.toNatClampNeg p1) (vp_nar .boolean 1)) else none))))
set_option maxHeartbeats 4000000 in
set_option maxRecDepth 100000 in
theorem k_X7_noteSplit (l : Launch) (hfl : l.stackTraces = false) (G : GC) (s1 : Nat) (p1 : Int32) (t1 : Nat) (sr1 : Nat) (sr2 : Nat) (sr3 : Nat) (sr4 : Nat) (sr5 : Nat) (sr6 : Nat) (sr7 : Nat) (dc : Int32) (cc : Int32) (sf_splitBy : Nat → Int32) (dc_9 : Int32) (sf_splitBy_9 : Nat → Int32) (hm : f_X7_noteSplit dc sf_splitBy p1 = some (dc_9, sf_splitBy_9)) (sz : Nat) : Met l yX7_noteSplit (Cond.code yX7_noteSplit cX7_noteSplit 2 none :: W0) ({ frames := 1, cells := 0, slots := 0, locals := 21 }) (va_Pc [.ref s1, .int p1] (WD G [(s1, .inr (6, [.ref t1, .ref sr1, .ref sr2, .ref sr3, .ref sr4, .ref sr5, .ref sr6, .ref sr7, .int dc, .int cc])), (sr1, .inl (cyA G 1, 6, .inl (sf_splitBy)))] sz)) (va_Qv (fun _ : Unit => True) (fun _ t => PW G (va_A [(s1, .inr (6, [.ref t1, .ref sr1, .ref sr2, .ref sr3, .ref sr4, .ref sr5, .ref sr6, .ref sr7, .int dc, .int cc])), (sr1, .inl (cyA G 1, 6, .inl (sf_splitBy)))] sz) [(s1, .inr (6, [.ref t1, .ref sr1, .ref sr2, .ref sr3, .ref sr4, .ref sr5, .ref sr6, .ref sr7, .int dc_9, .int cc])), (sr1, .inl (cyA G 1, 6, .inl (sf_splitBy_9)))] t) (va_A [(s1, .inr (6, [.ref t1, .ref sr1, .ref sr2, .ref sr3, .ref sr4, .ref sr5, .ref sr6, .ref sr7, .int dc, .int cc])), (sr1, .inl (cyA G 1, 6, .inl (sf_splitBy)))] sz)) 0 0 (va_A [(s1, .inr (6, [.ref t1, .ref sr1, .ref sr2, .ref sr3, .ref sr4, .ref sr5, .ref sr6, .ref sr7, .int dc, .int cc])), (sr1, .inl (cyA G 1, 6, .inl (sf_splitBy)))] sz) := by
  rw [f_X7_noteSplit] at hm
  refine Met.ofW (cc := cX7_noteSplit) (maxL := 2) (ret := none) (by decide) rfl ?_
  intro p e s m args below meth c s₁ B hml hv
  obtain ⟨rfl, hsz, hP, hK, hD0, hE⟩ := hv
  have hx := B.exec
  have hb := B.bytes
  have hr := B.returns
  have hts := w0_tail B.pre
  have hown : s.vm.findClass RX7 = some m.cls := findClass_of_methodNamed B.named
  have hlocks := B.notSynchronized
  subst hsz
  have hD := hD0.self (sz := s.heap.size)
  generalize hAe : va_A [(s1, .inr (6, [.ref t1, .ref sr1, .ref sr2, .ref sr3, .ref sr4, .ref sr5, .ref sr6, .ref sr7, .int dc, .int cc])), (sr1, .inl (cyA G 1, 6, .inl (sf_splitBy)))] s.heap.size = A at hD hE ⊢
  have hA : ∀ q : Nat, s.heap.size ≤ q → A q := fun q h => by rw [← hAe]; exact Or.inr h
  have hS : va_S A s.heap s.heap [] := va_S.rf
  obtain ⟨H, hHe⟩ : ∃ H : Heap, H = s.heap := ⟨_, rfl⟩
  have hP : va_P (DG G) clP3 [(s1, .inr (6, [.ref t1, .ref sr1, .ref sr2, .ref sr3, .ref sr4, .ref sr5, .ref sr6, .ref sr7, .int dc, .int cc])), (sr1, .inl (cyA G 1, 6, .inl (sf_splitBy)))] H := by rw [hHe]; exact hP
  have hS : va_S A s.heap H [] := by rw [hHe]; exact hS
  have hl := lv_entry ([.ref s1, .int p1]) (n := 2) (Nat.le_of_ble_eq_true rfl)
  rw [lg_entry_eq, ← hHe]
  generalize (lg_sl ([.ref s1, .int p1]) ++ List.replicate (2 - (lg_sl ([.ref s1, .int p1])).length) Slot.unset).toArray = ls at hl ⊢
  have hl : lv_has ls 2 [(0, .ref s1), (1, .int p1)] := hl
  refine lv_aload_n hx hb dX7_noteSplit_0 rfl (lv_at hl 0 rfl) ?_
  refine lv_iload_n hx hb dX7_noteSplit_1 rfl (lv_at hl 1 rfl) ?_
  obtain ⟨q_1, hq_1, hm⟩ := bind_some hm
  have hFc := va_free (wc := [(s1, .inr (6, [.ref t1, .ref sr1, .ref sr2, .ref sr3, .ref sr4, .ref sr5, .ref sr6, .ref sr7, .int dc, .int cc]))]) hD hS hA [0] rfl
  refine va_calli (va_runV (As := [.int p1]) (rest := []) ⟨hx, hb, hml, hown, hts⟩ (k_X7_hasData l hfl G s1 p1 t1 sr1 sr2 sr3 sr4 sr5 sr6 sr7 dc cc q_1 hq_1 H.size) (cwV 1 hts (gV wm799 wm754 wm755 wm4 wm756) rfl rfl rfl (by decide +kernel) ⟨Nat.le_of_ble_eq_true rfl, Nat.le_of_ble_eq_true rfl⟩) (pre_v (pre_s hK hP hD hS hE [0] rfl rfl (by decide) hFc) (va_recv hK hP (ci := 6) (q0 := 0) rfl rfl)) rfl rfl hl.1 rfl (lv_room (Nat.le_of_ble_eq_true rfl)) dX7_noteSplit_2 ⟨Nat.le_of_ble_eq_true rfl, Nat.le_of_ble_eq_true rfl⟩) hS (fun q _ h => hFc q h) hFc (fun r u t H locs ht hvm hw hB hz1 hk1 hS => ?_)
  rw [show r = q_1 from hw]
  obtain ⟨hP1, hD1⟩ := hB
  rw [ht] at hP1
  obtain ⟨hP, hD⟩ := va_join (wr := [(sr1, .inl (cyA G 1, 6, .inl (sf_splitBy)))]) (w1 := [(s1, .inr (6, [.ref t1, .ref sr1, .ref sr2, .ref sr3, .ref sr4, .ref sr5, .ref sr6, .ref sr7, .int dc, .int cc]))]) hP hD [0] [1] rfl rfl (by decide) (by decide) hk1 hFc hP1 hD1
  have hP : va_P (DG G) clP3 [(sr1, .inl (cyA G 1, 6, .inl (sf_splitBy))), (s1, .inr (6, [.ref t1, .ref sr1, .ref sr2, .ref sr3, .ref sr4, .ref sr5, .ref sr6, .ref sr7, .int dc, .int cc]))] H := hP
  have hD : va_D A [(sr1, .inl (cyA G 1, 6, .inl (sf_splitBy))), (s1, .inr (6, [.ref t1, .ref sr1, .ref sr2, .ref sr3, .ref sr4, .ref sr5, .ref sr6, .ref sr7, .int dc, .int cc]))] := hD
  refine W.widen (k := 0) (n := 0) (Nat.le_of_ble_eq_true rfl) (Nat.le_of_ble_eq_true rfl) ?_
  refine lv_if_eq (tgt := 15) hx hb dX7_noteSplit_5 (by decide) (fun c_2 => ?_) (fun c_2 => ?_)
  · rw [if_pos c_2] at hm
    simp only [Option.some.injEq, Prod.mk.injEq] at hm
    obtain ⟨rfl, rfl⟩ := hm
    have hP9 := hP.sub (ws' := [(s1, .inr (6, [.ref t1, .ref sr1, .ref sr2, .ref sr3, .ref sr4, .ref sr5, .ref sr6, .ref sr7, .int dc, .int cc])), (sr1, .inl (cyA G 1, 6, .inl (sf_splitBy)))]) [1, 0] rfl
    have hD9 := hD.sub (ws' := [(s1, .inr (6, [.ref t1, .ref sr1, .ref sr2, .ref sr3, .ref sr4, .ref sr5, .ref sr6, .ref sr7, .int dc, .int cc])), (sr1, .inl (cyA G 1, 6, .inl (sf_splitBy)))]) [1, 0] (by decide) rfl
    refine W.widen (k := 0) (n := 0) (Nat.le_of_ble_eq_true rfl) (Nat.le_of_ble_eq_true rfl) ?_
    exact W.vret hx hb hr (fun t ht hW => ⟨⟨(), rfl, trivial, ⟨by rw [ht]; exact hP9, hD9⟩⟩, hS.F ht⟩) hS.2.2 dX7_noteSplit_15 hlocks
  · rw [if_neg c_2] at hm
    refine lv_aload_n hx hb dX7_noteSplit_8 rfl (lv_at hl 0 rfl) ?_
    refine va_get (D := DG G) (ci := 6) (v := .ref sr1) (C := RX7) (T := TX7) (N := 10) hx hb hts inW_X7 hown hK hP 1 rfl rfl 1 (by decide) (hts _ wm96) (fun _ h9 => h9) rfl dX7_noteSplit_9 ?_
    refine lv_iload_n hx hb dX7_noteSplit_12 rfl (lv_at hl 1 rfl) ?_
    refine lv_iconst (v := 1) hx hb dX7_noteSplit_13 (by decide) ?_
    obtain ⟨b_3, hm⟩ := ite_some hm
    refine va_zast hx hb hK hP hD hS 0 1 rfl rfl (inb_vp b_3) dX7_noteSplit_14 (fun H locs hP hD hS => ?_)
    have hP : va_P (DG G) clP3 [(sr1, .inl (cyA G 1, 6, .inl (upd sf_splitBy (Int32.toNatClampNeg p1) (vp_nar .boolean 1)))), (s1, .inr (6, [.ref t1, .ref sr1, .ref sr2, .ref sr3, .ref sr4, .ref sr5, .ref sr6, .ref sr7, .int dc, .int cc]))] H := hP
    have hD : va_D A [(sr1, .inl (cyA G 1, 6, .inl (upd sf_splitBy (Int32.toNatClampNeg p1) (vp_nar .boolean 1)))), (s1, .inr (6, [.ref t1, .ref sr1, .ref sr2, .ref sr3, .ref sr4, .ref sr5, .ref sr6, .ref sr7, .int dc, .int cc]))] := hD
    simp only [Option.some.injEq, Prod.mk.injEq] at hm
    obtain ⟨rfl, rfl⟩ := hm
    have hP9 := hP.sub (ws' := [(s1, .inr (6, [.ref t1, .ref sr1, .ref sr2, .ref sr3, .ref sr4, .ref sr5, .ref sr6, .ref sr7, .int dc, .int cc])), (sr1, .inl (cyA G 1, 6, .inl (upd sf_splitBy (Int32.toNatClampNeg p1) (vp_nar .boolean 1))))]) [1, 0] rfl
    have hD9 := hD.sub (ws' := [(s1, .inr (6, [.ref t1, .ref sr1, .ref sr2, .ref sr3, .ref sr4, .ref sr5, .ref sr6, .ref sr7, .int dc, .int cc])), (sr1, .inl (cyA G 1, 6, .inl (upd sf_splitBy (Int32.toNatClampNeg p1) (vp_nar .boolean 1))))]) [1, 0] (by decide) rfl
    refine W.widen (k := 0) (n := 0) (Nat.le_of_ble_eq_true rfl) (Nat.le_of_ble_eq_true rfl) ?_
    exact W.vret hx hb hr (fun t ht hW => ⟨⟨(), rfl, trivial, ⟨by rw [ht]; exact hP9, hD9⟩⟩, hS.F ht⟩) hS.2.2 dX7_noteSplit_15 hlocks
def f_X7_enterData  (dc : Int32)  : Option (Int32 × Int32) := some (((dc + 1) - 1), (dc + 1))
set_option maxHeartbeats 4000000 in
set_option maxRecDepth 100000 in
theorem k_X7_enterData (l : Launch) (hfl : l.stackTraces = false) (G : GC) (s1 : Nat) (t1 : Nat) (sr1 : Nat) (sr2 : Nat) (sr3 : Nat) (sr4 : Nat) (sr5 : Nat) (sr6 : Nat) (sr7 : Nat) (dc : Int32) (cc : Int32) (r9 : Int32) (dc_9 : Int32) (hm : f_X7_enterData dc = some (r9, dc_9)) (sz : Nat) : Met l yX7_enterData (Cond.code yX7_enterData cX7_enterData 1 (some .int) :: W0) ({ frames := 0, cells := 0, slots := 0, locals := 0 }) (va_Pc [.ref s1] (WD G [(s1, .inr (6, [.ref t1, .ref sr1, .ref sr2, .ref sr3, .ref sr4, .ref sr5, .ref sr6, .ref sr7, .int dc, .int cc]))] sz)) (va_Qi (fun (r : Int32) (_ : Unit) => r = r9) (fun _ t => PW G (va_A [(s1, .inr (6, [.ref t1, .ref sr1, .ref sr2, .ref sr3, .ref sr4, .ref sr5, .ref sr6, .ref sr7, .int dc, .int cc]))] sz) [(s1, .inr (6, [.ref t1, .ref sr1, .ref sr2, .ref sr3, .ref sr4, .ref sr5, .ref sr6, .ref sr7, .int dc_9, .int cc]))] t) (va_A [(s1, .inr (6, [.ref t1, .ref sr1, .ref sr2, .ref sr3, .ref sr4, .ref sr5, .ref sr6, .ref sr7, .int dc, .int cc]))] sz)) 0 0 (va_A [(s1, .inr (6, [.ref t1, .ref sr1, .ref sr2, .ref sr3, .ref sr4, .ref sr5, .ref sr6, .ref sr7, .int dc, .int cc]))] sz) := by
  rw [f_X7_enterData] at hm
  refine Met.ofW (cc := cX7_enterData) (maxL := 1) (ret := (some .int)) (by decide) rfl ?_
  intro p e s m args below meth c s₁ B hml hv
  obtain ⟨rfl, hsz, hP, hK, hD0, hE⟩ := hv
  have hx := B.exec
  have hb := B.bytes
  have hr := B.returns
  have hts := w0_tail B.pre
  have hown : s.vm.findClass RX7 = some m.cls := findClass_of_methodNamed B.named
  have hlocks := B.notSynchronized
  subst hsz
  have hD := hD0.self (sz := s.heap.size)
  generalize hAe : va_A [(s1, .inr (6, [.ref t1, .ref sr1, .ref sr2, .ref sr3, .ref sr4, .ref sr5, .ref sr6, .ref sr7, .int dc, .int cc]))] s.heap.size = A at hD hE ⊢
  have hA : ∀ q : Nat, s.heap.size ≤ q → A q := fun q h => by rw [← hAe]; exact Or.inr h
  have hS : va_S A s.heap s.heap [] := va_S.rf
  obtain ⟨H, hHe⟩ : ∃ H : Heap, H = s.heap := ⟨_, rfl⟩
  have hP : va_P (DG G) clP3 [(s1, .inr (6, [.ref t1, .ref sr1, .ref sr2, .ref sr3, .ref sr4, .ref sr5, .ref sr6, .ref sr7, .int dc, .int cc]))] H := by rw [hHe]; exact hP
  have hS : va_S A s.heap H [] := by rw [hHe]; exact hS
  have hl := lv_entry ([.ref s1]) (n := 1) (Nat.le_of_ble_eq_true rfl)
  rw [lg_entry_eq, ← hHe]
  generalize (lg_sl ([.ref s1]) ++ List.replicate (1 - (lg_sl ([.ref s1])).length) Slot.unset).toArray = ls at hl ⊢
  have hl : lv_has ls 1 [(0, .ref s1)] := hl
  refine lv_aload_n hx hb dX7_enterData_0 rfl (lv_at hl 0 rfl) ?_
  refine lv_dup hx hb dX7_enterData_1 rfl ?_
  refine va_get (D := DG G) (ci := 6) (v := .int dc) (C := RX7) (T := TX7) (N := 10) hx hb hts inW_X7 hown hK hP 0 rfl rfl 8 (by decide) (hts _ wm103) (fun _ h9 => h9) rfl dX7_enterData_2 ?_
  refine lv_iconst (v := 1) hx hb dX7_enterData_5 (by decide) ?_
  refine lv_iadd hx hb dX7_enterData_6 ?_
  refine va_put (D := DG G) (ci := 6) (v := .int (dc + 1)) (ty := tyX7 8) (C := RX7) (T := TX7) (N := 10) hx hb hts inW_X7 tyX7 tyX7_ok nmX7 hown hK hP hD hS 0 rfl rfl 8 (by decide) (hts _ wm103) (fun _ h9 => h9) rfl (by decide +kernel) rfl rfl (Nat.le_of_ble_eq_true rfl) dX7_enterData_7 (fun H locs hP hD hS => ?_)
  have hP : va_P (DG G) clP3 [(s1, .inr (6, [.ref t1, .ref sr1, .ref sr2, .ref sr3, .ref sr4, .ref sr5, .ref sr6, .ref sr7, .int (dc + 1), .int cc]))] H := hP
  have hD : va_D A [(s1, .inr (6, [.ref t1, .ref sr1, .ref sr2, .ref sr3, .ref sr4, .ref sr5, .ref sr6, .ref sr7, .int (dc + 1), .int cc]))] := hD
  refine lv_aload_n hx hb dX7_enterData_10 rfl (lv_at hl 0 rfl) ?_
  refine va_get (D := DG G) (ci := 6) (v := .int (dc + 1)) (C := RX7) (T := TX7) (N := 10) hx hb hts inW_X7 hown hK hP 0 rfl rfl 8 (by decide) (hts _ wm103) (fun _ h9 => h9) rfl dX7_enterData_11 ?_
  refine lv_iconst (v := 1) hx hb dX7_enterData_14 (by decide) ?_
  refine lv_isub hx hb dX7_enterData_15 ?_
  simp only [Option.some.injEq, Prod.mk.injEq] at hm
  obtain ⟨rfl, rfl⟩ := hm
  have hP9 := hP.sub (ws' := [(s1, .inr (6, [.ref t1, .ref sr1, .ref sr2, .ref sr3, .ref sr4, .ref sr5, .ref sr6, .ref sr7, .int (dc + 1), .int cc]))]) [0] rfl
  have hD9 := hD.sub (ws' := [(s1, .inr (6, [.ref t1, .ref sr1, .ref sr2, .ref sr3, .ref sr4, .ref sr5, .ref sr6, .ref sr7, .int (dc + 1), .int cc]))]) [0] (by decide) rfl
  refine W.widen (k := 0) (n := 0) (Nat.le_of_ble_eq_true rfl) (Nat.le_of_ble_eq_true rfl) ?_
  exact W.iret (v := ((dc + 1) - 1)) hx hb hr (fun t ht hW => ⟨⟨((dc + 1) - 1), (), rfl, rfl, ⟨by rw [ht]; exact hP9, hD9⟩⟩, hS.F ht⟩) hS.2.2 dX7_enterData_16 hlocks
def f_X7_ownerOf  (cc : Int32) (sf_owners : Nat → Int32) (p1 : Int32) : Option (Int32) := (Option.bind (f_X7_hasConstructor cc p1) (fun q_1 => (if q_1 = 0 then some (-1) else (if inb p1 16 = true then some ((sf_owners (Int32.toNatClampNeg p1))) else none))))
set_option maxHeartbeats 4000000 in
set_option maxRecDepth 100000 in
theorem k_X7_ownerOf (l : Launch) (hfl : l.stackTraces = false) (G : GC) (s1 : Nat) (p1 : Int32) (t1 : Nat) (sr1 : Nat) (sr2 : Nat) (sr3 : Nat) (sr4 : Nat) (sr5 : Nat) (sr6 : Nat) (sr7 : Nat) (dc : Int32) (cc : Int32) (sf_owners : Nat → Int32) (r9 : Int32) (hm : f_X7_ownerOf cc sf_owners p1 = some r9) (sz : Nat) : Met l yX7_ownerOf (Cond.code yX7_ownerOf cX7_ownerOf 2 (some .int) :: W0) ({ frames := 1, cells := 0, slots := 0, locals := 21 }) (va_Pc [.ref s1, .int p1] (WD G [(s1, .inr (6, [.ref t1, .ref sr1, .ref sr2, .ref sr3, .ref sr4, .ref sr5, .ref sr6, .ref sr7, .int dc, .int cc])), (sr2, .inl (cyA G 0, 16, .inl (sf_owners)))] sz)) (va_Qi (fun (r : Int32) (_ : Unit) => r = r9) (fun _ t => PW G (va_A [(s1, .inr (6, [.ref t1, .ref sr1, .ref sr2, .ref sr3, .ref sr4, .ref sr5, .ref sr6, .ref sr7, .int dc, .int cc])), (sr2, .inl (cyA G 0, 16, .inl (sf_owners)))] sz) [(s1, .inr (6, [.ref t1, .ref sr1, .ref sr2, .ref sr3, .ref sr4, .ref sr5, .ref sr6, .ref sr7, .int dc, .int cc])), (sr2, .inl (cyA G 0, 16, .inl (sf_owners)))] t) (va_A [(s1, .inr (6, [.ref t1, .ref sr1, .ref sr2, .ref sr3, .ref sr4, .ref sr5, .ref sr6, .ref sr7, .int dc, .int cc])), (sr2, .inl (cyA G 0, 16, .inl (sf_owners)))] sz)) 0 0 (va_A [(s1, .inr (6, [.ref t1, .ref sr1, .ref sr2, .ref sr3, .ref sr4, .ref sr5, .ref sr6, .ref sr7, .int dc, .int cc])), (sr2, .inl (cyA G 0, 16, .inl (sf_owners)))] sz) := by
  rw [f_X7_ownerOf] at hm
  refine Met.ofW (cc := cX7_ownerOf) (maxL := 2) (ret := (some .int)) (by decide) rfl ?_
  intro p e s m args below meth c s₁ B hml hv
  obtain ⟨rfl, hsz, hP, hK, hD0, hE⟩ := hv
  have hx := B.exec
  have hb := B.bytes
  have hr := B.returns
  have hts := w0_tail B.pre
  have hown : s.vm.findClass RX7 = some m.cls := findClass_of_methodNamed B.named
  have hlocks := B.notSynchronized
  subst hsz
  have hD := hD0.self (sz := s.heap.size)
  generalize hAe : va_A [(s1, .inr (6, [.ref t1, .ref sr1, .ref sr2, .ref sr3, .ref sr4, .ref sr5, .ref sr6, .ref sr7, .int dc, .int cc])), (sr2, .inl (cyA G 0, 16, .inl (sf_owners)))] s.heap.size = A at hD hE ⊢
  have hA : ∀ q : Nat, s.heap.size ≤ q → A q := fun q h => by rw [← hAe]; exact Or.inr h
  have hS : va_S A s.heap s.heap [] := va_S.rf
  obtain ⟨H, hHe⟩ : ∃ H : Heap, H = s.heap := ⟨_, rfl⟩
  have hP : va_P (DG G) clP3 [(s1, .inr (6, [.ref t1, .ref sr1, .ref sr2, .ref sr3, .ref sr4, .ref sr5, .ref sr6, .ref sr7, .int dc, .int cc])), (sr2, .inl (cyA G 0, 16, .inl (sf_owners)))] H := by rw [hHe]; exact hP
  have hS : va_S A s.heap H [] := by rw [hHe]; exact hS
  have hl := lv_entry ([.ref s1, .int p1]) (n := 2) (Nat.le_of_ble_eq_true rfl)
  rw [lg_entry_eq, ← hHe]
  generalize (lg_sl ([.ref s1, .int p1]) ++ List.replicate (2 - (lg_sl ([.ref s1, .int p1])).length) Slot.unset).toArray = ls at hl ⊢
  have hl : lv_has ls 2 [(0, .ref s1), (1, .int p1)] := hl
  refine lv_aload_n hx hb dX7_ownerOf_0 rfl (lv_at hl 0 rfl) ?_
  refine lv_iload_n hx hb dX7_ownerOf_1 rfl (lv_at hl 1 rfl) ?_
  obtain ⟨q_1, hq_1, hm⟩ := bind_some hm
  have hFc := va_free (wc := [(s1, .inr (6, [.ref t1, .ref sr1, .ref sr2, .ref sr3, .ref sr4, .ref sr5, .ref sr6, .ref sr7, .int dc, .int cc]))]) hD hS hA [0] rfl
  refine va_calli (va_runV (As := [.int p1]) (rest := []) ⟨hx, hb, hml, hown, hts⟩ (k_X7_hasConstructor l hfl G s1 p1 t1 sr1 sr2 sr3 sr4 sr5 sr6 sr7 dc cc q_1 hq_1 H.size) (cwV 1 hts (gV wm479 wm480 wm481 wm4 wm482) rfl rfl rfl (by decide +kernel) ⟨Nat.le_of_ble_eq_true rfl, Nat.le_of_ble_eq_true rfl⟩) (pre_v (pre_s hK hP hD hS hE [0] rfl rfl (by decide) hFc) (va_recv hK hP (ci := 6) (q0 := 0) rfl rfl)) rfl rfl hl.1 rfl (lv_room (Nat.le_of_ble_eq_true rfl)) dX7_ownerOf_2 ⟨Nat.le_of_ble_eq_true rfl, Nat.le_of_ble_eq_true rfl⟩) hS (fun q _ h => hFc q h) hFc (fun r u t H locs ht hvm hw hB hz1 hk1 hS => ?_)
  rw [show r = q_1 from hw]
  obtain ⟨hP1, hD1⟩ := hB
  rw [ht] at hP1
  obtain ⟨hP, hD⟩ := va_join (wr := [(sr2, .inl (cyA G 0, 16, .inl (sf_owners)))]) (w1 := [(s1, .inr (6, [.ref t1, .ref sr1, .ref sr2, .ref sr3, .ref sr4, .ref sr5, .ref sr6, .ref sr7, .int dc, .int cc]))]) hP hD [0] [1] rfl rfl (by decide) (by decide) hk1 hFc hP1 hD1
  have hP : va_P (DG G) clP3 [(sr2, .inl (cyA G 0, 16, .inl (sf_owners))), (s1, .inr (6, [.ref t1, .ref sr1, .ref sr2, .ref sr3, .ref sr4, .ref sr5, .ref sr6, .ref sr7, .int dc, .int cc]))] H := hP
  have hD : va_D A [(sr2, .inl (cyA G 0, 16, .inl (sf_owners))), (s1, .inr (6, [.ref t1, .ref sr1, .ref sr2, .ref sr3, .ref sr4, .ref sr5, .ref sr6, .ref sr7, .int dc, .int cc]))] := hD
  refine W.widen (k := 0) (n := 0) (Nat.le_of_ble_eq_true rfl) (Nat.le_of_ble_eq_true rfl) ?_
  refine lv_if_eq (tgt := 17) hx hb dX7_ownerOf_5 (by decide) (fun c_2 => ?_) (fun c_2 => ?_)
  · rw [if_pos c_2] at hm
    refine lv_iconst (v := (-1)) hx hb dX7_ownerOf_17 (by decide) ?_
    obtain rfl := Option.some.inj hm
    have hP9 := hP.sub (ws' := [(s1, .inr (6, [.ref t1, .ref sr1, .ref sr2, .ref sr3, .ref sr4, .ref sr5, .ref sr6, .ref sr7, .int dc, .int cc])), (sr2, .inl (cyA G 0, 16, .inl (sf_owners)))]) [1, 0] rfl
    have hD9 := hD.sub (ws' := [(s1, .inr (6, [.ref t1, .ref sr1, .ref sr2, .ref sr3, .ref sr4, .ref sr5, .ref sr6, .ref sr7, .int dc, .int cc])), (sr2, .inl (cyA G 0, 16, .inl (sf_owners)))]) [1, 0] (by decide) rfl
    refine W.widen (k := 0) (n := 0) (Nat.le_of_ble_eq_true rfl) (Nat.le_of_ble_eq_true rfl) ?_
    exact W.iret (v := (-1)) hx hb hr (fun t ht hW => ⟨⟨(-1), (), rfl, rfl, ⟨by rw [ht]; exact hP9, hD9⟩⟩, hS.F ht⟩) hS.2.2 dX7_ownerOf_18 hlocks
  · rw [if_neg c_2] at hm
    refine lv_aload_n hx hb dX7_ownerOf_8 rfl (lv_at hl 0 rfl) ?_
    refine va_get (D := DG G) (ci := 6) (v := .ref sr2) (C := RX7) (T := TX7) (N := 10) hx hb hts inW_X7 hown hK hP 1 rfl rfl 2 (by decide) (hts _ wm97) (fun _ h9 => h9) rfl dX7_ownerOf_9 ?_
    refine lv_iload_n hx hb dX7_ownerOf_12 rfl (lv_at hl 1 rfl) ?_
    obtain ⟨b_3, hm⟩ := ite_some hm
    refine va_iald hx hb hK hP 0 0 rfl rfl (inb_vp b_3) dX7_ownerOf_13 ?_
    refine lv_goto (tgt := 18) hx hb dX7_ownerOf_14 (by decide) ?_
    obtain rfl := Option.some.inj hm
    have hP9 := hP.sub (ws' := [(s1, .inr (6, [.ref t1, .ref sr1, .ref sr2, .ref sr3, .ref sr4, .ref sr5, .ref sr6, .ref sr7, .int dc, .int cc])), (sr2, .inl (cyA G 0, 16, .inl (sf_owners)))]) [1, 0] rfl
    have hD9 := hD.sub (ws' := [(s1, .inr (6, [.ref t1, .ref sr1, .ref sr2, .ref sr3, .ref sr4, .ref sr5, .ref sr6, .ref sr7, .int dc, .int cc])), (sr2, .inl (cyA G 0, 16, .inl (sf_owners)))]) [1, 0] (by decide) rfl
    refine W.widen (k := 0) (n := 0) (Nat.le_of_ble_eq_true rfl) (Nat.le_of_ble_eq_true rfl) ?_
    exact W.iret (v := (sf_owners (Int32.toNatClampNeg p1))) hx hb hr (fun t ht hW => ⟨⟨(sf_owners (Int32.toNatClampNeg p1)), (), rfl, rfl, ⟨by rw [ht]; exact hP9, hD9⟩⟩, hS.F ht⟩) hS.2.2 dX7_ownerOf_18 hlocks
def f_X7_partsOf  (cc : Int32) (sf_partCounts : Nat → Int32) (p1 : Int32) : Option (Int32) := (Option.bind (f_X7_hasConstructor cc p1) (fun q_1 => (if q_1 = 0 then some (-1) else (if inb p1 16 = true then some ((sf_partCounts (Int32.toNatClampNeg p1))) else none))))
set_option maxHeartbeats 4000000 in
set_option maxRecDepth 100000 in
theorem k_X7_partsOf (l : Launch) (hfl : l.stackTraces = false) (G : GC) (s1 : Nat) (p1 : Int32) (t1 : Nat) (sr1 : Nat) (sr2 : Nat) (sr3 : Nat) (sr4 : Nat) (sr5 : Nat) (sr6 : Nat) (sr7 : Nat) (dc : Int32) (cc : Int32) (sf_partCounts : Nat → Int32) (r9 : Int32) (hm : f_X7_partsOf cc sf_partCounts p1 = some r9) (sz : Nat) : Met l yX7_partsOf (Cond.code yX7_partsOf cX7_partsOf 2 (some .int) :: W0) ({ frames := 1, cells := 0, slots := 0, locals := 21 }) (va_Pc [.ref s1, .int p1] (WD G [(s1, .inr (6, [.ref t1, .ref sr1, .ref sr2, .ref sr3, .ref sr4, .ref sr5, .ref sr6, .ref sr7, .int dc, .int cc])), (sr3, .inl (cyA G 0, 16, .inl (sf_partCounts)))] sz)) (va_Qi (fun (r : Int32) (_ : Unit) => r = r9) (fun _ t => PW G (va_A [(s1, .inr (6, [.ref t1, .ref sr1, .ref sr2, .ref sr3, .ref sr4, .ref sr5, .ref sr6, .ref sr7, .int dc, .int cc])), (sr3, .inl (cyA G 0, 16, .inl (sf_partCounts)))] sz) [(s1, .inr (6, [.ref t1, .ref sr1, .ref sr2, .ref sr3, .ref sr4, .ref sr5, .ref sr6, .ref sr7, .int dc, .int cc])), (sr3, .inl (cyA G 0, 16, .inl (sf_partCounts)))] t) (va_A [(s1, .inr (6, [.ref t1, .ref sr1, .ref sr2, .ref sr3, .ref sr4, .ref sr5, .ref sr6, .ref sr7, .int dc, .int cc])), (sr3, .inl (cyA G 0, 16, .inl (sf_partCounts)))] sz)) 0 0 (va_A [(s1, .inr (6, [.ref t1, .ref sr1, .ref sr2, .ref sr3, .ref sr4, .ref sr5, .ref sr6, .ref sr7, .int dc, .int cc])), (sr3, .inl (cyA G 0, 16, .inl (sf_partCounts)))] sz) := by
  rw [f_X7_partsOf] at hm
  refine Met.ofW (cc := cX7_partsOf) (maxL := 2) (ret := (some .int)) (by decide) rfl ?_
  intro p e s m args below meth c s₁ B hml hv
  obtain ⟨rfl, hsz, hP, hK, hD0, hE⟩ := hv
  have hx := B.exec
  have hb := B.bytes
  have hr := B.returns
  have hts := w0_tail B.pre
  have hown : s.vm.findClass RX7 = some m.cls := findClass_of_methodNamed B.named
  have hlocks := B.notSynchronized
  subst hsz
  have hD := hD0.self (sz := s.heap.size)
  generalize hAe : va_A [(s1, .inr (6, [.ref t1, .ref sr1, .ref sr2, .ref sr3, .ref sr4, .ref sr5, .ref sr6, .ref sr7, .int dc, .int cc])), (sr3, .inl (cyA G 0, 16, .inl (sf_partCounts)))] s.heap.size = A at hD hE ⊢
  have hA : ∀ q : Nat, s.heap.size ≤ q → A q := fun q h => by rw [← hAe]; exact Or.inr h
  have hS : va_S A s.heap s.heap [] := va_S.rf
  obtain ⟨H, hHe⟩ : ∃ H : Heap, H = s.heap := ⟨_, rfl⟩
  have hP : va_P (DG G) clP3 [(s1, .inr (6, [.ref t1, .ref sr1, .ref sr2, .ref sr3, .ref sr4, .ref sr5, .ref sr6, .ref sr7, .int dc, .int cc])), (sr3, .inl (cyA G 0, 16, .inl (sf_partCounts)))] H := by rw [hHe]; exact hP
  have hS : va_S A s.heap H [] := by rw [hHe]; exact hS
  have hl := lv_entry ([.ref s1, .int p1]) (n := 2) (Nat.le_of_ble_eq_true rfl)
  rw [lg_entry_eq, ← hHe]
  generalize (lg_sl ([.ref s1, .int p1]) ++ List.replicate (2 - (lg_sl ([.ref s1, .int p1])).length) Slot.unset).toArray = ls at hl ⊢
  have hl : lv_has ls 2 [(0, .ref s1), (1, .int p1)] := hl
  refine lv_aload_n hx hb dX7_partsOf_0 rfl (lv_at hl 0 rfl) ?_
  refine lv_iload_n hx hb dX7_partsOf_1 rfl (lv_at hl 1 rfl) ?_
  obtain ⟨q_1, hq_1, hm⟩ := bind_some hm
  have hFc := va_free (wc := [(s1, .inr (6, [.ref t1, .ref sr1, .ref sr2, .ref sr3, .ref sr4, .ref sr5, .ref sr6, .ref sr7, .int dc, .int cc]))]) hD hS hA [0] rfl
  refine va_calli (va_runV (As := [.int p1]) (rest := []) ⟨hx, hb, hml, hown, hts⟩ (k_X7_hasConstructor l hfl G s1 p1 t1 sr1 sr2 sr3 sr4 sr5 sr6 sr7 dc cc q_1 hq_1 H.size) (cwV 1 hts (gV wm479 wm480 wm481 wm4 wm482) rfl rfl rfl (by decide +kernel) ⟨Nat.le_of_ble_eq_true rfl, Nat.le_of_ble_eq_true rfl⟩) (pre_v (pre_s hK hP hD hS hE [0] rfl rfl (by decide) hFc) (va_recv hK hP (ci := 6) (q0 := 0) rfl rfl)) rfl rfl hl.1 rfl (lv_room (Nat.le_of_ble_eq_true rfl)) dX7_partsOf_2 ⟨Nat.le_of_ble_eq_true rfl, Nat.le_of_ble_eq_true rfl⟩) hS (fun q _ h => hFc q h) hFc (fun r u t H locs ht hvm hw hB hz1 hk1 hS => ?_)
  rw [show r = q_1 from hw]
  obtain ⟨hP1, hD1⟩ := hB
  rw [ht] at hP1
  obtain ⟨hP, hD⟩ := va_join (wr := [(sr3, .inl (cyA G 0, 16, .inl (sf_partCounts)))]) (w1 := [(s1, .inr (6, [.ref t1, .ref sr1, .ref sr2, .ref sr3, .ref sr4, .ref sr5, .ref sr6, .ref sr7, .int dc, .int cc]))]) hP hD [0] [1] rfl rfl (by decide) (by decide) hk1 hFc hP1 hD1
  have hP : va_P (DG G) clP3 [(sr3, .inl (cyA G 0, 16, .inl (sf_partCounts))), (s1, .inr (6, [.ref t1, .ref sr1, .ref sr2, .ref sr3, .ref sr4, .ref sr5, .ref sr6, .ref sr7, .int dc, .int cc]))] H := hP
  have hD : va_D A [(sr3, .inl (cyA G 0, 16, .inl (sf_partCounts))), (s1, .inr (6, [.ref t1, .ref sr1, .ref sr2, .ref sr3, .ref sr4, .ref sr5, .ref sr6, .ref sr7, .int dc, .int cc]))] := hD
  refine W.widen (k := 0) (n := 0) (Nat.le_of_ble_eq_true rfl) (Nat.le_of_ble_eq_true rfl) ?_
  refine lv_if_eq (tgt := 17) hx hb dX7_partsOf_5 (by decide) (fun c_2 => ?_) (fun c_2 => ?_)
  · rw [if_pos c_2] at hm
    refine lv_iconst (v := (-1)) hx hb dX7_partsOf_17 (by decide) ?_
    obtain rfl := Option.some.inj hm
    have hP9 := hP.sub (ws' := [(s1, .inr (6, [.ref t1, .ref sr1, .ref sr2, .ref sr3, .ref sr4, .ref sr5, .ref sr6, .ref sr7, .int dc, .int cc])), (sr3, .inl (cyA G 0, 16, .inl (sf_partCounts)))]) [1, 0] rfl
    have hD9 := hD.sub (ws' := [(s1, .inr (6, [.ref t1, .ref sr1, .ref sr2, .ref sr3, .ref sr4, .ref sr5, .ref sr6, .ref sr7, .int dc, .int cc])), (sr3, .inl (cyA G 0, 16, .inl (sf_partCounts)))]) [1, 0] (by decide) rfl
    refine W.widen (k := 0) (n := 0) (Nat.le_of_ble_eq_true rfl) (Nat.le_of_ble_eq_true rfl) ?_
    exact W.iret (v := (-1)) hx hb hr (fun t ht hW => ⟨⟨(-1), (), rfl, rfl, ⟨by rw [ht]; exact hP9, hD9⟩⟩, hS.F ht⟩) hS.2.2 dX7_partsOf_18 hlocks
  · rw [if_neg c_2] at hm
    refine lv_aload_n hx hb dX7_partsOf_8 rfl (lv_at hl 0 rfl) ?_
    refine va_get (D := DG G) (ci := 6) (v := .ref sr3) (C := RX7) (T := TX7) (N := 10) hx hb hts inW_X7 hown hK hP 1 rfl rfl 3 (by decide) (hts _ wm98) (fun _ h9 => h9) rfl dX7_partsOf_9 ?_
    refine lv_iload_n hx hb dX7_partsOf_12 rfl (lv_at hl 1 rfl) ?_
    obtain ⟨b_3, hm⟩ := ite_some hm
    refine va_iald hx hb hK hP 0 0 rfl rfl (inb_vp b_3) dX7_partsOf_13 ?_
    refine lv_goto (tgt := 18) hx hb dX7_partsOf_14 (by decide) ?_
    obtain rfl := Option.some.inj hm
    have hP9 := hP.sub (ws' := [(s1, .inr (6, [.ref t1, .ref sr1, .ref sr2, .ref sr3, .ref sr4, .ref sr5, .ref sr6, .ref sr7, .int dc, .int cc])), (sr3, .inl (cyA G 0, 16, .inl (sf_partCounts)))]) [1, 0] rfl
    have hD9 := hD.sub (ws' := [(s1, .inr (6, [.ref t1, .ref sr1, .ref sr2, .ref sr3, .ref sr4, .ref sr5, .ref sr6, .ref sr7, .int dc, .int cc])), (sr3, .inl (cyA G 0, 16, .inl (sf_partCounts)))]) [1, 0] (by decide) rfl
    refine W.widen (k := 0) (n := 0) (Nat.le_of_ble_eq_true rfl) (Nat.le_of_ble_eq_true rfl) ?_
    exact W.iret (v := (sf_partCounts (Int32.toNatClampNeg p1))) hx hb hr (fun t ht hW => ⟨⟨(sf_partCounts (Int32.toNatClampNeg p1)), (), rfl, rfl, ⟨by rw [ht]; exact hP9, hD9⟩⟩, hS.F ht⟩) hS.2.2 dX7_partsOf_18 hlocks
def f_X7_partOf  (cc : Int32) (sf_parts : Nat → Int32) (p1 : Int32) (p2 : Int32) : Option (Int32) := (Option.bind (f_X7_hasConstructor cc p1) (fun q_1 => (if q_1 = 0 then some (-1) else (if p2 < 0 then some (-1) else (if 3 ≤ p2 then some (-1) else (if inb ((p1 * 3) + p2) 48 = true then some ((sf_parts (Int32.toNatClampNeg ((p1 * 3) + p2)))) else none))))))
set_option maxHeartbeats 4000000 in
set_option maxRecDepth 100000 in
theorem k_X7_partOf (l : Launch) (hfl : l.stackTraces = false) (G : GC) (s1 : Nat) (p1 : Int32) (p2 : Int32) (t1 : Nat) (sr1 : Nat) (sr2 : Nat) (sr3 : Nat) (sr4 : Nat) (sr5 : Nat) (sr6 : Nat) (sr7 : Nat) (dc : Int32) (cc : Int32) (sf_parts : Nat → Int32) (r9 : Int32) (hm : f_X7_partOf cc sf_parts p1 p2 = some r9) (sz : Nat) : Met l yX7_partOf (Cond.code yX7_partOf cX7_partOf 3 (some .int) :: W0) ({ frames := 1, cells := 0, slots := 0, locals := 21 }) (va_Pc [.ref s1, .int p1, .int p2] (WD G [(s1, .inr (6, [.ref t1, .ref sr1, .ref sr2, .ref sr3, .ref sr4, .ref sr5, .ref sr6, .ref sr7, .int dc, .int cc])), (sr4, .inl (cyA G 0, 48, .inl (sf_parts)))] sz)) (va_Qi (fun (r : Int32) (_ : Unit) => r = r9) (fun _ t => PW G (va_A [(s1, .inr (6, [.ref t1, .ref sr1, .ref sr2, .ref sr3, .ref sr4, .ref sr5, .ref sr6, .ref sr7, .int dc, .int cc])), (sr4, .inl (cyA G 0, 48, .inl (sf_parts)))] sz) [(s1, .inr (6, [.ref t1, .ref sr1, .ref sr2, .ref sr3, .ref sr4, .ref sr5, .ref sr6, .ref sr7, .int dc, .int cc])), (sr4, .inl (cyA G 0, 48, .inl (sf_parts)))] t) (va_A [(s1, .inr (6, [.ref t1, .ref sr1, .ref sr2, .ref sr3, .ref sr4, .ref sr5, .ref sr6, .ref sr7, .int dc, .int cc])), (sr4, .inl (cyA G 0, 48, .inl (sf_parts)))] sz)) 0 0 (va_A [(s1, .inr (6, [.ref t1, .ref sr1, .ref sr2, .ref sr3, .ref sr4, .ref sr5, .ref sr6, .ref sr7, .int dc, .int cc])), (sr4, .inl (cyA G 0, 48, .inl (sf_parts)))] sz) := by
  rw [f_X7_partOf] at hm
  refine Met.ofW (cc := cX7_partOf) (maxL := 3) (ret := (some .int)) (by decide) rfl ?_
  intro p e s m args below meth c s₁ B hml hv
  obtain ⟨rfl, hsz, hP, hK, hD0, hE⟩ := hv
  have hx := B.exec
  have hb := B.bytes
  have hr := B.returns
  have hts := w0_tail B.pre
  have hown : s.vm.findClass RX7 = some m.cls := findClass_of_methodNamed B.named
  have hlocks := B.notSynchronized
  subst hsz
  have hD := hD0.self (sz := s.heap.size)
  generalize hAe : va_A [(s1, .inr (6, [.ref t1, .ref sr1, .ref sr2, .ref sr3, .ref sr4, .ref sr5, .ref sr6, .ref sr7, .int dc, .int cc])), (sr4, .inl (cyA G 0, 48, .inl (sf_parts)))] s.heap.size = A at hD hE ⊢
  have hA : ∀ q : Nat, s.heap.size ≤ q → A q := fun q h => by rw [← hAe]; exact Or.inr h
  have hS : va_S A s.heap s.heap [] := va_S.rf
  obtain ⟨H, hHe⟩ : ∃ H : Heap, H = s.heap := ⟨_, rfl⟩
  have hP : va_P (DG G) clP3 [(s1, .inr (6, [.ref t1, .ref sr1, .ref sr2, .ref sr3, .ref sr4, .ref sr5, .ref sr6, .ref sr7, .int dc, .int cc])), (sr4, .inl (cyA G 0, 48, .inl (sf_parts)))] H := by rw [hHe]; exact hP
  have hS : va_S A s.heap H [] := by rw [hHe]; exact hS
  have hl := lv_entry ([.ref s1, .int p1, .int p2]) (n := 3) (Nat.le_of_ble_eq_true rfl)
  rw [lg_entry_eq, ← hHe]
  generalize (lg_sl ([.ref s1, .int p1, .int p2]) ++ List.replicate (3 - (lg_sl ([.ref s1, .int p1, .int p2])).length) Slot.unset).toArray = ls at hl ⊢
  have hl : lv_has ls 3 [(0, .ref s1), (1, .int p1), (2, .int p2)] := hl
  refine lv_aload_n hx hb dX7_partOf_0 rfl (lv_at hl 0 rfl) ?_
  refine lv_iload_n hx hb dX7_partOf_1 rfl (lv_at hl 1 rfl) ?_
  obtain ⟨q_1, hq_1, hm⟩ := bind_some hm
  have hFc := va_free (wc := [(s1, .inr (6, [.ref t1, .ref sr1, .ref sr2, .ref sr3, .ref sr4, .ref sr5, .ref sr6, .ref sr7, .int dc, .int cc]))]) hD hS hA [0] rfl
  refine va_calli (va_runV (As := [.int p1]) (rest := []) ⟨hx, hb, hml, hown, hts⟩ (k_X7_hasConstructor l hfl G s1 p1 t1 sr1 sr2 sr3 sr4 sr5 sr6 sr7 dc cc q_1 hq_1 H.size) (cwV 1 hts (gV wm479 wm480 wm481 wm4 wm482) rfl rfl rfl (by decide +kernel) ⟨Nat.le_of_ble_eq_true rfl, Nat.le_of_ble_eq_true rfl⟩) (pre_v (pre_s hK hP hD hS hE [0] rfl rfl (by decide) hFc) (va_recv hK hP (ci := 6) (q0 := 0) rfl rfl)) rfl rfl hl.1 rfl (lv_room (Nat.le_of_ble_eq_true rfl)) dX7_partOf_2 ⟨Nat.le_of_ble_eq_true rfl, Nat.le_of_ble_eq_true rfl⟩) hS (fun q _ h => hFc q h) hFc (fun r u t H locs ht hvm hw hB hz1 hk1 hS => ?_)
  rw [show r = q_1 from hw]
  obtain ⟨hP1, hD1⟩ := hB
  rw [ht] at hP1
  obtain ⟨hP, hD⟩ := va_join (wr := [(sr4, .inl (cyA G 0, 48, .inl (sf_parts)))]) (w1 := [(s1, .inr (6, [.ref t1, .ref sr1, .ref sr2, .ref sr3, .ref sr4, .ref sr5, .ref sr6, .ref sr7, .int dc, .int cc]))]) hP hD [0] [1] rfl rfl (by decide) (by decide) hk1 hFc hP1 hD1
  have hP : va_P (DG G) clP3 [(sr4, .inl (cyA G 0, 48, .inl (sf_parts))), (s1, .inr (6, [.ref t1, .ref sr1, .ref sr2, .ref sr3, .ref sr4, .ref sr5, .ref sr6, .ref sr7, .int dc, .int cc]))] H := hP
  have hD : va_D A [(sr4, .inl (cyA G 0, 48, .inl (sf_parts))), (s1, .inr (6, [.ref t1, .ref sr1, .ref sr2, .ref sr3, .ref sr4, .ref sr5, .ref sr6, .ref sr7, .int dc, .int cc]))] := hD
  refine W.widen (k := 0) (n := 0) (Nat.le_of_ble_eq_true rfl) (Nat.le_of_ble_eq_true rfl) ?_
  refine lv_if_eq (tgt := 30) hx hb dX7_partOf_5 (by decide) (fun c_2 => ?_) (fun c_2 => ?_)
  · rw [if_pos c_2] at hm
    refine lv_iconst (v := (-1)) hx hb dX7_partOf_30 (by decide) ?_
    obtain rfl := Option.some.inj hm
    have hP9 := hP.sub (ws' := [(s1, .inr (6, [.ref t1, .ref sr1, .ref sr2, .ref sr3, .ref sr4, .ref sr5, .ref sr6, .ref sr7, .int dc, .int cc])), (sr4, .inl (cyA G 0, 48, .inl (sf_parts)))]) [1, 0] rfl
    have hD9 := hD.sub (ws' := [(s1, .inr (6, [.ref t1, .ref sr1, .ref sr2, .ref sr3, .ref sr4, .ref sr5, .ref sr6, .ref sr7, .int dc, .int cc])), (sr4, .inl (cyA G 0, 48, .inl (sf_parts)))]) [1, 0] (by decide) rfl
    refine W.widen (k := 0) (n := 0) (Nat.le_of_ble_eq_true rfl) (Nat.le_of_ble_eq_true rfl) ?_
    exact W.iret (v := (-1)) hx hb hr (fun t ht hW => ⟨⟨(-1), (), rfl, rfl, ⟨by rw [ht]; exact hP9, hD9⟩⟩, hS.F ht⟩) hS.2.2 dX7_partOf_31 hlocks
  · rw [if_neg c_2] at hm
    refine lv_iload_n hx hb dX7_partOf_8 rfl (lv_at hl 2 rfl) ?_
    refine lv_if_lt (tgt := 30) hx hb dX7_partOf_9 (by decide) (fun c_3 => ?_) (fun c_3 => ?_)
    · rw [if_pos c_3] at hm
      refine lv_iconst (v := (-1)) hx hb dX7_partOf_30 (by decide) ?_
      obtain rfl := Option.some.inj hm
      have hP9 := hP.sub (ws' := [(s1, .inr (6, [.ref t1, .ref sr1, .ref sr2, .ref sr3, .ref sr4, .ref sr5, .ref sr6, .ref sr7, .int dc, .int cc])), (sr4, .inl (cyA G 0, 48, .inl (sf_parts)))]) [1, 0] rfl
      have hD9 := hD.sub (ws' := [(s1, .inr (6, [.ref t1, .ref sr1, .ref sr2, .ref sr3, .ref sr4, .ref sr5, .ref sr6, .ref sr7, .int dc, .int cc])), (sr4, .inl (cyA G 0, 48, .inl (sf_parts)))]) [1, 0] (by decide) rfl
      refine W.widen (k := 0) (n := 0) (Nat.le_of_ble_eq_true rfl) (Nat.le_of_ble_eq_true rfl) ?_
      exact W.iret (v := (-1)) hx hb hr (fun t ht hW => ⟨⟨(-1), (), rfl, rfl, ⟨by rw [ht]; exact hP9, hD9⟩⟩, hS.F ht⟩) hS.2.2 dX7_partOf_31 hlocks
    · rw [if_neg c_3] at hm
      refine lv_iload_n hx hb dX7_partOf_12 rfl (lv_at hl 2 rfl) ?_
      refine lv_iconst (v := 3) hx hb dX7_partOf_13 (by decide) ?_
      refine lv_icmp_ge (tgt := 30) hx hb dX7_partOf_14 (by decide) (fun c_4 => ?_) (fun c_4 => ?_)
      · rw [if_pos c_4] at hm
        refine lv_iconst (v := (-1)) hx hb dX7_partOf_30 (by decide) ?_
        obtain rfl := Option.some.inj hm
        have hP9 := hP.sub (ws' := [(s1, .inr (6, [.ref t1, .ref sr1, .ref sr2, .ref sr3, .ref sr4, .ref sr5, .ref sr6, .ref sr7, .int dc, .int cc])), (sr4, .inl (cyA G 0, 48, .inl (sf_parts)))]) [1, 0] rfl
        have hD9 := hD.sub (ws' := [(s1, .inr (6, [.ref t1, .ref sr1, .ref sr2, .ref sr3, .ref sr4, .ref sr5, .ref sr6, .ref sr7, .int dc, .int cc])), (sr4, .inl (cyA G 0, 48, .inl (sf_parts)))]) [1, 0] (by decide) rfl
        refine W.widen (k := 0) (n := 0) (Nat.le_of_ble_eq_true rfl) (Nat.le_of_ble_eq_true rfl) ?_
        exact W.iret (v := (-1)) hx hb hr (fun t ht hW => ⟨⟨(-1), (), rfl, rfl, ⟨by rw [ht]; exact hP9, hD9⟩⟩, hS.F ht⟩) hS.2.2 dX7_partOf_31 hlocks
      · rw [if_neg c_4] at hm
        refine lv_aload_n hx hb dX7_partOf_17 rfl (lv_at hl 0 rfl) ?_
        refine va_get (D := DG G) (ci := 6) (v := .ref sr4) (C := RX7) (T := TX7) (N := 10) hx hb hts inW_X7 hown hK hP 1 rfl rfl 4 (by decide) (hts _ wm99) (fun _ h9 => h9) rfl dX7_partOf_18 ?_
        refine lv_iload_n hx hb dX7_partOf_21 rfl (lv_at hl 1 rfl) ?_
        refine lv_iconst (v := 3) hx hb dX7_partOf_22 (by decide) ?_
        refine lv_imul hx hb dX7_partOf_23 ?_
        refine lv_iload_n hx hb dX7_partOf_24 rfl (lv_at hl 2 rfl) ?_
        refine lv_iadd hx hb dX7_partOf_25 ?_
        obtain ⟨b_5, hm⟩ := ite_some hm
        refine va_iald hx hb hK hP 0 0 rfl rfl (inb_vp b_5) dX7_partOf_26 ?_
        refine lv_goto (tgt := 31) hx hb dX7_partOf_27 (by decide) ?_
        obtain rfl := Option.some.inj hm
        have hP9 := hP.sub (ws' := [(s1, .inr (6, [.ref t1, .ref sr1, .ref sr2, .ref sr3, .ref sr4, .ref sr5, .ref sr6, .ref sr7, .int dc, .int cc])), (sr4, .inl (cyA G 0, 48, .inl (sf_parts)))]) [1, 0] rfl
        have hD9 := hD.sub (ws' := [(s1, .inr (6, [.ref t1, .ref sr1, .ref sr2, .ref sr3, .ref sr4, .ref sr5, .ref sr6, .ref sr7, .int dc, .int cc])), (sr4, .inl (cyA G 0, 48, .inl (sf_parts)))]) [1, 0] (by decide) rfl
        refine W.widen (k := 0) (n := 0) (Nat.le_of_ble_eq_true rfl) (Nat.le_of_ble_eq_true rfl) ?_
        exact W.iret (v := (sf_parts (Int32.toNatClampNeg ((p1 * 3) + p2)))) hx hb hr (fun t ht hW => ⟨⟨(sf_parts (Int32.toNatClampNeg ((p1 * 3) + p2))), (), rfl, rfl, ⟨by rw [ht]; exact hP9, hD9⟩⟩, hS.F ht⟩) hS.2.2 dX7_partOf_31 hlocks
def f_X7_typeOfConstructor  (cc : Int32) (sf_types : Nat → Int32) (p1 : Int32) : Option (Int32) := (Option.bind (f_X7_hasConstructor cc p1) (fun q_1 => (if q_1 = 0 then some (-1) else (if inb p1 16 = true then some ((sf_types (Int32.toNatClampNeg p1))) else none))))
set_option maxHeartbeats 4000000 in
set_option maxRecDepth 100000 in
theorem k_X7_typeOfConstructor (l : Launch) (hfl : l.stackTraces = false) (G : GC) (s1 : Nat) (p1 : Int32) (t1 : Nat) (sr1 : Nat) (sr2 : Nat) (sr3 : Nat) (sr4 : Nat) (sr5 : Nat) (sr6 : Nat) (sr7 : Nat) (dc : Int32) (cc : Int32) (sf_types : Nat → Int32) (r9 : Int32) (hm : f_X7_typeOfConstructor cc sf_types p1 = some r9) (sz : Nat) : Met l yX7_typeOfConstructor (Cond.code yX7_typeOfConstructor cX7_typeOfConstructor 2 (some .int) :: W0) ({ frames := 1, cells := 0, slots := 0, locals := 21 }) (va_Pc [.ref s1, .int p1] (WD G [(s1, .inr (6, [.ref t1, .ref sr1, .ref sr2, .ref sr3, .ref sr4, .ref sr5, .ref sr6, .ref sr7, .int dc, .int cc])), (sr5, .inl (cyA G 0, 16, .inl (sf_types)))] sz)) (va_Qi (fun (r : Int32) (_ : Unit) => r = r9) (fun _ t => PW G (va_A [(s1, .inr (6, [.ref t1, .ref sr1, .ref sr2, .ref sr3, .ref sr4, .ref sr5, .ref sr6, .ref sr7, .int dc, .int cc])), (sr5, .inl (cyA G 0, 16, .inl (sf_types)))] sz) [(s1, .inr (6, [.ref t1, .ref sr1, .ref sr2, .ref sr3, .ref sr4, .ref sr5, .ref sr6, .ref sr7, .int dc, .int cc])), (sr5, .inl (cyA G 0, 16, .inl (sf_types)))] t) (va_A [(s1, .inr (6, [.ref t1, .ref sr1, .ref sr2, .ref sr3, .ref sr4, .ref sr5, .ref sr6, .ref sr7, .int dc, .int cc])), (sr5, .inl (cyA G 0, 16, .inl (sf_types)))] sz)) 0 0 (va_A [(s1, .inr (6, [.ref t1, .ref sr1, .ref sr2, .ref sr3, .ref sr4, .ref sr5, .ref sr6, .ref sr7, .int dc, .int cc])), (sr5, .inl (cyA G 0, 16, .inl (sf_types)))] sz) := by
  rw [f_X7_typeOfConstructor] at hm
  refine Met.ofW (cc := cX7_typeOfConstructor) (maxL := 2) (ret := (some .int)) (by decide) rfl ?_
  intro p e s m args below meth c s₁ B hml hv
  obtain ⟨rfl, hsz, hP, hK, hD0, hE⟩ := hv
  have hx := B.exec
  have hb := B.bytes
  have hr := B.returns
  have hts := w0_tail B.pre
  have hown : s.vm.findClass RX7 = some m.cls := findClass_of_methodNamed B.named
  have hlocks := B.notSynchronized
  subst hsz
  have hD := hD0.self (sz := s.heap.size)
  generalize hAe : va_A [(s1, .inr (6, [.ref t1, .ref sr1, .ref sr2, .ref sr3, .ref sr4, .ref sr5, .ref sr6, .ref sr7, .int dc, .int cc])), (sr5, .inl (cyA G 0, 16, .inl (sf_types)))] s.heap.size = A at hD hE ⊢
  have hA : ∀ q : Nat, s.heap.size ≤ q → A q := fun q h => by rw [← hAe]; exact Or.inr h
  have hS : va_S A s.heap s.heap [] := va_S.rf
  obtain ⟨H, hHe⟩ : ∃ H : Heap, H = s.heap := ⟨_, rfl⟩
  have hP : va_P (DG G) clP3 [(s1, .inr (6, [.ref t1, .ref sr1, .ref sr2, .ref sr3, .ref sr4, .ref sr5, .ref sr6, .ref sr7, .int dc, .int cc])), (sr5, .inl (cyA G 0, 16, .inl (sf_types)))] H := by rw [hHe]; exact hP
  have hS : va_S A s.heap H [] := by rw [hHe]; exact hS
  have hl := lv_entry ([.ref s1, .int p1]) (n := 2) (Nat.le_of_ble_eq_true rfl)
  rw [lg_entry_eq, ← hHe]
  generalize (lg_sl ([.ref s1, .int p1]) ++ List.replicate (2 - (lg_sl ([.ref s1, .int p1])).length) Slot.unset).toArray = ls at hl ⊢
  have hl : lv_has ls 2 [(0, .ref s1), (1, .int p1)] := hl
  refine lv_aload_n hx hb dX7_typeOfConstructor_0 rfl (lv_at hl 0 rfl) ?_
  refine lv_iload_n hx hb dX7_typeOfConstructor_1 rfl (lv_at hl 1 rfl) ?_
  obtain ⟨q_1, hq_1, hm⟩ := bind_some hm
  have hFc := va_free (wc := [(s1, .inr (6, [.ref t1, .ref sr1, .ref sr2, .ref sr3, .ref sr4, .ref sr5, .ref sr6, .ref sr7, .int dc, .int cc]))]) hD hS hA [0] rfl
  refine va_calli (va_runV (As := [.int p1]) (rest := []) ⟨hx, hb, hml, hown, hts⟩ (k_X7_hasConstructor l hfl G s1 p1 t1 sr1 sr2 sr3 sr4 sr5 sr6 sr7 dc cc q_1 hq_1 H.size) (cwV 1 hts (gV wm479 wm480 wm481 wm4 wm482) rfl rfl rfl (by decide +kernel) ⟨Nat.le_of_ble_eq_true rfl, Nat.le_of_ble_eq_true rfl⟩) (pre_v (pre_s hK hP hD hS hE [0] rfl rfl (by decide) hFc) (va_recv hK hP (ci := 6) (q0 := 0) rfl rfl)) rfl rfl hl.1 rfl (lv_room (Nat.le_of_ble_eq_true rfl)) dX7_typeOfConstructor_2 ⟨Nat.le_of_ble_eq_true rfl, Nat.le_of_ble_eq_true rfl⟩) hS (fun q _ h => hFc q h) hFc (fun r u t H locs ht hvm hw hB hz1 hk1 hS => ?_)
  rw [show r = q_1 from hw]
  obtain ⟨hP1, hD1⟩ := hB
  rw [ht] at hP1
  obtain ⟨hP, hD⟩ := va_join (wr := [(sr5, .inl (cyA G 0, 16, .inl (sf_types)))]) (w1 := [(s1, .inr (6, [.ref t1, .ref sr1, .ref sr2, .ref sr3, .ref sr4, .ref sr5, .ref sr6, .ref sr7, .int dc, .int cc]))]) hP hD [0] [1] rfl rfl (by decide) (by decide) hk1 hFc hP1 hD1
  have hP : va_P (DG G) clP3 [(sr5, .inl (cyA G 0, 16, .inl (sf_types))), (s1, .inr (6, [.ref t1, .ref sr1, .ref sr2, .ref sr3, .ref sr4, .ref sr5, .ref sr6, .ref sr7, .int dc, .int cc]))] H := hP
  have hD : va_D A [(sr5, .inl (cyA G 0, 16, .inl (sf_types))), (s1, .inr (6, [.ref t1, .ref sr1, .ref sr2, .ref sr3, .ref sr4, .ref sr5, .ref sr6, .ref sr7, .int dc, .int cc]))] := hD
  refine W.widen (k := 0) (n := 0) (Nat.le_of_ble_eq_true rfl) (Nat.le_of_ble_eq_true rfl) ?_
  refine lv_if_eq (tgt := 17) hx hb dX7_typeOfConstructor_5 (by decide) (fun c_2 => ?_) (fun c_2 => ?_)
  · rw [if_pos c_2] at hm
    refine lv_iconst (v := (-1)) hx hb dX7_typeOfConstructor_17 (by decide) ?_
    obtain rfl := Option.some.inj hm
    have hP9 := hP.sub (ws' := [(s1, .inr (6, [.ref t1, .ref sr1, .ref sr2, .ref sr3, .ref sr4, .ref sr5, .ref sr6, .ref sr7, .int dc, .int cc])), (sr5, .inl (cyA G 0, 16, .inl (sf_types)))]) [1, 0] rfl
    have hD9 := hD.sub (ws' := [(s1, .inr (6, [.ref t1, .ref sr1, .ref sr2, .ref sr3, .ref sr4, .ref sr5, .ref sr6, .ref sr7, .int dc, .int cc])), (sr5, .inl (cyA G 0, 16, .inl (sf_types)))]) [1, 0] (by decide) rfl
    refine W.widen (k := 0) (n := 0) (Nat.le_of_ble_eq_true rfl) (Nat.le_of_ble_eq_true rfl) ?_
    exact W.iret (v := (-1)) hx hb hr (fun t ht hW => ⟨⟨(-1), (), rfl, rfl, ⟨by rw [ht]; exact hP9, hD9⟩⟩, hS.F ht⟩) hS.2.2 dX7_typeOfConstructor_18 hlocks
  · rw [if_neg c_2] at hm
    refine lv_aload_n hx hb dX7_typeOfConstructor_8 rfl (lv_at hl 0 rfl) ?_
    refine va_get (D := DG G) (ci := 6) (v := .ref sr5) (C := RX7) (T := TX7) (N := 10) hx hb hts inW_X7 hown hK hP 1 rfl rfl 5 (by decide) (hts _ wm100) (fun _ h9 => h9) rfl dX7_typeOfConstructor_9 ?_
    refine lv_iload_n hx hb dX7_typeOfConstructor_12 rfl (lv_at hl 1 rfl) ?_
    obtain ⟨b_3, hm⟩ := ite_some hm
    refine va_iald hx hb hK hP 0 0 rfl rfl (inb_vp b_3) dX7_typeOfConstructor_13 ?_
    refine lv_goto (tgt := 18) hx hb dX7_typeOfConstructor_14 (by decide) ?_
    obtain rfl := Option.some.inj hm
    have hP9 := hP.sub (ws' := [(s1, .inr (6, [.ref t1, .ref sr1, .ref sr2, .ref sr3, .ref sr4, .ref sr5, .ref sr6, .ref sr7, .int dc, .int cc])), (sr5, .inl (cyA G 0, 16, .inl (sf_types)))]) [1, 0] rfl
    have hD9 := hD.sub (ws' := [(s1, .inr (6, [.ref t1, .ref sr1, .ref sr2, .ref sr3, .ref sr4, .ref sr5, .ref sr6, .ref sr7, .int dc, .int cc])), (sr5, .inl (cyA G 0, 16, .inl (sf_types)))]) [1, 0] (by decide) rfl
    refine W.widen (k := 0) (n := 0) (Nat.le_of_ble_eq_true rfl) (Nat.le_of_ble_eq_true rfl) ?_
    exact W.iret (v := (sf_types (Int32.toNatClampNeg p1))) hx hb hr (fun t ht hW => ⟨⟨(sf_types (Int32.toNatClampNeg p1)), (), rfl, rfl, ⟨by rw [ht]; exact hP9, hD9⟩⟩, hS.F ht⟩) hS.2.2 dX7_typeOfConstructor_18 hlocks
def f_X7_rankOf  (cc : Int32) (sf_ranks : Nat → Int32) (p1 : Int32) : Option (Int32) := (if p1 < 0 then some (-1) else (if cc ≤ p1 then some (-1) else (if inb p1 16 = true then some ((sf_ranks (Int32.toNatClampNeg p1))) else none)))
set_option maxHeartbeats 4000000 in
set_option maxRecDepth 100000 in
theorem k_X7_rankOf (l : Launch) (hfl : l.stackTraces = false) (G : GC) (s1 : Nat) (p1 : Int32) (t1 : Nat) (sr1 : Nat) (sr2 : Nat) (sr3 : Nat) (sr4 : Nat) (sr5 : Nat) (sr6 : Nat) (sr7 : Nat) (dc : Int32) (cc : Int32) (sf_ranks : Nat → Int32) (r9 : Int32) (hm : f_X7_rankOf cc sf_ranks p1 = some r9) (sz : Nat) : Met l yX7_rankOf (Cond.code yX7_rankOf cX7_rankOf 2 (some .int) :: W0) ({ frames := 0, cells := 0, slots := 0, locals := 0 }) (va_Pc [.ref s1, .int p1] (WD G [(s1, .inr (6, [.ref t1, .ref sr1, .ref sr2, .ref sr3, .ref sr4, .ref sr5, .ref sr6, .ref sr7, .int dc, .int cc])), (sr6, .inl (cyA G 0, 16, .inl (sf_ranks)))] sz)) (va_Qi (fun (r : Int32) (_ : Unit) => r = r9) (fun _ t => PW G (va_A [(s1, .inr (6, [.ref t1, .ref sr1, .ref sr2, .ref sr3, .ref sr4, .ref sr5, .ref sr6, .ref sr7, .int dc, .int cc])), (sr6, .inl (cyA G 0, 16, .inl (sf_ranks)))] sz) [(s1, .inr (6, [.ref t1, .ref sr1, .ref sr2, .ref sr3, .ref sr4, .ref sr5, .ref sr6, .ref sr7, .int dc, .int cc])), (sr6, .inl (cyA G 0, 16, .inl (sf_ranks)))] t) (va_A [(s1, .inr (6, [.ref t1, .ref sr1, .ref sr2, .ref sr3, .ref sr4, .ref sr5, .ref sr6, .ref sr7, .int dc, .int cc])), (sr6, .inl (cyA G 0, 16, .inl (sf_ranks)))] sz)) 0 0 (va_A [(s1, .inr (6, [.ref t1, .ref sr1, .ref sr2, .ref sr3, .ref sr4, .ref sr5, .ref sr6, .ref sr7, .int dc, .int cc])), (sr6, .inl (cyA G 0, 16, .inl (sf_ranks)))] sz) := by
  rw [f_X7_rankOf] at hm
  refine Met.ofW (cc := cX7_rankOf) (maxL := 2) (ret := (some .int)) (by decide) rfl ?_
  intro p e s m args below meth c s₁ B hml hv
  obtain ⟨rfl, hsz, hP, hK, hD0, hE⟩ := hv
  have hx := B.exec
  have hb := B.bytes
  have hr := B.returns
  have hts := w0_tail B.pre
  have hown : s.vm.findClass RX7 = some m.cls := findClass_of_methodNamed B.named
  have hlocks := B.notSynchronized
  subst hsz
  have hD := hD0.self (sz := s.heap.size)
  generalize hAe : va_A [(s1, .inr (6, [.ref t1, .ref sr1, .ref sr2, .ref sr3, .ref sr4, .ref sr5, .ref sr6, .ref sr7, .int dc, .int cc])), (sr6, .inl (cyA G 0, 16, .inl (sf_ranks)))] s.heap.size = A at hD hE ⊢
  have hA : ∀ q : Nat, s.heap.size ≤ q → A q := fun q h => by rw [← hAe]; exact Or.inr h
  have hS : va_S A s.heap s.heap [] := va_S.rf
  obtain ⟨H, hHe⟩ : ∃ H : Heap, H = s.heap := ⟨_, rfl⟩
  have hP : va_P (DG G) clP3 [(s1, .inr (6, [.ref t1, .ref sr1, .ref sr2, .ref sr3, .ref sr4, .ref sr5, .ref sr6, .ref sr7, .int dc, .int cc])), (sr6, .inl (cyA G 0, 16, .inl (sf_ranks)))] H := by rw [hHe]; exact hP
  have hS : va_S A s.heap H [] := by rw [hHe]; exact hS
  have hl := lv_entry ([.ref s1, .int p1]) (n := 2) (Nat.le_of_ble_eq_true rfl)
  rw [lg_entry_eq, ← hHe]
  generalize (lg_sl ([.ref s1, .int p1]) ++ List.replicate (2 - (lg_sl ([.ref s1, .int p1])).length) Slot.unset).toArray = ls at hl ⊢
  have hl : lv_has ls 2 [(0, .ref s1), (1, .int p1)] := hl
  refine lv_iload_n hx hb dX7_rankOf_0 rfl (lv_at hl 1 rfl) ?_
  refine lv_if_lt (tgt := 21) hx hb dX7_rankOf_1 (by decide) (fun c_1 => ?_) (fun c_1 => ?_)
  · rw [if_pos c_1] at hm
    refine lv_iconst (v := (-1)) hx hb dX7_rankOf_21 (by decide) ?_
    obtain rfl := Option.some.inj hm
    have hP9 := hP.sub (ws' := [(s1, .inr (6, [.ref t1, .ref sr1, .ref sr2, .ref sr3, .ref sr4, .ref sr5, .ref sr6, .ref sr7, .int dc, .int cc])), (sr6, .inl (cyA G 0, 16, .inl (sf_ranks)))]) [0, 1] rfl
    have hD9 := hD.sub (ws' := [(s1, .inr (6, [.ref t1, .ref sr1, .ref sr2, .ref sr3, .ref sr4, .ref sr5, .ref sr6, .ref sr7, .int dc, .int cc])), (sr6, .inl (cyA G 0, 16, .inl (sf_ranks)))]) [0, 1] (by decide) rfl
    refine W.widen (k := 0) (n := 0) (Nat.le_of_ble_eq_true rfl) (Nat.le_of_ble_eq_true rfl) ?_
    exact W.iret (v := (-1)) hx hb hr (fun t ht hW => ⟨⟨(-1), (), rfl, rfl, ⟨by rw [ht]; exact hP9, hD9⟩⟩, hS.F ht⟩) hS.2.2 dX7_rankOf_22 hlocks
  · rw [if_neg c_1] at hm
    refine lv_iload_n hx hb dX7_rankOf_4 rfl (lv_at hl 1 rfl) ?_
    refine lv_aload_n hx hb dX7_rankOf_5 rfl (lv_at hl 0 rfl) ?_
    refine va_get (D := DG G) (ci := 6) (v := .int cc) (C := RX7) (T := TX7) (N := 10) hx hb hts inW_X7 hown hK hP 0 rfl rfl 9 (by decide) (hts _ wm105) (fun _ h9 => h9) rfl dX7_rankOf_6 ?_
    refine lv_icmp_ge (tgt := 21) hx hb dX7_rankOf_9 (by decide) (fun c_2 => ?_) (fun c_2 => ?_)
    · rw [if_pos c_2] at hm
      refine lv_iconst (v := (-1)) hx hb dX7_rankOf_21 (by decide) ?_
      obtain rfl := Option.some.inj hm
      have hP9 := hP.sub (ws' := [(s1, .inr (6, [.ref t1, .ref sr1, .ref sr2, .ref sr3, .ref sr4, .ref sr5, .ref sr6, .ref sr7, .int dc, .int cc])), (sr6, .inl (cyA G 0, 16, .inl (sf_ranks)))]) [0, 1] rfl
      have hD9 := hD.sub (ws' := [(s1, .inr (6, [.ref t1, .ref sr1, .ref sr2, .ref sr3, .ref sr4, .ref sr5, .ref sr6, .ref sr7, .int dc, .int cc])), (sr6, .inl (cyA G 0, 16, .inl (sf_ranks)))]) [0, 1] (by decide) rfl
      refine W.widen (k := 0) (n := 0) (Nat.le_of_ble_eq_true rfl) (Nat.le_of_ble_eq_true rfl) ?_
      exact W.iret (v := (-1)) hx hb hr (fun t ht hW => ⟨⟨(-1), (), rfl, rfl, ⟨by rw [ht]; exact hP9, hD9⟩⟩, hS.F ht⟩) hS.2.2 dX7_rankOf_22 hlocks
    · rw [if_neg c_2] at hm
      refine lv_aload_n hx hb dX7_rankOf_12 rfl (lv_at hl 0 rfl) ?_
      refine va_get (D := DG G) (ci := 6) (v := .ref sr6) (C := RX7) (T := TX7) (N := 10) hx hb hts inW_X7 hown hK hP 0 rfl rfl 6 (by decide) (hts _ wm101) (fun _ h9 => h9) rfl dX7_rankOf_13 ?_
      refine lv_iload_n hx hb dX7_rankOf_16 rfl (lv_at hl 1 rfl) ?_
      obtain ⟨b_3, hm⟩ := ite_some hm
      refine va_iald hx hb hK hP 1 0 rfl rfl (inb_vp b_3) dX7_rankOf_17 ?_
      refine lv_goto (tgt := 22) hx hb dX7_rankOf_18 (by decide) ?_
      obtain rfl := Option.some.inj hm
      have hP9 := hP.sub (ws' := [(s1, .inr (6, [.ref t1, .ref sr1, .ref sr2, .ref sr3, .ref sr4, .ref sr5, .ref sr6, .ref sr7, .int dc, .int cc])), (sr6, .inl (cyA G 0, 16, .inl (sf_ranks)))]) [0, 1] rfl
      have hD9 := hD.sub (ws' := [(s1, .inr (6, [.ref t1, .ref sr1, .ref sr2, .ref sr3, .ref sr4, .ref sr5, .ref sr6, .ref sr7, .int dc, .int cc])), (sr6, .inl (cyA G 0, 16, .inl (sf_ranks)))]) [0, 1] (by decide) rfl
      refine W.widen (k := 0) (n := 0) (Nat.le_of_ble_eq_true rfl) (Nat.le_of_ble_eq_true rfl) ?_
      exact W.iret (v := (sf_ranks (Int32.toNatClampNeg p1))) hx hb hr (fun t ht hW => ⟨⟨(sf_ranks (Int32.toNatClampNeg p1)), (), rfl, rfl, ⟨by rw [ht]; exact hP9, hD9⟩⟩, hS.F ht⟩) hS.2.2 dX7_rankOf_22 hlocks
def f_X7_constructorsOf  (dc : Int32) (sf_constructorsOfData : Nat → Int32) (p1 : Int32) : Option (Int32) := (Option.bind (f_X7_hasData dc p1) (fun q_1 => (if q_1 = 0 then some 0 else (if inb p1 6 = true then some ((sf_constructorsOfData (Int32.toNatClampNeg p1))) else none))))
set_option maxHeartbeats 4000000 in
set_option maxRecDepth 100000 in
theorem k_X7_constructorsOf (l : Launch) (hfl : l.stackTraces = false) (G : GC) (s1 : Nat) (p1 : Int32) (t1 : Nat) (sr1 : Nat) (sr2 : Nat) (sr3 : Nat) (sr4 : Nat) (sr5 : Nat) (sr6 : Nat) (sr7 : Nat) (dc : Int32) (cc : Int32) (sf_constructorsOfData : Nat → Int32) (r9 : Int32) (hm : f_X7_constructorsOf dc sf_constructorsOfData p1 = some r9) (sz : Nat) : Met l yX7_constructorsOf (Cond.code yX7_constructorsOf cX7_constructorsOf 2 (some .int) :: W0) ({ frames := 1, cells := 0, slots := 0, locals := 21 }) (va_Pc [.ref s1, .int p1] (WD G [(s1, .inr (6, [.ref t1, .ref sr1, .ref sr2, .ref sr3, .ref sr4, .ref sr5, .ref sr6, .ref sr7, .int dc, .int cc])), (sr7, .inl (cyA G 0, 6, .inl (sf_constructorsOfData)))] sz)) (va_Qi (fun (r : Int32) (_ : Unit) => r = r9) (fun _ t => PW G (va_A [(s1, .inr (6, [.ref t1, .ref sr1, .ref sr2, .ref sr3, .ref sr4, .ref sr5, .ref sr6, .ref sr7, .int dc, .int cc])), (sr7, .inl (cyA G 0, 6, .inl (sf_constructorsOfData)))] sz) [(s1, .inr (6, [.ref t1, .ref sr1, .ref sr2, .ref sr3, .ref sr4, .ref sr5, .ref sr6, .ref sr7, .int dc, .int cc])), (sr7, .inl (cyA G 0, 6, .inl (sf_constructorsOfData)))] t) (va_A [(s1, .inr (6, [.ref t1, .ref sr1, .ref sr2, .ref sr3, .ref sr4, .ref sr5, .ref sr6, .ref sr7, .int dc, .int cc])), (sr7, .inl (cyA G 0, 6, .inl (sf_constructorsOfData)))] sz)) 0 0 (va_A [(s1, .inr (6, [.ref t1, .ref sr1, .ref sr2, .ref sr3, .ref sr4, .ref sr5, .ref sr6, .ref sr7, .int dc, .int cc])), (sr7, .inl (cyA G 0, 6, .inl (sf_constructorsOfData)))] sz) := by
  rw [f_X7_constructorsOf] at hm
  refine Met.ofW (cc := cX7_constructorsOf) (maxL := 2) (ret := (some .int)) (by decide) rfl ?_
  intro p e s m args below meth c s₁ B hml hv
  obtain ⟨rfl, hsz, hP, hK, hD0, hE⟩ := hv
  have hx := B.exec
  have hb := B.bytes
  have hr := B.returns
  have hts := w0_tail B.pre
  have hown : s.vm.findClass RX7 = some m.cls := findClass_of_methodNamed B.named
  have hlocks := B.notSynchronized
  subst hsz
  have hD := hD0.self (sz := s.heap.size)
  generalize hAe : va_A [(s1, .inr (6, [.ref t1, .ref sr1, .ref sr2, .ref sr3, .ref sr4, .ref sr5, .ref sr6, .ref sr7, .int dc, .int cc])), (sr7, .inl (cyA G 0, 6, .inl (sf_constructorsOfData)))] s.heap.size = A at hD hE ⊢
  have hA : ∀ q : Nat, s.heap.size ≤ q → A q := fun q h => by rw [← hAe]; exact Or.inr h
  have hS : va_S A s.heap s.heap [] := va_S.rf
  obtain ⟨H, hHe⟩ : ∃ H : Heap, H = s.heap := ⟨_, rfl⟩
  have hP : va_P (DG G) clP3 [(s1, .inr (6, [.ref t1, .ref sr1, .ref sr2, .ref sr3, .ref sr4, .ref sr5, .ref sr6, .ref sr7, .int dc, .int cc])), (sr7, .inl (cyA G 0, 6, .inl (sf_constructorsOfData)))] H := by rw [hHe]; exact hP
  have hS : va_S A s.heap H [] := by rw [hHe]; exact hS
  have hl := lv_entry ([.ref s1, .int p1]) (n := 2) (Nat.le_of_ble_eq_true rfl)
  rw [lg_entry_eq, ← hHe]
  generalize (lg_sl ([.ref s1, .int p1]) ++ List.replicate (2 - (lg_sl ([.ref s1, .int p1])).length) Slot.unset).toArray = ls at hl ⊢
  have hl : lv_has ls 2 [(0, .ref s1), (1, .int p1)] := hl
  refine lv_aload_n hx hb dX7_constructorsOf_0 rfl (lv_at hl 0 rfl) ?_
  refine lv_iload_n hx hb dX7_constructorsOf_1 rfl (lv_at hl 1 rfl) ?_
  obtain ⟨q_1, hq_1, hm⟩ := bind_some hm
  have hFc := va_free (wc := [(s1, .inr (6, [.ref t1, .ref sr1, .ref sr2, .ref sr3, .ref sr4, .ref sr5, .ref sr6, .ref sr7, .int dc, .int cc]))]) hD hS hA [0] rfl
  refine va_calli (va_runV (As := [.int p1]) (rest := []) ⟨hx, hb, hml, hown, hts⟩ (k_X7_hasData l hfl G s1 p1 t1 sr1 sr2 sr3 sr4 sr5 sr6 sr7 dc cc q_1 hq_1 H.size) (cwV 1 hts (gV wm799 wm754 wm755 wm4 wm756) rfl rfl rfl (by decide +kernel) ⟨Nat.le_of_ble_eq_true rfl, Nat.le_of_ble_eq_true rfl⟩) (pre_v (pre_s hK hP hD hS hE [0] rfl rfl (by decide) hFc) (va_recv hK hP (ci := 6) (q0 := 0) rfl rfl)) rfl rfl hl.1 rfl (lv_room (Nat.le_of_ble_eq_true rfl)) dX7_constructorsOf_2 ⟨Nat.le_of_ble_eq_true rfl, Nat.le_of_ble_eq_true rfl⟩) hS (fun q _ h => hFc q h) hFc (fun r u t H locs ht hvm hw hB hz1 hk1 hS => ?_)
  rw [show r = q_1 from hw]
  obtain ⟨hP1, hD1⟩ := hB
  rw [ht] at hP1
  obtain ⟨hP, hD⟩ := va_join (wr := [(sr7, .inl (cyA G 0, 6, .inl (sf_constructorsOfData)))]) (w1 := [(s1, .inr (6, [.ref t1, .ref sr1, .ref sr2, .ref sr3, .ref sr4, .ref sr5, .ref sr6, .ref sr7, .int dc, .int cc]))]) hP hD [0] [1] rfl rfl (by decide) (by decide) hk1 hFc hP1 hD1
  have hP : va_P (DG G) clP3 [(sr7, .inl (cyA G 0, 6, .inl (sf_constructorsOfData))), (s1, .inr (6, [.ref t1, .ref sr1, .ref sr2, .ref sr3, .ref sr4, .ref sr5, .ref sr6, .ref sr7, .int dc, .int cc]))] H := hP
  have hD : va_D A [(sr7, .inl (cyA G 0, 6, .inl (sf_constructorsOfData))), (s1, .inr (6, [.ref t1, .ref sr1, .ref sr2, .ref sr3, .ref sr4, .ref sr5, .ref sr6, .ref sr7, .int dc, .int cc]))] := hD
  refine W.widen (k := 0) (n := 0) (Nat.le_of_ble_eq_true rfl) (Nat.le_of_ble_eq_true rfl) ?_
  refine lv_if_eq (tgt := 17) hx hb dX7_constructorsOf_5 (by decide) (fun c_2 => ?_) (fun c_2 => ?_)
  · rw [if_pos c_2] at hm
    refine lv_iconst (v := 0) hx hb dX7_constructorsOf_17 (by decide) ?_
    obtain rfl := Option.some.inj hm
    have hP9 := hP.sub (ws' := [(s1, .inr (6, [.ref t1, .ref sr1, .ref sr2, .ref sr3, .ref sr4, .ref sr5, .ref sr6, .ref sr7, .int dc, .int cc])), (sr7, .inl (cyA G 0, 6, .inl (sf_constructorsOfData)))]) [1, 0] rfl
    have hD9 := hD.sub (ws' := [(s1, .inr (6, [.ref t1, .ref sr1, .ref sr2, .ref sr3, .ref sr4, .ref sr5, .ref sr6, .ref sr7, .int dc, .int cc])), (sr7, .inl (cyA G 0, 6, .inl (sf_constructorsOfData)))]) [1, 0] (by decide) rfl
    refine W.widen (k := 0) (n := 0) (Nat.le_of_ble_eq_true rfl) (Nat.le_of_ble_eq_true rfl) ?_
    exact W.iret (v := 0) hx hb hr (fun t ht hW => ⟨⟨0, (), rfl, rfl, ⟨by rw [ht]; exact hP9, hD9⟩⟩, hS.F ht⟩) hS.2.2 dX7_constructorsOf_18 hlocks
  · rw [if_neg c_2] at hm
    refine lv_aload_n hx hb dX7_constructorsOf_8 rfl (lv_at hl 0 rfl) ?_
    refine va_get (D := DG G) (ci := 6) (v := .ref sr7) (C := RX7) (T := TX7) (N := 10) hx hb hts inW_X7 hown hK hP 1 rfl rfl 7 (by decide) (hts _ wm102) (fun _ h9 => h9) rfl dX7_constructorsOf_9 ?_
    refine lv_iload_n hx hb dX7_constructorsOf_12 rfl (lv_at hl 1 rfl) ?_
    obtain ⟨b_3, hm⟩ := ite_some hm
    refine va_iald hx hb hK hP 0 0 rfl rfl (inb_vp b_3) dX7_constructorsOf_13 ?_
    refine lv_goto (tgt := 18) hx hb dX7_constructorsOf_14 (by decide) ?_
    obtain rfl := Option.some.inj hm
    have hP9 := hP.sub (ws' := [(s1, .inr (6, [.ref t1, .ref sr1, .ref sr2, .ref sr3, .ref sr4, .ref sr5, .ref sr6, .ref sr7, .int dc, .int cc])), (sr7, .inl (cyA G 0, 6, .inl (sf_constructorsOfData)))]) [1, 0] rfl
    have hD9 := hD.sub (ws' := [(s1, .inr (6, [.ref t1, .ref sr1, .ref sr2, .ref sr3, .ref sr4, .ref sr5, .ref sr6, .ref sr7, .int dc, .int cc])), (sr7, .inl (cyA G 0, 6, .inl (sf_constructorsOfData)))]) [1, 0] (by decide) rfl
    refine W.widen (k := 0) (n := 0) (Nat.le_of_ble_eq_true rfl) (Nat.le_of_ble_eq_true rfl) ?_
    exact W.iret (v := (sf_constructorsOfData (Int32.toNatClampNeg p1))) hx hb hr (fun t ht hW => ⟨⟨(sf_constructorsOfData (Int32.toNatClampNeg p1)), (), rfl, rfl, ⟨by rw [ht]; exact hP9, hD9⟩⟩, hS.F ht⟩) hS.2.2 dX7_constructorsOf_18 hlocks
def f_X7_enterConstructor_L84 : Nat → (Int32) → (Nat → Int32) → (Nat → Int32) → (Nat → Int32) → (Nat → Int32) → (Nat → Int32) → (Nat → Int32) → (Int32) → (Nat → Int32) → (Nat → Int32) → (Nat → Int32) → (Nat → Int32) → (Nat → Int32) → (Nat → Int32) → (Nat → Int32) → (Nat → Int32) → (Int32) → (Int32) → (Int32) → (Int32) → Option (Int32 × Int32 × (Nat → Int32) × (Nat → Int32) × (Nat → Int32) × (Nat → Int32) × (Nat → Int32) × (Nat → Int32) × Int32 × (Nat → Int32) × (Nat → Int32) × (Nat → Int32) × (Nat → Int32) × (Nat → Int32) × (Nat → Int32) × (Nat → Int32) × (Nat → Int32))
  | 0, _, _, _, _, _, _, _, _, _, _, _, _, _, _, _, _, _, _, _, _ => none
  | n + 1, cc, sf_owners, sf_partCounts, sf_parts, sf_types, sf_ranks, sf_constructorsOfData, mm, tf0, tf1, tf2, tf3, tf4, tf5, tf6, tf7, v1, v6, v7, v8 => (if v8 < 0 then (if inb v6 16 = true then (if inb v1 6 = true then (if inb v6 16 = true then (if inb v1 6 = true then (if inb v1 6 = true then some (v6, cc, sf_owners, sf_partCounts, sf_parts, upd sf_types (Int32.toNatClampNeg v6) v7, upd sf_ranks (Int32.toNatClampNeg v6) (sf_constructorsOfData (Int32.toNatClampNeg v1)), upd sf_constructorsOfData (Int32.toNatClampNeg v1) ((sf_constructorsOfData (Int32.toNatClampNeg v1)) + 1), mm, tf0, tf1, tf2, tf3, tf4, tf5, tf6, tf7) else none) else none) else none) else none) else none) else (if inb ((v6 * 3) + v8) 48 = true then (Option.bind (f_X9_leaf mm tf0 tf1 tf2 tf3 tf4 tf5 tf6 tf7 2 (sf_parts (Int32.toNatClampNeg ((v6 * 3) + v8)))) (fun q_14 => (Option.bind (f_X9_pair q_14.2.1 q_14.2.2.1 q_14.2.2.2.1 q_14.2.2.2.2.1 q_14.2.2.2.2.2.1 q_14.2.2.2.2.2.2.1 q_14.2.2.2.2.2.2.2.1 q_14.2.2.2.2.2.2.2.2.1 q_14.2.2.2.2.2.2.2.2.2 5 q_14.1 v7) (fun q_15 => (f_X7_enterConstructor_L84 n cc sf_owners sf_partCounts sf_parts sf_types sf_ranks sf_constructorsOfData q_15.2.1 q_15.2.2.1 q_15.2.2.2.1 q_15.2.2.2.2.1 q_15.2.2.2.2.2.1 q_15.2.2.2.2.2.2.1 q_15.2.2.2.2.2.2.2.1 q_15.2.2.2.2.2.2.2.2.1 q_15.2.2.2.2.2.2.2.2.2 v1 v6 q_15.1 (v8 + (-1))))))) else none))
def f_X7_enterConstructor  (cc : Int32) (sf_owners : Nat → Int32) (sf_partCounts : Nat → Int32) (sf_parts : Nat → Int32) (sf_types : Nat → Int32) (sf_ranks : Nat → Int32) (sf_constructorsOfData : Nat → Int32) (mm : Int32) (tf0 : Nat → Int32) (tf1 : Nat → Int32) (tf2 : Nat → Int32) (tf3 : Nat → Int32) (tf4 : Nat → Int32) (tf5 : Nat → Int32) (tf6 : Nat → Int32) (tf7 : Nat → Int32) (p1 : Int32) (p2 : Int32) (p3 : Int32) (p4 : Int32) (p5 : Int32) : Option (Int32 × Int32 × (Nat → Int32) × (Nat → Int32) × (Nat → Int32) × (Nat → Int32) × (Nat → Int32) × (Nat → Int32) × Int32 × (Nat → Int32) × (Nat → Int32) × (Nat → Int32) × (Nat → Int32) × (Nat → Int32) × (Nat → Int32) × (Nat → Int32) × (Nat → Int32)) := (if inb cc 16 = true then (if inb cc 16 = true then (if inb (cc * 3) 48 = true then (if inb ((cc * 3) + 1) 48 = true then (if inb ((cc * 3) + 2) 48 = true then (Option.bind (f_X9_leaf mm tf0 tf1 tf2 tf3 tf4 tf5 tf6 tf7 2 p1) (fun q_6 => (f_X7_enterConstructor_L84 100000 (cc + 1) (upd sf_owners (Int32.toNatClampNeg cc) p1) (upd sf_partCounts (Int32.toNatClampNeg cc) p2) (upd (upd (upd sf_parts (Int32.toNatClampNeg (cc * 3)) p3) (Int32.toNatClampNeg ((cc * 3) + 1)) p4) (Int32.toNatClampNeg ((cc * 3) + 2)) p5) sf_types sf_ranks sf_constructorsOfData q_6.2.1 q_6.2.2.1 q_6.2.2.2.1 q_6.2.2.2.2.1 q_6.2.2.2.2.2.1 q_6.2.2.2.2.2.2.1 q_6.2.2.2.2.2.2.2.1 q_6.2.2.2.2.2.2.2.2.1 q_6.2.2.2.2.2.2.2.2.2 p1 cc q_6.1 (p2 - 1)))) else none) else none) else none) else none) else none)
set_option maxHeartbeats 4000000 in
set_option maxRecDepth 100000 in
theorem kl_X7_enterConstructor_84 {l : Launch} (hfl : l.stackTraces = false) {G : GC} {s1 : Nat} {t1 : Nat} {sr1 : Nat} {sr2 : Nat} {sr3 : Nat} {sr4 : Nat} {sr5 : Nat} {sr6 : Nat} {sr7 : Nat} {ta0 : Nat} {ta1 : Nat} {ta2 : Nat} {ta3 : Nat} {ta4 : Nat} {ta5 : Nat} {ta6 : Nat} {ta7 : Nat} {ta8 : Nat} {dc : Int32} {A : Nat → Prop} {p : Program} {e : Env} {s : State} {m : MethodId} {args : Array Value} {below : List Frame} {meth : Method} {c : Code} (hx : p.tables.exec = Jvm.exec) (hb : c.code = cX7_enterConstructor) (hr : meth.sig.returnType = (some .int)) (hml : c.maxLocals = 9) (hown : s.vm.findClass RX7 = some m.cls) (hts : ∀ w ∈ W0, w.before args s = true) (hlocks : meth.locks = false) (hA : ∀ q : Nat, s.heap.size ≤ q → A q) (hE : EV G A s s.heap) (hK : va_K (DG G) clP3 (TY G) s) (r9 : Int32) (cc_9 : Int32) (sf_owners_9 : Nat → Int32) (sf_partCounts_9 : Nat → Int32) (sf_parts_9 : Nat → Int32) (sf_types_9 : Nat → Int32) (sf_ranks_9 : Nat → Int32) (sf_constructorsOfData_9 : Nat → Int32) (mm_9 : Int32) (tf0_9 : Nat → Int32) (tf1_9 : Nat → Int32) (tf2_9 : Nat → Int32) (tf3_9 : Nat → Int32) (tf4_9 : Nat → Int32) (tf5_9 : Nat → Int32) (tf6_9 : Nat → Int32) (tf7_9 : Nat → Int32) : ∀ (n : Nat) (cc : Int32) (sf_owners : Nat → Int32) (sf_partCounts : Nat → Int32) (sf_parts : Nat → Int32) (sf_types : Nat → Int32) (sf_ranks : Nat → Int32) (sf_constructorsOfData : Nat → Int32) (mm : Int32) (tf0 : Nat → Int32) (tf1 : Nat → Int32) (tf2 : Nat → Int32) (tf3 : Nat → Int32) (tf4 : Nat → Int32) (tf5 : Nat → Int32) (tf6 : Nat → Int32) (tf7 : Nat → Int32) (v1 : Int32) (v6 : Int32) (v7 : Int32) (v8 : Int32) (H : Heap) (locs : List Loc), va_P (DG G) clP3 [(s1, .inr (6, [.ref t1, .ref sr1, .ref sr2, .ref sr3, .ref sr4, .ref sr5, .ref sr6, .ref sr7, .int dc, .int cc])), (sr2, .inl (cyA G 0, 16, .inl (sf_owners))), (sr3, .inl (cyA G 0, 16, .inl (sf_partCounts))), (sr4, .inl (cyA G 0, 48, .inl (sf_parts))), (sr5, .inl (cyA G 0, 16, .inl (sf_types))), (sr6, .inl (cyA G 0, 16, .inl (sf_ranks))), (sr7, .inl (cyA G 0, 6, .inl (sf_constructorsOfData))), (t1, .inr (8, [.ref ta0, .ref ta1, .ref ta2, .ref ta3, .ref ta4, .ref ta5, .ref ta6, .ref ta7, .ref ta8, .int mm])), (ta0, .inl (cyA G 0, 32768, .inl (tf0))), (ta1, .inl (cyA G 0, 32768, .inl (tf1))), (ta2, .inl (cyA G 0, 32768, .inl (tf2))), (ta3, .inl (cyA G 0, 32768, .inl (tf3))), (ta4, .inl (cyA G 0, 32768, .inl (tf4))), (ta5, .inl (cyA G 0, 32768, .inl (tf5))), (ta6, .inl (cyA G 0, 32768, .inl (tf6))), (ta7, .inl (cyA G 1, 32768, .inl (tf7)))] H → va_D A [(s1, .inr (6, [.ref t1, .ref sr1, .ref sr2, .ref sr3, .ref sr4, .ref sr5, .ref sr6, .ref sr7, .int dc, .int cc])), (sr2, .inl (cyA G 0, 16, .inl (sf_owners))), (sr3, .inl (cyA G 0, 16, .inl (sf_partCounts))), (sr4, .inl (cyA G 0, 48, .inl (sf_parts))), (sr5, .inl (cyA G 0, 16, .inl (sf_types))), (sr6, .inl (cyA G 0, 16, .inl (sf_ranks))), (sr7, .inl (cyA G 0, 6, .inl (sf_constructorsOfData))), (t1, .inr (8, [.ref ta0, .ref ta1, .ref ta2, .ref ta3, .ref ta4, .ref ta5, .ref ta6, .ref ta7, .ref ta8, .int mm])), (ta0, .inl (cyA G 0, 32768, .inl (tf0))), (ta1, .inl (cyA G 0, 32768, .inl (tf1))), (ta2, .inl (cyA G 0, 32768, .inl (tf2))), (ta3, .inl (cyA G 0, 32768, .inl (tf3))), (ta4, .inl (cyA G 0, 32768, .inl (tf4))), (ta5, .inl (cyA G 0, 32768, .inl (tf5))), (ta6, .inl (cyA G 0, 32768, .inl (tf6))), (ta7, .inl (cyA G 1, 32768, .inl (tf7)))] → va_S A s.heap H locs → ∀ (ls : Array Slot), lv_has ls 9 [(0, .ref s1), (1, .int v1), (6, .int v6), (7, .int v7), (8, .int v8)] → f_X7_enterConstructor_L84 n cc sf_owners sf_partCounts sf_parts sf_types sf_ranks sf_constructorsOfData mm tf0 tf1 tf2 tf3 tf4 tf5 tf6 tf7 v1 v6 v7 v8 = some (r9, cc_9, sf_owners_9, sf_partCounts_9, sf_parts_9, sf_types_9, sf_ranks_9, sf_constructorsOfData_9, mm_9, tf0_9, tf1_9, tf2_9, tf3_9, tf4_9, tf5_9, tf6_9, tf7_9) → W p l e ({ frames := 2, cells := 0, slots := 0, locals := 40 }) s m args below meth c H locs 0 0 (MQ below (va_Qi (fun (r : Int32) (_ : Unit) => r = r9) (fun _ t => PW G A [(s1, .inr (6, [.ref t1, .ref sr1, .ref sr2, .ref sr3, .ref sr4, .ref sr5, .ref sr6, .ref sr7, .int dc, .int cc_9])), (sr2, .inl (cyA G 0, 16, .inl (sf_owners_9))), (sr3, .inl (cyA G 0, 16, .inl (sf_partCounts_9))), (sr4, .inl (cyA G 0, 48, .inl (sf_parts_9))), (sr5, .inl (cyA G 0, 16, .inl (sf_types_9))), (sr6, .inl (cyA G 0, 16, .inl (sf_ranks_9))), (sr7, .inl (cyA G 0, 6, .inl (sf_constructorsOfData_9))), (t1, .inr (8, [.ref ta0, .ref ta1, .ref ta2, .ref ta3, .ref ta4, .ref ta5, .ref ta6, .ref ta7, .ref ta8, .int mm_9])), (ta0, .inl (cyA G 0, 32768, .inl (tf0_9))), (ta1, .inl (cyA G 0, 32768, .inl (tf1_9))), (ta2, .inl (cyA G 0, 32768, .inl (tf2_9))), (ta3, .inl (cyA G 0, 32768, .inl (tf3_9))), (ta4, .inl (cyA G 0, 32768, .inl (tf4_9))), (ta5, .inl (cyA G 0, 32768, .inl (tf5_9))), (ta6, .inl (cyA G 0, 32768, .inl (tf6_9))), (ta7, .inl (cyA G 1, 32768, .inl (tf7_9)))] t) A) args s 0 0 A) (F0 m 84 ls []) := by
  intro n
  induction n with
  | zero =>
    intro cc sf_owners sf_partCounts sf_parts sf_types sf_ranks sf_constructorsOfData mm tf0 tf1 tf2 tf3 tf4 tf5 tf6 tf7 v1 v6 v7 v8 H locs hP hD hS ls hl hm
    rw [f_X7_enterConstructor_L84] at hm
    cases hm
  | succ n ih =>
    intro cc sf_owners sf_partCounts sf_parts sf_types sf_ranks sf_constructorsOfData mm tf0 tf1 tf2 tf3 tf4 tf5 tf6 tf7 v1 v6 v7 v8 H locs hP hD hS ls hl hm
    rw [f_X7_enterConstructor_L84] at hm
    refine lv_iload hx hb dX7_enterConstructor_84 (lv_at hl 4 rfl) ?_
    refine lv_if_lt (tgt := 127) hx hb dX7_enterConstructor_86 (by decide) (fun c_7 => ?_) (fun c_7 => ?_)
    · rw [if_pos c_7] at hm
      refine lv_aload_n hx hb dX7_enterConstructor_127 rfl (lv_at hl 0 rfl) ?_
      refine va_get (D := DG G) (ci := 6) (v := .ref sr5) (C := RX7) (T := TX7) (N := 10) hx hb hts inW_X7 hown hK hP 0 rfl rfl 5 (by decide) (hts _ wm100) (fun _ h9 => h9) rfl dX7_enterConstructor_128 ?_
      refine lv_iload hx hb dX7_enterConstructor_131 (lv_at hl 2 rfl) ?_
      refine lv_iload hx hb dX7_enterConstructor_133 (lv_at hl 3 rfl) ?_
      obtain ⟨b_8, hm⟩ := ite_some hm
      refine va_iast hx hb hK hP hD hS 4 0 rfl rfl (inb_vp b_8) dX7_enterConstructor_135 (fun H locs hP hD hS => ?_)
      have hP : va_P (DG G) clP3 [(s1, .inr (6, [.ref t1, .ref sr1, .ref sr2, .ref sr3, .ref sr4, .ref sr5, .ref sr6, .ref sr7, .int dc, .int cc])), (sr2, .inl (cyA G 0, 16, .inl (sf_owners))), (sr3, .inl (cyA G 0, 16, .inl (sf_partCounts))), (sr4, .inl (cyA G 0, 48, .inl (sf_parts))), (sr5, .inl (cyA G 0, 16, .inl (upd sf_types (Int32.toNatClampNeg v6) v7))), (sr6, .inl (cyA G 0, 16, .inl (sf_ranks))), (sr7, .inl (cyA G 0, 6, .inl (sf_constructorsOfData))), (t1, .inr (8, [.ref ta0, .ref ta1, .ref ta2, .ref ta3, .ref ta4, .ref ta5, .ref ta6, .ref ta7, .ref ta8, .int mm])), (ta0, .inl (cyA G 0, 32768, .inl (tf0))), (ta1, .inl (cyA G 0, 32768, .inl (tf1))), (ta2, .inl (cyA G 0, 32768, .inl (tf2))), (ta3, .inl (cyA G 0, 32768, .inl (tf3))), (ta4, .inl (cyA G 0, 32768, .inl (tf4))), (ta5, .inl (cyA G 0, 32768, .inl (tf5))), (ta6, .inl (cyA G 0, 32768, .inl (tf6))), (ta7, .inl (cyA G 1, 32768, .inl (tf7)))] H := hP
      have hD : va_D A [(s1, .inr (6, [.ref t1, .ref sr1, .ref sr2, .ref sr3, .ref sr4, .ref sr5, .ref sr6, .ref sr7, .int dc, .int cc])), (sr2, .inl (cyA G 0, 16, .inl (sf_owners))), (sr3, .inl (cyA G 0, 16, .inl (sf_partCounts))), (sr4, .inl (cyA G 0, 48, .inl (sf_parts))), (sr5, .inl (cyA G 0, 16, .inl (upd sf_types (Int32.toNatClampNeg v6) v7))), (sr6, .inl (cyA G 0, 16, .inl (sf_ranks))), (sr7, .inl (cyA G 0, 6, .inl (sf_constructorsOfData))), (t1, .inr (8, [.ref ta0, .ref ta1, .ref ta2, .ref ta3, .ref ta4, .ref ta5, .ref ta6, .ref ta7, .ref ta8, .int mm])), (ta0, .inl (cyA G 0, 32768, .inl (tf0))), (ta1, .inl (cyA G 0, 32768, .inl (tf1))), (ta2, .inl (cyA G 0, 32768, .inl (tf2))), (ta3, .inl (cyA G 0, 32768, .inl (tf3))), (ta4, .inl (cyA G 0, 32768, .inl (tf4))), (ta5, .inl (cyA G 0, 32768, .inl (tf5))), (ta6, .inl (cyA G 0, 32768, .inl (tf6))), (ta7, .inl (cyA G 1, 32768, .inl (tf7)))] := hD
      refine lv_aload_n hx hb dX7_enterConstructor_136 rfl (lv_at hl 0 rfl) ?_
      refine va_get (D := DG G) (ci := 6) (v := .ref sr6) (C := RX7) (T := TX7) (N := 10) hx hb hts inW_X7 hown hK hP 0 rfl rfl 6 (by decide) (hts _ wm101) (fun _ h9 => h9) rfl dX7_enterConstructor_137 ?_
      refine lv_iload hx hb dX7_enterConstructor_140 (lv_at hl 2 rfl) ?_
      refine lv_aload_n hx hb dX7_enterConstructor_142 rfl (lv_at hl 0 rfl) ?_
      refine va_get (D := DG G) (ci := 6) (v := .ref sr7) (C := RX7) (T := TX7) (N := 10) hx hb hts inW_X7 hown hK hP 0 rfl rfl 7 (by decide) (hts _ wm102) (fun _ h9 => h9) rfl dX7_enterConstructor_143 ?_
      refine lv_iload_n hx hb dX7_enterConstructor_146 rfl (lv_at hl 1 rfl) ?_
      obtain ⟨b_9, hm⟩ := ite_some hm
      refine va_iald hx hb hK hP 6 0 rfl rfl (inb_vp b_9) dX7_enterConstructor_147 ?_
      obtain ⟨b_10, hm⟩ := ite_some hm
      refine va_iast hx hb hK hP hD hS 5 0 rfl rfl (inb_vp b_10) dX7_enterConstructor_148 (fun H locs hP hD hS => ?_)
      have hP : va_P (DG G) clP3 [(s1, .inr (6, [.ref t1, .ref sr1, .ref sr2, .ref sr3, .ref sr4, .ref sr5, .ref sr6, .ref sr7, .int dc, .int cc])), (sr2, .inl (cyA G 0, 16, .inl (sf_owners))), (sr3, .inl (cyA G 0, 16, .inl (sf_partCounts))), (sr4, .inl (cyA G 0, 48, .inl (sf_parts))), (sr5, .inl (cyA G 0, 16, .inl (upd sf_types (Int32.toNatClampNeg v6) v7))), (sr6, .inl (cyA G 0, 16, .inl (upd sf_ranks (Int32.toNatClampNeg v6) (sf_constructorsOfData (Int32.toNatClampNeg v1))))), (sr7, .inl (cyA G 0, 6, .inl (sf_constructorsOfData))), (t1, .inr (8, [.ref ta0, .ref ta1, .ref ta2, .ref ta3, .ref ta4, .ref ta5, .ref ta6, .ref ta7, .ref ta8, .int mm])), (ta0, .inl (cyA G 0, 32768, .inl (tf0))), (ta1, .inl (cyA G 0, 32768, .inl (tf1))), (ta2, .inl (cyA G 0, 32768, .inl (tf2))), (ta3, .inl (cyA G 0, 32768, .inl (tf3))), (ta4, .inl (cyA G 0, 32768, .inl (tf4))), (ta5, .inl (cyA G 0, 32768, .inl (tf5))), (ta6, .inl (cyA G 0, 32768, .inl (tf6))), (ta7, .inl (cyA G 1, 32768, .inl (tf7)))] H := hP
      have hD : va_D A [(s1, .inr (6, [.ref t1, .ref sr1, .ref sr2, .ref sr3, .ref sr4, .ref sr5, .ref sr6, .ref sr7, .int dc, .int cc])), (sr2, .inl (cyA G 0, 16, .inl (sf_owners))), (sr3, .inl (cyA G 0, 16, .inl (sf_partCounts))), (sr4, .inl (cyA G 0, 48, .inl (sf_parts))), (sr5, .inl (cyA G 0, 16, .inl (upd sf_types (Int32.toNatClampNeg v6) v7))), (sr6, .inl (cyA G 0, 16, .inl (upd sf_ranks (Int32.toNatClampNeg v6) (sf_constructorsOfData (Int32.toNatClampNeg v1))))), (sr7, .inl (cyA G 0, 6, .inl (sf_constructorsOfData))), (t1, .inr (8, [.ref ta0, .ref ta1, .ref ta2, .ref ta3, .ref ta4, .ref ta5, .ref ta6, .ref ta7, .ref ta8, .int mm])), (ta0, .inl (cyA G 0, 32768, .inl (tf0))), (ta1, .inl (cyA G 0, 32768, .inl (tf1))), (ta2, .inl (cyA G 0, 32768, .inl (tf2))), (ta3, .inl (cyA G 0, 32768, .inl (tf3))), (ta4, .inl (cyA G 0, 32768, .inl (tf4))), (ta5, .inl (cyA G 0, 32768, .inl (tf5))), (ta6, .inl (cyA G 0, 32768, .inl (tf6))), (ta7, .inl (cyA G 1, 32768, .inl (tf7)))] := hD
      refine lv_aload_n hx hb dX7_enterConstructor_149 rfl (lv_at hl 0 rfl) ?_
      refine va_get (D := DG G) (ci := 6) (v := .ref sr7) (C := RX7) (T := TX7) (N := 10) hx hb hts inW_X7 hown hK hP 0 rfl rfl 7 (by decide) (hts _ wm102) (fun _ h9 => h9) rfl dX7_enterConstructor_150 ?_
      refine lv_iload_n hx hb dX7_enterConstructor_153 rfl (lv_at hl 1 rfl) ?_
      refine lv_dup2_11 hx hb dX7_enterConstructor_154 rfl rfl ?_
      obtain ⟨b_11, hm⟩ := ite_some hm
      refine va_iald hx hb hK hP 6 0 rfl rfl (inb_vp b_11) dX7_enterConstructor_155 ?_
      refine lv_iconst (v := 1) hx hb dX7_enterConstructor_156 (by decide) ?_
      refine lv_iadd hx hb dX7_enterConstructor_157 ?_
      obtain ⟨b_12, hm⟩ := ite_some hm
      refine va_iast hx hb hK hP hD hS 6 0 rfl rfl (inb_vp b_12) dX7_enterConstructor_158 (fun H locs hP hD hS => ?_)
      have hP : va_P (DG G) clP3 [(s1, .inr (6, [.ref t1, .ref sr1, .ref sr2, .ref sr3, .ref sr4, .ref sr5, .ref sr6, .ref sr7, .int dc, .int cc])), (sr2, .inl (cyA G 0, 16, .inl (sf_owners))), (sr3, .inl (cyA G 0, 16, .inl (sf_partCounts))), (sr4, .inl (cyA G 0, 48, .inl (sf_parts))), (sr5, .inl (cyA G 0, 16, .inl (upd sf_types (Int32.toNatClampNeg v6) v7))), (sr6, .inl (cyA G 0, 16, .inl (upd sf_ranks (Int32.toNatClampNeg v6) (sf_constructorsOfData (Int32.toNatClampNeg v1))))), (sr7, .inl (cyA G 0, 6, .inl (upd sf_constructorsOfData (Int32.toNatClampNeg v1) ((sf_constructorsOfData (Int32.toNatClampNeg v1)) + 1)))), (t1, .inr (8, [.ref ta0, .ref ta1, .ref ta2, .ref ta3, .ref ta4, .ref ta5, .ref ta6, .ref ta7, .ref ta8, .int mm])), (ta0, .inl (cyA G 0, 32768, .inl (tf0))), (ta1, .inl (cyA G 0, 32768, .inl (tf1))), (ta2, .inl (cyA G 0, 32768, .inl (tf2))), (ta3, .inl (cyA G 0, 32768, .inl (tf3))), (ta4, .inl (cyA G 0, 32768, .inl (tf4))), (ta5, .inl (cyA G 0, 32768, .inl (tf5))), (ta6, .inl (cyA G 0, 32768, .inl (tf6))), (ta7, .inl (cyA G 1, 32768, .inl (tf7)))] H := hP
      have hD : va_D A [(s1, .inr (6, [.ref t1, .ref sr1, .ref sr2, .ref sr3, .ref sr4, .ref sr5, .ref sr6, .ref sr7, .int dc, .int cc])), (sr2, .inl (cyA G 0, 16, .inl (sf_owners))), (sr3, .inl (cyA G 0, 16, .inl (sf_partCounts))), (sr4, .inl (cyA G 0, 48, .inl (sf_parts))), (sr5, .inl (cyA G 0, 16, .inl (upd sf_types (Int32.toNatClampNeg v6) v7))), (sr6, .inl (cyA G 0, 16, .inl (upd sf_ranks (Int32.toNatClampNeg v6) (sf_constructorsOfData (Int32.toNatClampNeg v1))))), (sr7, .inl (cyA G 0, 6, .inl (upd sf_constructorsOfData (Int32.toNatClampNeg v1) ((sf_constructorsOfData (Int32.toNatClampNeg v1)) + 1)))), (t1, .inr (8, [.ref ta0, .ref ta1, .ref ta2, .ref ta3, .ref ta4, .ref ta5, .ref ta6, .ref ta7, .ref ta8, .int mm])), (ta0, .inl (cyA G 0, 32768, .inl (tf0))), (ta1, .inl (cyA G 0, 32768, .inl (tf1))), (ta2, .inl (cyA G 0, 32768, .inl (tf2))), (ta3, .inl (cyA G 0, 32768, .inl (tf3))), (ta4, .inl (cyA G 0, 32768, .inl (tf4))), (ta5, .inl (cyA G 0, 32768, .inl (tf5))), (ta6, .inl (cyA G 0, 32768, .inl (tf6))), (ta7, .inl (cyA G 1, 32768, .inl (tf7)))] := hD
      refine lv_iload hx hb dX7_enterConstructor_159 (lv_at hl 2 rfl) ?_
      simp only [Option.some.injEq, Prod.mk.injEq] at hm
      obtain ⟨rfl, rfl, rfl, rfl, rfl, rfl, rfl, rfl, rfl, rfl, rfl, rfl, rfl, rfl, rfl, rfl, rfl⟩ := hm
      have hP9 := hP.sub (ws' := [(s1, .inr (6, [.ref t1, .ref sr1, .ref sr2, .ref sr3, .ref sr4, .ref sr5, .ref sr6, .ref sr7, .int dc, .int cc])), (sr2, .inl (cyA G 0, 16, .inl (sf_owners))), (sr3, .inl (cyA G 0, 16, .inl (sf_partCounts))), (sr4, .inl (cyA G 0, 48, .inl (sf_parts))), (sr5, .inl (cyA G 0, 16, .inl (upd sf_types (Int32.toNatClampNeg v6) v7))), (sr6, .inl (cyA G 0, 16, .inl (upd sf_ranks (Int32.toNatClampNeg v6) (sf_constructorsOfData (Int32.toNatClampNeg v1))))), (sr7, .inl (cyA G 0, 6, .inl (upd sf_constructorsOfData (Int32.toNatClampNeg v1) ((sf_constructorsOfData (Int32.toNatClampNeg v1)) + 1)))), (t1, .inr (8, [.ref ta0, .ref ta1, .ref ta2, .ref ta3, .ref ta4, .ref ta5, .ref ta6, .ref ta7, .ref ta8, .int mm])), (ta0, .inl (cyA G 0, 32768, .inl (tf0))), (ta1, .inl (cyA G 0, 32768, .inl (tf1))), (ta2, .inl (cyA G 0, 32768, .inl (tf2))), (ta3, .inl (cyA G 0, 32768, .inl (tf3))), (ta4, .inl (cyA G 0, 32768, .inl (tf4))), (ta5, .inl (cyA G 0, 32768, .inl (tf5))), (ta6, .inl (cyA G 0, 32768, .inl (tf6))), (ta7, .inl (cyA G 1, 32768, .inl (tf7)))]) [0, 1, 2, 3, 4, 5, 6, 7, 8, 9, 10, 11, 12, 13, 14, 15] rfl
      have hD9 := hD.sub (ws' := [(s1, .inr (6, [.ref t1, .ref sr1, .ref sr2, .ref sr3, .ref sr4, .ref sr5, .ref sr6, .ref sr7, .int dc, .int cc])), (sr2, .inl (cyA G 0, 16, .inl (sf_owners))), (sr3, .inl (cyA G 0, 16, .inl (sf_partCounts))), (sr4, .inl (cyA G 0, 48, .inl (sf_parts))), (sr5, .inl (cyA G 0, 16, .inl (upd sf_types (Int32.toNatClampNeg v6) v7))), (sr6, .inl (cyA G 0, 16, .inl (upd sf_ranks (Int32.toNatClampNeg v6) (sf_constructorsOfData (Int32.toNatClampNeg v1))))), (sr7, .inl (cyA G 0, 6, .inl (upd sf_constructorsOfData (Int32.toNatClampNeg v1) ((sf_constructorsOfData (Int32.toNatClampNeg v1)) + 1)))), (t1, .inr (8, [.ref ta0, .ref ta1, .ref ta2, .ref ta3, .ref ta4, .ref ta5, .ref ta6, .ref ta7, .ref ta8, .int mm])), (ta0, .inl (cyA G 0, 32768, .inl (tf0))), (ta1, .inl (cyA G 0, 32768, .inl (tf1))), (ta2, .inl (cyA G 0, 32768, .inl (tf2))), (ta3, .inl (cyA G 0, 32768, .inl (tf3))), (ta4, .inl (cyA G 0, 32768, .inl (tf4))), (ta5, .inl (cyA G 0, 32768, .inl (tf5))), (ta6, .inl (cyA G 0, 32768, .inl (tf6))), (ta7, .inl (cyA G 1, 32768, .inl (tf7)))]) [0, 1, 2, 3, 4, 5, 6, 7, 8, 9, 10, 11, 12, 13, 14, 15] (by decide) rfl
      refine W.widen (k := 0) (n := 0) (Nat.le_of_ble_eq_true rfl) (Nat.le_of_ble_eq_true rfl) ?_
      exact W.iret (v := v6) hx hb hr (fun t ht hW => ⟨⟨v6, (), rfl, rfl, ⟨by rw [ht]; exact hP9, hD9⟩⟩, hS.F ht⟩) hS.2.2 dX7_enterConstructor_161 hlocks
    · rw [if_neg c_7] at hm
      refine lv_aload_n hx hb dX7_enterConstructor_89 rfl (lv_at hl 0 rfl) ?_
      refine va_get (D := DG G) (ci := 6) (v := .ref t1) (C := RX7) (T := TX7) (N := 10) hx hb hts inW_X7 hown hK hP 0 rfl rfl 0 (by decide) (hts _ wm95) (fun _ h9 => h9) rfl dX7_enterConstructor_90 ?_
      refine lv_iconst (v := 5) hx hb dX7_enterConstructor_93 (by decide) ?_
      refine lv_aload_n hx hb dX7_enterConstructor_94 rfl (lv_at hl 0 rfl) ?_
      refine va_get (D := DG G) (ci := 6) (v := .ref t1) (C := RX7) (T := TX7) (N := 10) hx hb hts inW_X7 hown hK hP 0 rfl rfl 0 (by decide) (hts _ wm95) (fun _ h9 => h9) rfl dX7_enterConstructor_95 ?_
      refine lv_iconst (v := 2) hx hb dX7_enterConstructor_98 (by decide) ?_
      refine lv_aload_n hx hb dX7_enterConstructor_99 rfl (lv_at hl 0 rfl) ?_
      refine va_get (D := DG G) (ci := 6) (v := .ref sr4) (C := RX7) (T := TX7) (N := 10) hx hb hts inW_X7 hown hK hP 0 rfl rfl 4 (by decide) (hts _ wm99) (fun _ h9 => h9) rfl dX7_enterConstructor_100 ?_
      refine lv_iload hx hb dX7_enterConstructor_103 (lv_at hl 2 rfl) ?_
      refine lv_iconst (v := 3) hx hb dX7_enterConstructor_105 (by decide) ?_
      refine lv_imul hx hb dX7_enterConstructor_106 ?_
      refine lv_iload hx hb dX7_enterConstructor_107 (lv_at hl 4 rfl) ?_
      refine lv_iadd hx hb dX7_enterConstructor_109 ?_
      obtain ⟨b_13, hm⟩ := ite_some hm
      refine va_iald hx hb hK hP 3 0 rfl rfl (inb_vp b_13) dX7_enterConstructor_110 ?_
      obtain ⟨q_14, hq_14, hm⟩ := bind_some hm
      have hFc := va_free (wc := [(t1, .inr (8, [.ref ta0, .ref ta1, .ref ta2, .ref ta3, .ref ta4, .ref ta5, .ref ta6, .ref ta7, .ref ta8, .int mm])), (ta0, .inl (cyA G 0, 32768, .inl (tf0))), (ta1, .inl (cyA G 0, 32768, .inl (tf1))), (ta2, .inl (cyA G 0, 32768, .inl (tf2))), (ta3, .inl (cyA G 0, 32768, .inl (tf3))), (ta4, .inl (cyA G 0, 32768, .inl (tf4))), (ta5, .inl (cyA G 0, 32768, .inl (tf5))), (ta6, .inl (cyA G 0, 32768, .inl (tf6))), (ta7, .inl (cyA G 1, 32768, .inl (tf7)))]) hD hS hA [7, 8, 9, 10, 11, 12, 13, 14, 15] rfl
      refine va_calli (va_runV (As := [.int 2, .int (sf_parts (Int32.toNatClampNeg ((v6 * 3) + v8)))]) (rest := [.int 5, .ref t1]) ⟨hx, hb, hml, hown, hts⟩ (k_X9_leaf l hfl G t1 2 (sf_parts (Int32.toNatClampNeg ((v6 * 3) + v8))) ta0 ta1 ta2 ta3 ta4 ta5 ta6 ta7 ta8 mm tf0 tf1 tf2 tf3 tf4 tf5 tf6 tf7 q_14.1 q_14.2.1 q_14.2.2.1 q_14.2.2.2.1 q_14.2.2.2.2.1 q_14.2.2.2.2.2.1 q_14.2.2.2.2.2.2.1 q_14.2.2.2.2.2.2.2.1 q_14.2.2.2.2.2.2.2.2.1 q_14.2.2.2.2.2.2.2.2.2 hq_14 H.size) (cwV 2 hts (gV wm805 wm439 wm440 wm2 wm441) rfl rfl rfl (by decide +kernel) ⟨Nat.le_of_ble_eq_true rfl, Nat.le_of_ble_eq_true rfl⟩) (pre_v (pre_s hK hP hD hS hE [7, 8, 9, 10, 11, 12, 13, 14, 15] rfl rfl (by decide) hFc) (va_recv hK hP (ci := 8) (q0 := 7) rfl rfl)) rfl rfl hl.1 rfl (lv_room (Nat.le_of_ble_eq_true rfl)) dX7_enterConstructor_111 ⟨Nat.le_of_ble_eq_true rfl, Nat.le_of_ble_eq_true rfl⟩) hS (fun q _ h => hFc q h) hFc (fun r u t H locs ht hvm hw hB hz1 hk1 hS => ?_)
      rw [show r = q_14.1 from hw]
      obtain ⟨hP1, hD1⟩ := hB
      rw [ht] at hP1
      obtain ⟨hP, hD⟩ := va_join (wr := [(s1, .inr (6, [.ref t1, .ref sr1, .ref sr2, .ref sr3, .ref sr4, .ref sr5, .ref sr6, .ref sr7, .int dc, .int cc])), (sr2, .inl (cyA G 0, 16, .inl (sf_owners))), (sr3, .inl (cyA G 0, 16, .inl (sf_partCounts))), (sr4, .inl (cyA G 0, 48, .inl (sf_parts))), (sr5, .inl (cyA G 0, 16, .inl (sf_types))), (sr6, .inl (cyA G 0, 16, .inl (sf_ranks))), (sr7, .inl (cyA G 0, 6, .inl (sf_constructorsOfData)))]) (w1 := [(t1, .inr (8, [.ref ta0, .ref ta1, .ref ta2, .ref ta3, .ref ta4, .ref ta5, .ref ta6, .ref ta7, .ref ta8, .int q_14.2.1])), (ta0, .inl (cyA G 0, 32768, .inl (q_14.2.2.1))), (ta1, .inl (cyA G 0, 32768, .inl (q_14.2.2.2.1))), (ta2, .inl (cyA G 0, 32768, .inl (q_14.2.2.2.2.1))), (ta3, .inl (cyA G 0, 32768, .inl (q_14.2.2.2.2.2.1))), (ta4, .inl (cyA G 0, 32768, .inl (q_14.2.2.2.2.2.2.1))), (ta5, .inl (cyA G 0, 32768, .inl (q_14.2.2.2.2.2.2.2.1))), (ta6, .inl (cyA G 0, 32768, .inl (q_14.2.2.2.2.2.2.2.2.1))), (ta7, .inl (cyA G 1, 32768, .inl (q_14.2.2.2.2.2.2.2.2.2)))]) hP hD [7, 8, 9, 10, 11, 12, 13, 14, 15] [0, 1, 2, 3, 4, 5, 6] rfl rfl (by decide) (by decide) hk1 hFc hP1 hD1
      have hP : va_P (DG G) clP3 [(s1, .inr (6, [.ref t1, .ref sr1, .ref sr2, .ref sr3, .ref sr4, .ref sr5, .ref sr6, .ref sr7, .int dc, .int cc])), (sr2, .inl (cyA G 0, 16, .inl (sf_owners))), (sr3, .inl (cyA G 0, 16, .inl (sf_partCounts))), (sr4, .inl (cyA G 0, 48, .inl (sf_parts))), (sr5, .inl (cyA G 0, 16, .inl (sf_types))), (sr6, .inl (cyA G 0, 16, .inl (sf_ranks))), (sr7, .inl (cyA G 0, 6, .inl (sf_constructorsOfData))), (t1, .inr (8, [.ref ta0, .ref ta1, .ref ta2, .ref ta3, .ref ta4, .ref ta5, .ref ta6, .ref ta7, .ref ta8, .int q_14.2.1])), (ta0, .inl (cyA G 0, 32768, .inl (q_14.2.2.1))), (ta1, .inl (cyA G 0, 32768, .inl (q_14.2.2.2.1))), (ta2, .inl (cyA G 0, 32768, .inl (q_14.2.2.2.2.1))), (ta3, .inl (cyA G 0, 32768, .inl (q_14.2.2.2.2.2.1))), (ta4, .inl (cyA G 0, 32768, .inl (q_14.2.2.2.2.2.2.1))), (ta5, .inl (cyA G 0, 32768, .inl (q_14.2.2.2.2.2.2.2.1))), (ta6, .inl (cyA G 0, 32768, .inl (q_14.2.2.2.2.2.2.2.2.1))), (ta7, .inl (cyA G 1, 32768, .inl (q_14.2.2.2.2.2.2.2.2.2)))] H := hP
      have hD : va_D A [(s1, .inr (6, [.ref t1, .ref sr1, .ref sr2, .ref sr3, .ref sr4, .ref sr5, .ref sr6, .ref sr7, .int dc, .int cc])), (sr2, .inl (cyA G 0, 16, .inl (sf_owners))), (sr3, .inl (cyA G 0, 16, .inl (sf_partCounts))), (sr4, .inl (cyA G 0, 48, .inl (sf_parts))), (sr5, .inl (cyA G 0, 16, .inl (sf_types))), (sr6, .inl (cyA G 0, 16, .inl (sf_ranks))), (sr7, .inl (cyA G 0, 6, .inl (sf_constructorsOfData))), (t1, .inr (8, [.ref ta0, .ref ta1, .ref ta2, .ref ta3, .ref ta4, .ref ta5, .ref ta6, .ref ta7, .ref ta8, .int q_14.2.1])), (ta0, .inl (cyA G 0, 32768, .inl (q_14.2.2.1))), (ta1, .inl (cyA G 0, 32768, .inl (q_14.2.2.2.1))), (ta2, .inl (cyA G 0, 32768, .inl (q_14.2.2.2.2.1))), (ta3, .inl (cyA G 0, 32768, .inl (q_14.2.2.2.2.2.1))), (ta4, .inl (cyA G 0, 32768, .inl (q_14.2.2.2.2.2.2.1))), (ta5, .inl (cyA G 0, 32768, .inl (q_14.2.2.2.2.2.2.2.1))), (ta6, .inl (cyA G 0, 32768, .inl (q_14.2.2.2.2.2.2.2.2.1))), (ta7, .inl (cyA G 1, 32768, .inl (q_14.2.2.2.2.2.2.2.2.2)))] := hD
      refine W.widen (k := 0) (n := 0) (Nat.le_of_ble_eq_true rfl) (Nat.le_of_ble_eq_true rfl) ?_
      refine lv_iload hx hb dX7_enterConstructor_114 (lv_at hl 3 rfl) ?_
      obtain ⟨q_15, hq_15, hm⟩ := bind_some hm
      have hFc := va_free (wc := [(t1, .inr (8, [.ref ta0, .ref ta1, .ref ta2, .ref ta3, .ref ta4, .ref ta5, .ref ta6, .ref ta7, .ref ta8, .int q_14.2.1])), (ta0, .inl (cyA G 0, 32768, .inl (q_14.2.2.1))), (ta1, .inl (cyA G 0, 32768, .inl (q_14.2.2.2.1))), (ta2, .inl (cyA G 0, 32768, .inl (q_14.2.2.2.2.1))), (ta3, .inl (cyA G 0, 32768, .inl (q_14.2.2.2.2.2.1))), (ta4, .inl (cyA G 0, 32768, .inl (q_14.2.2.2.2.2.2.1))), (ta5, .inl (cyA G 0, 32768, .inl (q_14.2.2.2.2.2.2.2.1))), (ta6, .inl (cyA G 0, 32768, .inl (q_14.2.2.2.2.2.2.2.2.1))), (ta7, .inl (cyA G 1, 32768, .inl (q_14.2.2.2.2.2.2.2.2.2)))]) hD hS hA [7, 8, 9, 10, 11, 12, 13, 14, 15] rfl
      refine va_calli (va_runV (As := [.int 5, .int q_14.1, .int v7]) (rest := []) ⟨hx, hb, hml, hown, hts⟩ (k_X9_pair l hfl G t1 5 q_14.1 v7 ta0 ta1 ta2 ta3 ta4 ta5 ta6 ta7 ta8 q_14.2.1 q_14.2.2.1 q_14.2.2.2.1 q_14.2.2.2.2.1 q_14.2.2.2.2.2.1 q_14.2.2.2.2.2.2.1 q_14.2.2.2.2.2.2.2.1 q_14.2.2.2.2.2.2.2.2.1 q_14.2.2.2.2.2.2.2.2.2 q_15.1 q_15.2.1 q_15.2.2.1 q_15.2.2.2.1 q_15.2.2.2.2.1 q_15.2.2.2.2.2.1 q_15.2.2.2.2.2.2.1 q_15.2.2.2.2.2.2.2.1 q_15.2.2.2.2.2.2.2.2.1 q_15.2.2.2.2.2.2.2.2.2 hq_15 H.size) (cwV 3 hts (gV wm806 wm464 wm465 wm2 wm466) rfl rfl rfl (by decide +kernel) ⟨Nat.le_of_ble_eq_true rfl, Nat.le_of_ble_eq_true rfl⟩) (pre_v (pre_s hK hP hD hS hE [7, 8, 9, 10, 11, 12, 13, 14, 15] rfl rfl (by decide) hFc) (va_recv hK hP (ci := 8) (q0 := 7) rfl rfl)) rfl rfl hl.1 rfl (lv_room (Nat.le_of_ble_eq_true rfl)) dX7_enterConstructor_116 ⟨Nat.le_of_ble_eq_true rfl, Nat.le_of_ble_eq_true rfl⟩) hS (fun q _ h => hFc q h) hFc (fun r u t H locs ht hvm hw hB hz1 hk1 hS => ?_)
      rw [show r = q_15.1 from hw]
      obtain ⟨hP1, hD1⟩ := hB
      rw [ht] at hP1
      obtain ⟨hP, hD⟩ := va_join (wr := [(s1, .inr (6, [.ref t1, .ref sr1, .ref sr2, .ref sr3, .ref sr4, .ref sr5, .ref sr6, .ref sr7, .int dc, .int cc])), (sr2, .inl (cyA G 0, 16, .inl (sf_owners))), (sr3, .inl (cyA G 0, 16, .inl (sf_partCounts))), (sr4, .inl (cyA G 0, 48, .inl (sf_parts))), (sr5, .inl (cyA G 0, 16, .inl (sf_types))), (sr6, .inl (cyA G 0, 16, .inl (sf_ranks))), (sr7, .inl (cyA G 0, 6, .inl (sf_constructorsOfData)))]) (w1 := [(t1, .inr (8, [.ref ta0, .ref ta1, .ref ta2, .ref ta3, .ref ta4, .ref ta5, .ref ta6, .ref ta7, .ref ta8, .int q_15.2.1])), (ta0, .inl (cyA G 0, 32768, .inl (q_15.2.2.1))), (ta1, .inl (cyA G 0, 32768, .inl (q_15.2.2.2.1))), (ta2, .inl (cyA G 0, 32768, .inl (q_15.2.2.2.2.1))), (ta3, .inl (cyA G 0, 32768, .inl (q_15.2.2.2.2.2.1))), (ta4, .inl (cyA G 0, 32768, .inl (q_15.2.2.2.2.2.2.1))), (ta5, .inl (cyA G 0, 32768, .inl (q_15.2.2.2.2.2.2.2.1))), (ta6, .inl (cyA G 0, 32768, .inl (q_15.2.2.2.2.2.2.2.2.1))), (ta7, .inl (cyA G 1, 32768, .inl (q_15.2.2.2.2.2.2.2.2.2)))]) hP hD [7, 8, 9, 10, 11, 12, 13, 14, 15] [0, 1, 2, 3, 4, 5, 6] rfl rfl (by decide) (by decide) hk1 hFc hP1 hD1
      have hP : va_P (DG G) clP3 [(s1, .inr (6, [.ref t1, .ref sr1, .ref sr2, .ref sr3, .ref sr4, .ref sr5, .ref sr6, .ref sr7, .int dc, .int cc])), (sr2, .inl (cyA G 0, 16, .inl (sf_owners))), (sr3, .inl (cyA G 0, 16, .inl (sf_partCounts))), (sr4, .inl (cyA G 0, 48, .inl (sf_parts))), (sr5, .inl (cyA G 0, 16, .inl (sf_types))), (sr6, .inl (cyA G 0, 16, .inl (sf_ranks))), (sr7, .inl (cyA G 0, 6, .inl (sf_constructorsOfData))), (t1, .inr (8, [.ref ta0, .ref ta1, .ref ta2, .ref ta3, .ref ta4, .ref ta5, .ref ta6, .ref ta7, .ref ta8, .int q_15.2.1])), (ta0, .inl (cyA G 0, 32768, .inl (q_15.2.2.1))), (ta1, .inl (cyA G 0, 32768, .inl (q_15.2.2.2.1))), (ta2, .inl (cyA G 0, 32768, .inl (q_15.2.2.2.2.1))), (ta3, .inl (cyA G 0, 32768, .inl (q_15.2.2.2.2.2.1))), (ta4, .inl (cyA G 0, 32768, .inl (q_15.2.2.2.2.2.2.1))), (ta5, .inl (cyA G 0, 32768, .inl (q_15.2.2.2.2.2.2.2.1))), (ta6, .inl (cyA G 0, 32768, .inl (q_15.2.2.2.2.2.2.2.2.1))), (ta7, .inl (cyA G 1, 32768, .inl (q_15.2.2.2.2.2.2.2.2.2)))] H := hP
      have hD : va_D A [(s1, .inr (6, [.ref t1, .ref sr1, .ref sr2, .ref sr3, .ref sr4, .ref sr5, .ref sr6, .ref sr7, .int dc, .int cc])), (sr2, .inl (cyA G 0, 16, .inl (sf_owners))), (sr3, .inl (cyA G 0, 16, .inl (sf_partCounts))), (sr4, .inl (cyA G 0, 48, .inl (sf_parts))), (sr5, .inl (cyA G 0, 16, .inl (sf_types))), (sr6, .inl (cyA G 0, 16, .inl (sf_ranks))), (sr7, .inl (cyA G 0, 6, .inl (sf_constructorsOfData))), (t1, .inr (8, [.ref ta0, .ref ta1, .ref ta2, .ref ta3, .ref ta4, .ref ta5, .ref ta6, .ref ta7, .ref ta8, .int q_15.2.1])), (ta0, .inl (cyA G 0, 32768, .inl (q_15.2.2.1))), (ta1, .inl (cyA G 0, 32768, .inl (q_15.2.2.2.1))), (ta2, .inl (cyA G 0, 32768, .inl (q_15.2.2.2.2.1))), (ta3, .inl (cyA G 0, 32768, .inl (q_15.2.2.2.2.2.1))), (ta4, .inl (cyA G 0, 32768, .inl (q_15.2.2.2.2.2.2.1))), (ta5, .inl (cyA G 0, 32768, .inl (q_15.2.2.2.2.2.2.2.1))), (ta6, .inl (cyA G 0, 32768, .inl (q_15.2.2.2.2.2.2.2.2.1))), (ta7, .inl (cyA G 1, 32768, .inl (q_15.2.2.2.2.2.2.2.2.2)))] := hD
      refine W.widen (k := 0) (n := 0) (Nat.le_of_ble_eq_true rfl) (Nat.le_of_ble_eq_true rfl) ?_
      refine lv_istore (lv' := [(7, .int q_15.1), (0, .ref s1), (1, .int v1), (6, .int v6), (8, .int v8)]) hx hb dX7_enterConstructor_119 hl (by decide) rfl (fun ls hl => ?_)
      refine lv_iinc (v := (v8 + (-1))) (lv' := [(8, .int (v8 + (-1))), (7, .int q_15.1), (0, .ref s1), (1, .int v1), (6, .int v6)]) hx hb dX7_enterConstructor_121 hl (k := 4) rfl rfl (by decide) rfl (fun ls hl => ?_)
      refine lv_goto (tgt := 84) hx hb dX7_enterConstructor_124 (by decide) ?_
      have hP9 := hP.sub (ws' := [(s1, .inr (6, [.ref t1, .ref sr1, .ref sr2, .ref sr3, .ref sr4, .ref sr5, .ref sr6, .ref sr7, .int dc, .int cc])), (sr2, .inl (cyA G 0, 16, .inl (sf_owners))), (sr3, .inl (cyA G 0, 16, .inl (sf_partCounts))), (sr4, .inl (cyA G 0, 48, .inl (sf_parts))), (sr5, .inl (cyA G 0, 16, .inl (sf_types))), (sr6, .inl (cyA G 0, 16, .inl (sf_ranks))), (sr7, .inl (cyA G 0, 6, .inl (sf_constructorsOfData))), (t1, .inr (8, [.ref ta0, .ref ta1, .ref ta2, .ref ta3, .ref ta4, .ref ta5, .ref ta6, .ref ta7, .ref ta8, .int q_15.2.1])), (ta0, .inl (cyA G 0, 32768, .inl (q_15.2.2.1))), (ta1, .inl (cyA G 0, 32768, .inl (q_15.2.2.2.1))), (ta2, .inl (cyA G 0, 32768, .inl (q_15.2.2.2.2.1))), (ta3, .inl (cyA G 0, 32768, .inl (q_15.2.2.2.2.2.1))), (ta4, .inl (cyA G 0, 32768, .inl (q_15.2.2.2.2.2.2.1))), (ta5, .inl (cyA G 0, 32768, .inl (q_15.2.2.2.2.2.2.2.1))), (ta6, .inl (cyA G 0, 32768, .inl (q_15.2.2.2.2.2.2.2.2.1))), (ta7, .inl (cyA G 1, 32768, .inl (q_15.2.2.2.2.2.2.2.2.2)))]) [0, 1, 2, 3, 4, 5, 6, 7, 8, 9, 10, 11, 12, 13, 14, 15] rfl
      have hD9 := hD.sub (ws' := [(s1, .inr (6, [.ref t1, .ref sr1, .ref sr2, .ref sr3, .ref sr4, .ref sr5, .ref sr6, .ref sr7, .int dc, .int cc])), (sr2, .inl (cyA G 0, 16, .inl (sf_owners))), (sr3, .inl (cyA G 0, 16, .inl (sf_partCounts))), (sr4, .inl (cyA G 0, 48, .inl (sf_parts))), (sr5, .inl (cyA G 0, 16, .inl (sf_types))), (sr6, .inl (cyA G 0, 16, .inl (sf_ranks))), (sr7, .inl (cyA G 0, 6, .inl (sf_constructorsOfData))), (t1, .inr (8, [.ref ta0, .ref ta1, .ref ta2, .ref ta3, .ref ta4, .ref ta5, .ref ta6, .ref ta7, .ref ta8, .int q_15.2.1])), (ta0, .inl (cyA G 0, 32768, .inl (q_15.2.2.1))), (ta1, .inl (cyA G 0, 32768, .inl (q_15.2.2.2.1))), (ta2, .inl (cyA G 0, 32768, .inl (q_15.2.2.2.2.1))), (ta3, .inl (cyA G 0, 32768, .inl (q_15.2.2.2.2.2.1))), (ta4, .inl (cyA G 0, 32768, .inl (q_15.2.2.2.2.2.2.1))), (ta5, .inl (cyA G 0, 32768, .inl (q_15.2.2.2.2.2.2.2.1))), (ta6, .inl (cyA G 0, 32768, .inl (q_15.2.2.2.2.2.2.2.2.1))), (ta7, .inl (cyA G 1, 32768, .inl (q_15.2.2.2.2.2.2.2.2.2)))]) [0, 1, 2, 3, 4, 5, 6, 7, 8, 9, 10, 11, 12, 13, 14, 15] (by decide) rfl
      refine W.widen (k := 0) (n := 0) (Nat.le_of_ble_eq_true rfl) (Nat.le_of_ble_eq_true rfl) ?_
      exact ih cc sf_owners sf_partCounts sf_parts sf_types sf_ranks sf_constructorsOfData q_15.2.1 q_15.2.2.1 q_15.2.2.2.1 q_15.2.2.2.2.1 q_15.2.2.2.2.2.1 q_15.2.2.2.2.2.2.1 q_15.2.2.2.2.2.2.2.1 q_15.2.2.2.2.2.2.2.2.1 q_15.2.2.2.2.2.2.2.2.2 v1 v6 q_15.1 (v8 + (-1)) _ _ hP9 hD9 hS _ (lv_sub hl [2, 3, 4, 1, 0] rfl) hm
set_option maxHeartbeats 4000000 in
set_option maxRecDepth 100000 in
theorem k_X7_enterConstructor (l : Launch) (hfl : l.stackTraces = false) (G : GC) (s1 : Nat) (p1 : Int32) (p2 : Int32) (p3 : Int32) (p4 : Int32) (p5 : Int32) (t1 : Nat) (sr1 : Nat) (sr2 : Nat) (sr3 : Nat) (sr4 : Nat) (sr5 : Nat) (sr6 : Nat) (sr7 : Nat) (dc : Int32) (cc : Int32) (sf_owners : Nat → Int32) (sf_partCounts : Nat → Int32) (sf_parts : Nat → Int32) (sf_types : Nat → Int32) (sf_ranks : Nat → Int32) (sf_constructorsOfData : Nat → Int32) (ta0 : Nat) (ta1 : Nat) (ta2 : Nat) (ta3 : Nat) (ta4 : Nat) (ta5 : Nat) (ta6 : Nat) (ta7 : Nat) (ta8 : Nat) (mm : Int32) (tf0 : Nat → Int32) (tf1 : Nat → Int32) (tf2 : Nat → Int32) (tf3 : Nat → Int32) (tf4 : Nat → Int32) (tf5 : Nat → Int32) (tf6 : Nat → Int32) (tf7 : Nat → Int32) (r9 : Int32) (cc_9 : Int32) (sf_owners_9 : Nat → Int32) (sf_partCounts_9 : Nat → Int32) (sf_parts_9 : Nat → Int32) (sf_types_9 : Nat → Int32) (sf_ranks_9 : Nat → Int32) (sf_constructorsOfData_9 : Nat → Int32) (mm_9 : Int32) (tf0_9 : Nat → Int32) (tf1_9 : Nat → Int32) (tf2_9 : Nat → Int32) (tf3_9 : Nat → Int32) (tf4_9 : Nat → Int32) (tf5_9 : Nat → Int32) (tf6_9 : Nat → Int32) (tf7_9 : Nat → Int32) (hm : f_X7_enterConstructor cc sf_owners sf_partCounts sf_parts sf_types sf_ranks sf_constructorsOfData mm tf0 tf1 tf2 tf3 tf4 tf5 tf6 tf7 p1 p2 p3 p4 p5 = some (r9, cc_9, sf_owners_9, sf_partCounts_9, sf_parts_9, sf_types_9, sf_ranks_9, sf_constructorsOfData_9, mm_9, tf0_9, tf1_9, tf2_9, tf3_9, tf4_9, tf5_9, tf6_9, tf7_9)) (sz : Nat) : Met l yX7_enterConstructor (Cond.code yX7_enterConstructor cX7_enterConstructor 9 (some .int) :: W0) ({ frames := 2, cells := 0, slots := 0, locals := 40 }) (va_Pc [.ref s1, .int p1, .int p2, .int p3, .int p4, .int p5] (WD G [(s1, .inr (6, [.ref t1, .ref sr1, .ref sr2, .ref sr3, .ref sr4, .ref sr5, .ref sr6, .ref sr7, .int dc, .int cc])), (sr2, .inl (cyA G 0, 16, .inl (sf_owners))), (sr3, .inl (cyA G 0, 16, .inl (sf_partCounts))), (sr4, .inl (cyA G 0, 48, .inl (sf_parts))), (sr5, .inl (cyA G 0, 16, .inl (sf_types))), (sr6, .inl (cyA G 0, 16, .inl (sf_ranks))), (sr7, .inl (cyA G 0, 6, .inl (sf_constructorsOfData))), (t1, .inr (8, [.ref ta0, .ref ta1, .ref ta2, .ref ta3, .ref ta4, .ref ta5, .ref ta6, .ref ta7, .ref ta8, .int mm])), (ta0, .inl (cyA G 0, 32768, .inl (tf0))), (ta1, .inl (cyA G 0, 32768, .inl (tf1))), (ta2, .inl (cyA G 0, 32768, .inl (tf2))), (ta3, .inl (cyA G 0, 32768, .inl (tf3))), (ta4, .inl (cyA G 0, 32768, .inl (tf4))), (ta5, .inl (cyA G 0, 32768, .inl (tf5))), (ta6, .inl (cyA G 0, 32768, .inl (tf6))), (ta7, .inl (cyA G 1, 32768, .inl (tf7)))] sz)) (va_Qi (fun (r : Int32) (_ : Unit) => r = r9) (fun _ t => PW G (va_A [(s1, .inr (6, [.ref t1, .ref sr1, .ref sr2, .ref sr3, .ref sr4, .ref sr5, .ref sr6, .ref sr7, .int dc, .int cc])), (sr2, .inl (cyA G 0, 16, .inl (sf_owners))), (sr3, .inl (cyA G 0, 16, .inl (sf_partCounts))), (sr4, .inl (cyA G 0, 48, .inl (sf_parts))), (sr5, .inl (cyA G 0, 16, .inl (sf_types))), (sr6, .inl (cyA G 0, 16, .inl (sf_ranks))), (sr7, .inl (cyA G 0, 6, .inl (sf_constructorsOfData))), (t1, .inr (8, [.ref ta0, .ref ta1, .ref ta2, .ref ta3, .ref ta4, .ref ta5, .ref ta6, .ref ta7, .ref ta8, .int mm])), (ta0, .inl (cyA G 0, 32768, .inl (tf0))), (ta1, .inl (cyA G 0, 32768, .inl (tf1))), (ta2, .inl (cyA G 0, 32768, .inl (tf2))), (ta3, .inl (cyA G 0, 32768, .inl (tf3))), (ta4, .inl (cyA G 0, 32768, .inl (tf4))), (ta5, .inl (cyA G 0, 32768, .inl (tf5))), (ta6, .inl (cyA G 0, 32768, .inl (tf6))), (ta7, .inl (cyA G 1, 32768, .inl (tf7)))] sz) [(s1, .inr (6, [.ref t1, .ref sr1, .ref sr2, .ref sr3, .ref sr4, .ref sr5, .ref sr6, .ref sr7, .int dc, .int cc_9])), (sr2, .inl (cyA G 0, 16, .inl (sf_owners_9))), (sr3, .inl (cyA G 0, 16, .inl (sf_partCounts_9))), (sr4, .inl (cyA G 0, 48, .inl (sf_parts_9))), (sr5, .inl (cyA G 0, 16, .inl (sf_types_9))), (sr6, .inl (cyA G 0, 16, .inl (sf_ranks_9))), (sr7, .inl (cyA G 0, 6, .inl (sf_constructorsOfData_9))), (t1, .inr (8, [.ref ta0, .ref ta1, .ref ta2, .ref ta3, .ref ta4, .ref ta5, .ref ta6, .ref ta7, .ref ta8, .int mm_9])), (ta0, .inl (cyA G 0, 32768, .inl (tf0_9))), (ta1, .inl (cyA G 0, 32768, .inl (tf1_9))), (ta2, .inl (cyA G 0, 32768, .inl (tf2_9))), (ta3, .inl (cyA G 0, 32768, .inl (tf3_9))), (ta4, .inl (cyA G 0, 32768, .inl (tf4_9))), (ta5, .inl (cyA G 0, 32768, .inl (tf5_9))), (ta6, .inl (cyA G 0, 32768, .inl (tf6_9))), (ta7, .inl (cyA G 1, 32768, .inl (tf7_9)))] t) (va_A [(s1, .inr (6, [.ref t1, .ref sr1, .ref sr2, .ref sr3, .ref sr4, .ref sr5, .ref sr6, .ref sr7, .int dc, .int cc])), (sr2, .inl (cyA G 0, 16, .inl (sf_owners))), (sr3, .inl (cyA G 0, 16, .inl (sf_partCounts))), (sr4, .inl (cyA G 0, 48, .inl (sf_parts))), (sr5, .inl (cyA G 0, 16, .inl (sf_types))), (sr6, .inl (cyA G 0, 16, .inl (sf_ranks))), (sr7, .inl (cyA G 0, 6, .inl (sf_constructorsOfData))), (t1, .inr (8, [.ref ta0, .ref ta1, .ref ta2, .ref ta3, .ref ta4, .ref ta5, .ref ta6, .ref ta7, .ref ta8, .int mm])), (ta0, .inl (cyA G 0, 32768, .inl (tf0))), (ta1, .inl (cyA G 0, 32768, .inl (tf1))), (ta2, .inl (cyA G 0, 32768, .inl (tf2))), (ta3, .inl (cyA G 0, 32768, .inl (tf3))), (ta4, .inl (cyA G 0, 32768, .inl (tf4))), (ta5, .inl (cyA G 0, 32768, .inl (tf5))), (ta6, .inl (cyA G 0, 32768, .inl (tf6))), (ta7, .inl (cyA G 1, 32768, .inl (tf7)))] sz)) 0 0 (va_A [(s1, .inr (6, [.ref t1, .ref sr1, .ref sr2, .ref sr3, .ref sr4, .ref sr5, .ref sr6, .ref sr7, .int dc, .int cc])), (sr2, .inl (cyA G 0, 16, .inl (sf_owners))), (sr3, .inl (cyA G 0, 16, .inl (sf_partCounts))), (sr4, .inl (cyA G 0, 48, .inl (sf_parts))), (sr5, .inl (cyA G 0, 16, .inl (sf_types))), (sr6, .inl (cyA G 0, 16, .inl (sf_ranks))), (sr7, .inl (cyA G 0, 6, .inl (sf_constructorsOfData))), (t1, .inr (8, [.ref ta0, .ref ta1, .ref ta2, .ref ta3, .ref ta4, .ref ta5, .ref ta6, .ref ta7, .ref ta8, .int mm])), (ta0, .inl (cyA G 0, 32768, .inl (tf0))), (ta1, .inl (cyA G 0, 32768, .inl (tf1))), (ta2, .inl (cyA G 0, 32768, .inl (tf2))), (ta3, .inl (cyA G 0, 32768, .inl (tf3))), (ta4, .inl (cyA G 0, 32768, .inl (tf4))), (ta5, .inl (cyA G 0, 32768, .inl (tf5))), (ta6, .inl (cyA G 0, 32768, .inl (tf6))), (ta7, .inl (cyA G 1, 32768, .inl (tf7)))] sz) := by
  rw [f_X7_enterConstructor] at hm
  refine Met.ofW (cc := cX7_enterConstructor) (maxL := 9) (ret := (some .int)) (by decide) rfl ?_
  intro p e s m args below meth c s₁ B hml hv
  obtain ⟨rfl, hsz, hP, hK, hD0, hE⟩ := hv
  have hx := B.exec
  have hb := B.bytes
  have hr := B.returns
  have hts := w0_tail B.pre
  have hown : s.vm.findClass RX7 = some m.cls := findClass_of_methodNamed B.named
  have hlocks := B.notSynchronized
  subst hsz
  have hD := hD0.self (sz := s.heap.size)
  generalize hAe : va_A [(s1, .inr (6, [.ref t1, .ref sr1, .ref sr2, .ref sr3, .ref sr4, .ref sr5, .ref sr6, .ref sr7, .int dc, .int cc])), (sr2, .inl (cyA G 0, 16, .inl (sf_owners))), (sr3, .inl (cyA G 0, 16, .inl (sf_partCounts))), (sr4, .inl (cyA G 0, 48, .inl (sf_parts))), (sr5, .inl (cyA G 0, 16, .inl (sf_types))), (sr6, .inl (cyA G 0, 16, .inl (sf_ranks))), (sr7, .inl (cyA G 0, 6, .inl (sf_constructorsOfData))), (t1, .inr (8, [.ref ta0, .ref ta1, .ref ta2, .ref ta3, .ref ta4, .ref ta5, .ref ta6, .ref ta7, .ref ta8, .int mm])), (ta0, .inl (cyA G 0, 32768, .inl (tf0))), (ta1, .inl (cyA G 0, 32768, .inl (tf1))), (ta2, .inl (cyA G 0, 32768, .inl (tf2))), (ta3, .inl (cyA G 0, 32768, .inl (tf3))), (ta4, .inl (cyA G 0, 32768, .inl (tf4))), (ta5, .inl (cyA G 0, 32768, .inl (tf5))), (ta6, .inl (cyA G 0, 32768, .inl (tf6))), (ta7, .inl (cyA G 1, 32768, .inl (tf7)))] s.heap.size = A at hD hE ⊢
  have hA : ∀ q : Nat, s.heap.size ≤ q → A q := fun q h => by rw [← hAe]; exact Or.inr h
  have hS : va_S A s.heap s.heap [] := va_S.rf
  obtain ⟨H, hHe⟩ : ∃ H : Heap, H = s.heap := ⟨_, rfl⟩
  have hP : va_P (DG G) clP3 [(s1, .inr (6, [.ref t1, .ref sr1, .ref sr2, .ref sr3, .ref sr4, .ref sr5, .ref sr6, .ref sr7, .int dc, .int cc])), (sr2, .inl (cyA G 0, 16, .inl (sf_owners))), (sr3, .inl (cyA G 0, 16, .inl (sf_partCounts))), (sr4, .inl (cyA G 0, 48, .inl (sf_parts))), (sr5, .inl (cyA G 0, 16, .inl (sf_types))), (sr6, .inl (cyA G 0, 16, .inl (sf_ranks))), (sr7, .inl (cyA G 0, 6, .inl (sf_constructorsOfData))), (t1, .inr (8, [.ref ta0, .ref ta1, .ref ta2, .ref ta3, .ref ta4, .ref ta5, .ref ta6, .ref ta7, .ref ta8, .int mm])), (ta0, .inl (cyA G 0, 32768, .inl (tf0))), (ta1, .inl (cyA G 0, 32768, .inl (tf1))), (ta2, .inl (cyA G 0, 32768, .inl (tf2))), (ta3, .inl (cyA G 0, 32768, .inl (tf3))), (ta4, .inl (cyA G 0, 32768, .inl (tf4))), (ta5, .inl (cyA G 0, 32768, .inl (tf5))), (ta6, .inl (cyA G 0, 32768, .inl (tf6))), (ta7, .inl (cyA G 1, 32768, .inl (tf7)))] H := by rw [hHe]; exact hP
  have hS : va_S A s.heap H [] := by rw [hHe]; exact hS
  have hl := lv_entry ([.ref s1, .int p1, .int p2, .int p3, .int p4, .int p5]) (n := 9) (Nat.le_of_ble_eq_true rfl)
  rw [lg_entry_eq, ← hHe]
  generalize (lg_sl ([.ref s1, .int p1, .int p2, .int p3, .int p4, .int p5]) ++ List.replicate (9 - (lg_sl ([.ref s1, .int p1, .int p2, .int p3, .int p4, .int p5])).length) Slot.unset).toArray = ls at hl ⊢
  have hl : lv_has ls 9 [(0, .ref s1), (1, .int p1), (2, .int p2), (3, .int p3), (4, .int p4), (5, .int p5)] := hl
  refine lv_aload_n hx hb dX7_enterConstructor_0 rfl (lv_at hl 0 rfl) ?_
  refine va_get (D := DG G) (ci := 6) (v := .int cc) (C := RX7) (T := TX7) (N := 10) hx hb hts inW_X7 hown hK hP 0 rfl rfl 9 (by decide) (hts _ wm105) (fun _ h9 => h9) rfl dX7_enterConstructor_1 ?_
  refine lv_istore (lv' := [(6, .int cc), (0, .ref s1), (1, .int p1), (2, .int p2), (3, .int p3), (4, .int p4), (5, .int p5)]) hx hb dX7_enterConstructor_4 hl (by decide) rfl (fun ls hl => ?_)
  refine lv_aload_n hx hb dX7_enterConstructor_6 rfl (lv_at hl 1 rfl) ?_
  refine lv_dup hx hb dX7_enterConstructor_7 rfl ?_
  refine va_get (D := DG G) (ci := 6) (v := .int cc) (C := RX7) (T := TX7) (N := 10) hx hb hts inW_X7 hown hK hP 0 rfl rfl 9 (by decide) (hts _ wm105) (fun _ h9 => h9) rfl dX7_enterConstructor_8 ?_
  refine lv_iconst (v := 1) hx hb dX7_enterConstructor_11 (by decide) ?_
  refine lv_iadd hx hb dX7_enterConstructor_12 ?_
  refine va_put (D := DG G) (ci := 6) (v := .int (cc + 1)) (ty := tyX7 9) (C := RX7) (T := TX7) (N := 10) hx hb hts inW_X7 tyX7 tyX7_ok nmX7 hown hK hP hD hS 0 rfl rfl 9 (by decide) (hts _ wm105) (fun _ h9 => h9) rfl (by decide +kernel) rfl rfl (Nat.le_of_ble_eq_true rfl) dX7_enterConstructor_13 (fun H locs hP hD hS => ?_)
  have hP : va_P (DG G) clP3 [(s1, .inr (6, [.ref t1, .ref sr1, .ref sr2, .ref sr3, .ref sr4, .ref sr5, .ref sr6, .ref sr7, .int dc, .int (cc + 1)])), (sr2, .inl (cyA G 0, 16, .inl (sf_owners))), (sr3, .inl (cyA G 0, 16, .inl (sf_partCounts))), (sr4, .inl (cyA G 0, 48, .inl (sf_parts))), (sr5, .inl (cyA G 0, 16, .inl (sf_types))), (sr6, .inl (cyA G 0, 16, .inl (sf_ranks))), (sr7, .inl (cyA G 0, 6, .inl (sf_constructorsOfData))), (t1, .inr (8, [.ref ta0, .ref ta1, .ref ta2, .ref ta3, .ref ta4, .ref ta5, .ref ta6, .ref ta7, .ref ta8, .int mm])), (ta0, .inl (cyA G 0, 32768, .inl (tf0))), (ta1, .inl (cyA G 0, 32768, .inl (tf1))), (ta2, .inl (cyA G 0, 32768, .inl (tf2))), (ta3, .inl (cyA G 0, 32768, .inl (tf3))), (ta4, .inl (cyA G 0, 32768, .inl (tf4))), (ta5, .inl (cyA G 0, 32768, .inl (tf5))), (ta6, .inl (cyA G 0, 32768, .inl (tf6))), (ta7, .inl (cyA G 1, 32768, .inl (tf7)))] H := hP
  have hD : va_D A [(s1, .inr (6, [.ref t1, .ref sr1, .ref sr2, .ref sr3, .ref sr4, .ref sr5, .ref sr6, .ref sr7, .int dc, .int (cc + 1)])), (sr2, .inl (cyA G 0, 16, .inl (sf_owners))), (sr3, .inl (cyA G 0, 16, .inl (sf_partCounts))), (sr4, .inl (cyA G 0, 48, .inl (sf_parts))), (sr5, .inl (cyA G 0, 16, .inl (sf_types))), (sr6, .inl (cyA G 0, 16, .inl (sf_ranks))), (sr7, .inl (cyA G 0, 6, .inl (sf_constructorsOfData))), (t1, .inr (8, [.ref ta0, .ref ta1, .ref ta2, .ref ta3, .ref ta4, .ref ta5, .ref ta6, .ref ta7, .ref ta8, .int mm])), (ta0, .inl (cyA G 0, 32768, .inl (tf0))), (ta1, .inl (cyA G 0, 32768, .inl (tf1))), (ta2, .inl (cyA G 0, 32768, .inl (tf2))), (ta3, .inl (cyA G 0, 32768, .inl (tf3))), (ta4, .inl (cyA G 0, 32768, .inl (tf4))), (ta5, .inl (cyA G 0, 32768, .inl (tf5))), (ta6, .inl (cyA G 0, 32768, .inl (tf6))), (ta7, .inl (cyA G 1, 32768, .inl (tf7)))] := hD
  refine lv_aload_n hx hb dX7_enterConstructor_16 rfl (lv_at hl 1 rfl) ?_
  refine va_get (D := DG G) (ci := 6) (v := .ref sr2) (C := RX7) (T := TX7) (N := 10) hx hb hts inW_X7 hown hK hP 0 rfl rfl 2 (by decide) (hts _ wm97) (fun _ h9 => h9) rfl dX7_enterConstructor_17 ?_
  refine lv_iload hx hb dX7_enterConstructor_20 (lv_at hl 0 rfl) ?_
  refine lv_iload_n hx hb dX7_enterConstructor_22 rfl (lv_at hl 2 rfl) ?_
  obtain ⟨b_1, hm⟩ := ite_some hm
  refine va_iast hx hb hK hP hD hS 1 0 rfl rfl (inb_vp b_1) dX7_enterConstructor_23 (fun H locs hP hD hS => ?_)
  have hP : va_P (DG G) clP3 [(s1, .inr (6, [.ref t1, .ref sr1, .ref sr2, .ref sr3, .ref sr4, .ref sr5, .ref sr6, .ref sr7, .int dc, .int (cc + 1)])), (sr2, .inl (cyA G 0, 16, .inl (upd sf_owners (Int32.toNatClampNeg cc) p1))), (sr3, .inl (cyA G 0, 16, .inl (sf_partCounts))), (sr4, .inl (cyA G 0, 48, .inl (sf_parts))), (sr5, .inl (cyA G 0, 16, .inl (sf_types))), (sr6, .inl (cyA G 0, 16, .inl (sf_ranks))), (sr7, .inl (cyA G 0, 6, .inl (sf_constructorsOfData))), (t1, .inr (8, [.ref ta0, .ref ta1, .ref ta2, .ref ta3, .ref ta4, .ref ta5, .ref ta6, .ref ta7, .ref ta8, .int mm])), (ta0, .inl (cyA G 0, 32768, .inl (tf0))), (ta1, .inl (cyA G 0, 32768, .inl (tf1))), (ta2, .inl (cyA G 0, 32768, .inl (tf2))), (ta3, .inl (cyA G 0, 32768, .inl (tf3))), (ta4, .inl (cyA G 0, 32768, .inl (tf4))), (ta5, .inl (cyA G 0, 32768, .inl (tf5))), (ta6, .inl (cyA G 0, 32768, .inl (tf6))), (ta7, .inl (cyA G 1, 32768, .inl (tf7)))] H := hP
  have hD : va_D A [(s1, .inr (6, [.ref t1, .ref sr1, .ref sr2, .ref sr3, .ref sr4, .ref sr5, .ref sr6, .ref sr7, .int dc, .int (cc + 1)])), (sr2, .inl (cyA G 0, 16, .inl (upd sf_owners (Int32.toNatClampNeg cc) p1))), (sr3, .inl (cyA G 0, 16, .inl (sf_partCounts))), (sr4, .inl (cyA G 0, 48, .inl (sf_parts))), (sr5, .inl (cyA G 0, 16, .inl (sf_types))), (sr6, .inl (cyA G 0, 16, .inl (sf_ranks))), (sr7, .inl (cyA G 0, 6, .inl (sf_constructorsOfData))), (t1, .inr (8, [.ref ta0, .ref ta1, .ref ta2, .ref ta3, .ref ta4, .ref ta5, .ref ta6, .ref ta7, .ref ta8, .int mm])), (ta0, .inl (cyA G 0, 32768, .inl (tf0))), (ta1, .inl (cyA G 0, 32768, .inl (tf1))), (ta2, .inl (cyA G 0, 32768, .inl (tf2))), (ta3, .inl (cyA G 0, 32768, .inl (tf3))), (ta4, .inl (cyA G 0, 32768, .inl (tf4))), (ta5, .inl (cyA G 0, 32768, .inl (tf5))), (ta6, .inl (cyA G 0, 32768, .inl (tf6))), (ta7, .inl (cyA G 1, 32768, .inl (tf7)))] := hD
  refine lv_aload_n hx hb dX7_enterConstructor_24 rfl (lv_at hl 1 rfl) ?_
  refine va_get (D := DG G) (ci := 6) (v := .ref sr3) (C := RX7) (T := TX7) (N := 10) hx hb hts inW_X7 hown hK hP 0 rfl rfl 3 (by decide) (hts _ wm98) (fun _ h9 => h9) rfl dX7_enterConstructor_25 ?_
  refine lv_iload hx hb dX7_enterConstructor_28 (lv_at hl 0 rfl) ?_
  refine lv_iload_n hx hb dX7_enterConstructor_30 rfl (lv_at hl 3 rfl) ?_
  obtain ⟨b_2, hm⟩ := ite_some hm
  refine va_iast hx hb hK hP hD hS 2 0 rfl rfl (inb_vp b_2) dX7_enterConstructor_31 (fun H locs hP hD hS => ?_)
  have hP : va_P (DG G) clP3 [(s1, .inr (6, [.ref t1, .ref sr1, .ref sr2, .ref sr3, .ref sr4, .ref sr5, .ref sr6, .ref sr7, .int dc, .int (cc + 1)])), (sr2, .inl (cyA G 0, 16, .inl (upd sf_owners (Int32.toNatClampNeg cc) p1))), (sr3, .inl (cyA G 0, 16, .inl (upd sf_partCounts (Int32.toNatClampNeg cc) p2))), (sr4, .inl (cyA G 0, 48, .inl (sf_parts))), (sr5, .inl (cyA G 0, 16, .inl (sf_types))), (sr6, .inl (cyA G 0, 16, .inl (sf_ranks))), (sr7, .inl (cyA G 0, 6, .inl (sf_constructorsOfData))), (t1, .inr (8, [.ref ta0, .ref ta1, .ref ta2, .ref ta3, .ref ta4, .ref ta5, .ref ta6, .ref ta7, .ref ta8, .int mm])), (ta0, .inl (cyA G 0, 32768, .inl (tf0))), (ta1, .inl (cyA G 0, 32768, .inl (tf1))), (ta2, .inl (cyA G 0, 32768, .inl (tf2))), (ta3, .inl (cyA G 0, 32768, .inl (tf3))), (ta4, .inl (cyA G 0, 32768, .inl (tf4))), (ta5, .inl (cyA G 0, 32768, .inl (tf5))), (ta6, .inl (cyA G 0, 32768, .inl (tf6))), (ta7, .inl (cyA G 1, 32768, .inl (tf7)))] H := hP
  have hD : va_D A [(s1, .inr (6, [.ref t1, .ref sr1, .ref sr2, .ref sr3, .ref sr4, .ref sr5, .ref sr6, .ref sr7, .int dc, .int (cc + 1)])), (sr2, .inl (cyA G 0, 16, .inl (upd sf_owners (Int32.toNatClampNeg cc) p1))), (sr3, .inl (cyA G 0, 16, .inl (upd sf_partCounts (Int32.toNatClampNeg cc) p2))), (sr4, .inl (cyA G 0, 48, .inl (sf_parts))), (sr5, .inl (cyA G 0, 16, .inl (sf_types))), (sr6, .inl (cyA G 0, 16, .inl (sf_ranks))), (sr7, .inl (cyA G 0, 6, .inl (sf_constructorsOfData))), (t1, .inr (8, [.ref ta0, .ref ta1, .ref ta2, .ref ta3, .ref ta4, .ref ta5, .ref ta6, .ref ta7, .ref ta8, .int mm])), (ta0, .inl (cyA G 0, 32768, .inl (tf0))), (ta1, .inl (cyA G 0, 32768, .inl (tf1))), (ta2, .inl (cyA G 0, 32768, .inl (tf2))), (ta3, .inl (cyA G 0, 32768, .inl (tf3))), (ta4, .inl (cyA G 0, 32768, .inl (tf4))), (ta5, .inl (cyA G 0, 32768, .inl (tf5))), (ta6, .inl (cyA G 0, 32768, .inl (tf6))), (ta7, .inl (cyA G 1, 32768, .inl (tf7)))] := hD
  refine lv_aload_n hx hb dX7_enterConstructor_32 rfl (lv_at hl 1 rfl) ?_
  refine va_get (D := DG G) (ci := 6) (v := .ref sr4) (C := RX7) (T := TX7) (N := 10) hx hb hts inW_X7 hown hK hP 0 rfl rfl 4 (by decide) (hts _ wm99) (fun _ h9 => h9) rfl dX7_enterConstructor_33 ?_
  refine lv_iload hx hb dX7_enterConstructor_36 (lv_at hl 0 rfl) ?_
  refine lv_iconst (v := 3) hx hb dX7_enterConstructor_38 (by decide) ?_
  refine lv_imul hx hb dX7_enterConstructor_39 ?_
  refine lv_iload_n hx hb dX7_enterConstructor_40 rfl (lv_at hl 4 rfl) ?_
  obtain ⟨b_3, hm⟩ := ite_some hm
  refine va_iast hx hb hK hP hD hS 3 0 rfl rfl (inb_vp b_3) dX7_enterConstructor_41 (fun H locs hP hD hS => ?_)
  have hP : va_P (DG G) clP3 [(s1, .inr (6, [.ref t1, .ref sr1, .ref sr2, .ref sr3, .ref sr4, .ref sr5, .ref sr6, .ref sr7, .int dc, .int (cc + 1)])), (sr2, .inl (cyA G 0, 16, .inl (upd sf_owners (Int32.toNatClampNeg cc) p1))), (sr3, .inl (cyA G 0, 16, .inl (upd sf_partCounts (Int32.toNatClampNeg cc) p2))), (sr4, .inl (cyA G 0, 48, .inl (upd sf_parts (Int32.toNatClampNeg (cc * 3)) p3))), (sr5, .inl (cyA G 0, 16, .inl (sf_types))), (sr6, .inl (cyA G 0, 16, .inl (sf_ranks))), (sr7, .inl (cyA G 0, 6, .inl (sf_constructorsOfData))), (t1, .inr (8, [.ref ta0, .ref ta1, .ref ta2, .ref ta3, .ref ta4, .ref ta5, .ref ta6, .ref ta7, .ref ta8, .int mm])), (ta0, .inl (cyA G 0, 32768, .inl (tf0))), (ta1, .inl (cyA G 0, 32768, .inl (tf1))), (ta2, .inl (cyA G 0, 32768, .inl (tf2))), (ta3, .inl (cyA G 0, 32768, .inl (tf3))), (ta4, .inl (cyA G 0, 32768, .inl (tf4))), (ta5, .inl (cyA G 0, 32768, .inl (tf5))), (ta6, .inl (cyA G 0, 32768, .inl (tf6))), (ta7, .inl (cyA G 1, 32768, .inl (tf7)))] H := hP
  have hD : va_D A [(s1, .inr (6, [.ref t1, .ref sr1, .ref sr2, .ref sr3, .ref sr4, .ref sr5, .ref sr6, .ref sr7, .int dc, .int (cc + 1)])), (sr2, .inl (cyA G 0, 16, .inl (upd sf_owners (Int32.toNatClampNeg cc) p1))), (sr3, .inl (cyA G 0, 16, .inl (upd sf_partCounts (Int32.toNatClampNeg cc) p2))), (sr4, .inl (cyA G 0, 48, .inl (upd sf_parts (Int32.toNatClampNeg (cc * 3)) p3))), (sr5, .inl (cyA G 0, 16, .inl (sf_types))), (sr6, .inl (cyA G 0, 16, .inl (sf_ranks))), (sr7, .inl (cyA G 0, 6, .inl (sf_constructorsOfData))), (t1, .inr (8, [.ref ta0, .ref ta1, .ref ta2, .ref ta3, .ref ta4, .ref ta5, .ref ta6, .ref ta7, .ref ta8, .int mm])), (ta0, .inl (cyA G 0, 32768, .inl (tf0))), (ta1, .inl (cyA G 0, 32768, .inl (tf1))), (ta2, .inl (cyA G 0, 32768, .inl (tf2))), (ta3, .inl (cyA G 0, 32768, .inl (tf3))), (ta4, .inl (cyA G 0, 32768, .inl (tf4))), (ta5, .inl (cyA G 0, 32768, .inl (tf5))), (ta6, .inl (cyA G 0, 32768, .inl (tf6))), (ta7, .inl (cyA G 1, 32768, .inl (tf7)))] := hD
  refine lv_aload_n hx hb dX7_enterConstructor_42 rfl (lv_at hl 1 rfl) ?_
  refine va_get (D := DG G) (ci := 6) (v := .ref sr4) (C := RX7) (T := TX7) (N := 10) hx hb hts inW_X7 hown hK hP 0 rfl rfl 4 (by decide) (hts _ wm99) (fun _ h9 => h9) rfl dX7_enterConstructor_43 ?_
  refine lv_iload hx hb dX7_enterConstructor_46 (lv_at hl 0 rfl) ?_
  refine lv_iconst (v := 3) hx hb dX7_enterConstructor_48 (by decide) ?_
  refine lv_imul hx hb dX7_enterConstructor_49 ?_
  refine lv_iconst (v := 1) hx hb dX7_enterConstructor_50 (by decide) ?_
  refine lv_iadd hx hb dX7_enterConstructor_51 ?_
  refine lv_iload hx hb dX7_enterConstructor_52 (lv_at hl 5 rfl) ?_
  obtain ⟨b_4, hm⟩ := ite_some hm
  refine va_iast hx hb hK hP hD hS 3 0 rfl rfl (inb_vp b_4) dX7_enterConstructor_54 (fun H locs hP hD hS => ?_)
  have hP : va_P (DG G) clP3 [(s1, .inr (6, [.ref t1, .ref sr1, .ref sr2, .ref sr3, .ref sr4, .ref sr5, .ref sr6, .ref sr7, .int dc, .int (cc + 1)])), (sr2, .inl (cyA G 0, 16, .inl (upd sf_owners (Int32.toNatClampNeg cc) p1))), (sr3, .inl (cyA G 0, 16, .inl (upd sf_partCounts (Int32.toNatClampNeg cc) p2))), (sr4, .inl (cyA G 0, 48, .inl (upd (upd sf_parts (Int32.toNatClampNeg (cc * 3)) p3) (Int32.toNatClampNeg ((cc * 3) + 1)) p4))), (sr5, .inl (cyA G 0, 16, .inl (sf_types))), (sr6, .inl (cyA G 0, 16, .inl (sf_ranks))), (sr7, .inl (cyA G 0, 6, .inl (sf_constructorsOfData))), (t1, .inr (8, [.ref ta0, .ref ta1, .ref ta2, .ref ta3, .ref ta4, .ref ta5, .ref ta6, .ref ta7, .ref ta8, .int mm])), (ta0, .inl (cyA G 0, 32768, .inl (tf0))), (ta1, .inl (cyA G 0, 32768, .inl (tf1))), (ta2, .inl (cyA G 0, 32768, .inl (tf2))), (ta3, .inl (cyA G 0, 32768, .inl (tf3))), (ta4, .inl (cyA G 0, 32768, .inl (tf4))), (ta5, .inl (cyA G 0, 32768, .inl (tf5))), (ta6, .inl (cyA G 0, 32768, .inl (tf6))), (ta7, .inl (cyA G 1, 32768, .inl (tf7)))] H := hP
  have hD : va_D A [(s1, .inr (6, [.ref t1, .ref sr1, .ref sr2, .ref sr3, .ref sr4, .ref sr5, .ref sr6, .ref sr7, .int dc, .int (cc + 1)])), (sr2, .inl (cyA G 0, 16, .inl (upd sf_owners (Int32.toNatClampNeg cc) p1))), (sr3, .inl (cyA G 0, 16, .inl (upd sf_partCounts (Int32.toNatClampNeg cc) p2))), (sr4, .inl (cyA G 0, 48, .inl (upd (upd sf_parts (Int32.toNatClampNeg (cc * 3)) p3) (Int32.toNatClampNeg ((cc * 3) + 1)) p4))), (sr5, .inl (cyA G 0, 16, .inl (sf_types))), (sr6, .inl (cyA G 0, 16, .inl (sf_ranks))), (sr7, .inl (cyA G 0, 6, .inl (sf_constructorsOfData))), (t1, .inr (8, [.ref ta0, .ref ta1, .ref ta2, .ref ta3, .ref ta4, .ref ta5, .ref ta6, .ref ta7, .ref ta8, .int mm])), (ta0, .inl (cyA G 0, 32768, .inl (tf0))), (ta1, .inl (cyA G 0, 32768, .inl (tf1))), (ta2, .inl (cyA G 0, 32768, .inl (tf2))), (ta3, .inl (cyA G 0, 32768, .inl (tf3))), (ta4, .inl (cyA G 0, 32768, .inl (tf4))), (ta5, .inl (cyA G 0, 32768, .inl (tf5))), (ta6, .inl (cyA G 0, 32768, .inl (tf6))), (ta7, .inl (cyA G 1, 32768, .inl (tf7)))] := hD
  refine lv_aload_n hx hb dX7_enterConstructor_55 rfl (lv_at hl 1 rfl) ?_
  refine va_get (D := DG G) (ci := 6) (v := .ref sr4) (C := RX7) (T := TX7) (N := 10) hx hb hts inW_X7 hown hK hP 0 rfl rfl 4 (by decide) (hts _ wm99) (fun _ h9 => h9) rfl dX7_enterConstructor_56 ?_
  refine lv_iload hx hb dX7_enterConstructor_59 (lv_at hl 0 rfl) ?_
  refine lv_iconst (v := 3) hx hb dX7_enterConstructor_61 (by decide) ?_
  refine lv_imul hx hb dX7_enterConstructor_62 ?_
  refine lv_iconst (v := 2) hx hb dX7_enterConstructor_63 (by decide) ?_
  refine lv_iadd hx hb dX7_enterConstructor_64 ?_
  refine lv_iload hx hb dX7_enterConstructor_65 (lv_at hl 6 rfl) ?_
  obtain ⟨b_5, hm⟩ := ite_some hm
  refine va_iast hx hb hK hP hD hS 3 0 rfl rfl (inb_vp b_5) dX7_enterConstructor_67 (fun H locs hP hD hS => ?_)
  have hP : va_P (DG G) clP3 [(s1, .inr (6, [.ref t1, .ref sr1, .ref sr2, .ref sr3, .ref sr4, .ref sr5, .ref sr6, .ref sr7, .int dc, .int (cc + 1)])), (sr2, .inl (cyA G 0, 16, .inl (upd sf_owners (Int32.toNatClampNeg cc) p1))), (sr3, .inl (cyA G 0, 16, .inl (upd sf_partCounts (Int32.toNatClampNeg cc) p2))), (sr4, .inl (cyA G 0, 48, .inl (upd (upd (upd sf_parts (Int32.toNatClampNeg (cc * 3)) p3) (Int32.toNatClampNeg ((cc * 3) + 1)) p4) (Int32.toNatClampNeg ((cc * 3) + 2)) p5))), (sr5, .inl (cyA G 0, 16, .inl (sf_types))), (sr6, .inl (cyA G 0, 16, .inl (sf_ranks))), (sr7, .inl (cyA G 0, 6, .inl (sf_constructorsOfData))), (t1, .inr (8, [.ref ta0, .ref ta1, .ref ta2, .ref ta3, .ref ta4, .ref ta5, .ref ta6, .ref ta7, .ref ta8, .int mm])), (ta0, .inl (cyA G 0, 32768, .inl (tf0))), (ta1, .inl (cyA G 0, 32768, .inl (tf1))), (ta2, .inl (cyA G 0, 32768, .inl (tf2))), (ta3, .inl (cyA G 0, 32768, .inl (tf3))), (ta4, .inl (cyA G 0, 32768, .inl (tf4))), (ta5, .inl (cyA G 0, 32768, .inl (tf5))), (ta6, .inl (cyA G 0, 32768, .inl (tf6))), (ta7, .inl (cyA G 1, 32768, .inl (tf7)))] H := hP
  have hD : va_D A [(s1, .inr (6, [.ref t1, .ref sr1, .ref sr2, .ref sr3, .ref sr4, .ref sr5, .ref sr6, .ref sr7, .int dc, .int (cc + 1)])), (sr2, .inl (cyA G 0, 16, .inl (upd sf_owners (Int32.toNatClampNeg cc) p1))), (sr3, .inl (cyA G 0, 16, .inl (upd sf_partCounts (Int32.toNatClampNeg cc) p2))), (sr4, .inl (cyA G 0, 48, .inl (upd (upd (upd sf_parts (Int32.toNatClampNeg (cc * 3)) p3) (Int32.toNatClampNeg ((cc * 3) + 1)) p4) (Int32.toNatClampNeg ((cc * 3) + 2)) p5))), (sr5, .inl (cyA G 0, 16, .inl (sf_types))), (sr6, .inl (cyA G 0, 16, .inl (sf_ranks))), (sr7, .inl (cyA G 0, 6, .inl (sf_constructorsOfData))), (t1, .inr (8, [.ref ta0, .ref ta1, .ref ta2, .ref ta3, .ref ta4, .ref ta5, .ref ta6, .ref ta7, .ref ta8, .int mm])), (ta0, .inl (cyA G 0, 32768, .inl (tf0))), (ta1, .inl (cyA G 0, 32768, .inl (tf1))), (ta2, .inl (cyA G 0, 32768, .inl (tf2))), (ta3, .inl (cyA G 0, 32768, .inl (tf3))), (ta4, .inl (cyA G 0, 32768, .inl (tf4))), (ta5, .inl (cyA G 0, 32768, .inl (tf5))), (ta6, .inl (cyA G 0, 32768, .inl (tf6))), (ta7, .inl (cyA G 1, 32768, .inl (tf7)))] := hD
  refine lv_aload_n hx hb dX7_enterConstructor_68 rfl (lv_at hl 1 rfl) ?_
  refine va_get (D := DG G) (ci := 6) (v := .ref t1) (C := RX7) (T := TX7) (N := 10) hx hb hts inW_X7 hown hK hP 0 rfl rfl 0 (by decide) (hts _ wm95) (fun _ h9 => h9) rfl dX7_enterConstructor_69 ?_
  refine lv_iconst (v := 2) hx hb dX7_enterConstructor_72 (by decide) ?_
  refine lv_iload_n hx hb dX7_enterConstructor_73 rfl (lv_at hl 2 rfl) ?_
  obtain ⟨q_6, hq_6, hm⟩ := bind_some hm
  have hFc := va_free (wc := [(t1, .inr (8, [.ref ta0, .ref ta1, .ref ta2, .ref ta3, .ref ta4, .ref ta5, .ref ta6, .ref ta7, .ref ta8, .int mm])), (ta0, .inl (cyA G 0, 32768, .inl (tf0))), (ta1, .inl (cyA G 0, 32768, .inl (tf1))), (ta2, .inl (cyA G 0, 32768, .inl (tf2))), (ta3, .inl (cyA G 0, 32768, .inl (tf3))), (ta4, .inl (cyA G 0, 32768, .inl (tf4))), (ta5, .inl (cyA G 0, 32768, .inl (tf5))), (ta6, .inl (cyA G 0, 32768, .inl (tf6))), (ta7, .inl (cyA G 1, 32768, .inl (tf7)))]) hD hS hA [7, 8, 9, 10, 11, 12, 13, 14, 15] rfl
  refine va_calli (va_runV (As := [.int 2, .int p1]) (rest := []) ⟨hx, hb, hml, hown, hts⟩ (k_X9_leaf l hfl G t1 2 p1 ta0 ta1 ta2 ta3 ta4 ta5 ta6 ta7 ta8 mm tf0 tf1 tf2 tf3 tf4 tf5 tf6 tf7 q_6.1 q_6.2.1 q_6.2.2.1 q_6.2.2.2.1 q_6.2.2.2.2.1 q_6.2.2.2.2.2.1 q_6.2.2.2.2.2.2.1 q_6.2.2.2.2.2.2.2.1 q_6.2.2.2.2.2.2.2.2.1 q_6.2.2.2.2.2.2.2.2.2 hq_6 H.size) (cwV 2 hts (gV wm805 wm439 wm440 wm2 wm441) rfl rfl rfl (by decide +kernel) ⟨Nat.le_of_ble_eq_true rfl, Nat.le_of_ble_eq_true rfl⟩) (pre_v (pre_s hK hP hD hS hE [7, 8, 9, 10, 11, 12, 13, 14, 15] rfl rfl (by decide) hFc) (va_recv hK hP (ci := 8) (q0 := 7) rfl rfl)) rfl rfl hl.1 rfl (lv_room (Nat.le_of_ble_eq_true rfl)) dX7_enterConstructor_74 ⟨Nat.le_of_ble_eq_true rfl, Nat.le_of_ble_eq_true rfl⟩) hS (fun q _ h => hFc q h) hFc (fun r u t H locs ht hvm hw hB hz1 hk1 hS => ?_)
  rw [show r = q_6.1 from hw]
  obtain ⟨hP1, hD1⟩ := hB
  rw [ht] at hP1
  obtain ⟨hP, hD⟩ := va_join (wr := [(s1, .inr (6, [.ref t1, .ref sr1, .ref sr2, .ref sr3, .ref sr4, .ref sr5, .ref sr6, .ref sr7, .int dc, .int (cc + 1)])), (sr2, .inl (cyA G 0, 16, .inl (upd sf_owners (Int32.toNatClampNeg cc) p1))), (sr3, .inl (cyA G 0, 16, .inl (upd sf_partCounts (Int32.toNatClampNeg cc) p2))), (sr4, .inl (cyA G 0, 48, .inl (upd (upd (upd sf_parts (Int32.toNatClampNeg (cc * 3)) p3) (Int32.toNatClampNeg ((cc * 3) + 1)) p4) (Int32.toNatClampNeg ((cc * 3) + 2)) p5))), (sr5, .inl (cyA G 0, 16, .inl (sf_types))), (sr6, .inl (cyA G 0, 16, .inl (sf_ranks))), (sr7, .inl (cyA G 0, 6, .inl (sf_constructorsOfData)))]) (w1 := [(t1, .inr (8, [.ref ta0, .ref ta1, .ref ta2, .ref ta3, .ref ta4, .ref ta5, .ref ta6, .ref ta7, .ref ta8, .int q_6.2.1])), (ta0, .inl (cyA G 0, 32768, .inl (q_6.2.2.1))), (ta1, .inl (cyA G 0, 32768, .inl (q_6.2.2.2.1))), (ta2, .inl (cyA G 0, 32768, .inl (q_6.2.2.2.2.1))), (ta3, .inl (cyA G 0, 32768, .inl (q_6.2.2.2.2.2.1))), (ta4, .inl (cyA G 0, 32768, .inl (q_6.2.2.2.2.2.2.1))), (ta5, .inl (cyA G 0, 32768, .inl (q_6.2.2.2.2.2.2.2.1))), (ta6, .inl (cyA G 0, 32768, .inl (q_6.2.2.2.2.2.2.2.2.1))), (ta7, .inl (cyA G 1, 32768, .inl (q_6.2.2.2.2.2.2.2.2.2)))]) hP hD [7, 8, 9, 10, 11, 12, 13, 14, 15] [0, 1, 2, 3, 4, 5, 6] rfl rfl (by decide) (by decide) hk1 hFc hP1 hD1
  have hP : va_P (DG G) clP3 [(s1, .inr (6, [.ref t1, .ref sr1, .ref sr2, .ref sr3, .ref sr4, .ref sr5, .ref sr6, .ref sr7, .int dc, .int (cc + 1)])), (sr2, .inl (cyA G 0, 16, .inl (upd sf_owners (Int32.toNatClampNeg cc) p1))), (sr3, .inl (cyA G 0, 16, .inl (upd sf_partCounts (Int32.toNatClampNeg cc) p2))), (sr4, .inl (cyA G 0, 48, .inl (upd (upd (upd sf_parts (Int32.toNatClampNeg (cc * 3)) p3) (Int32.toNatClampNeg ((cc * 3) + 1)) p4) (Int32.toNatClampNeg ((cc * 3) + 2)) p5))), (sr5, .inl (cyA G 0, 16, .inl (sf_types))), (sr6, .inl (cyA G 0, 16, .inl (sf_ranks))), (sr7, .inl (cyA G 0, 6, .inl (sf_constructorsOfData))), (t1, .inr (8, [.ref ta0, .ref ta1, .ref ta2, .ref ta3, .ref ta4, .ref ta5, .ref ta6, .ref ta7, .ref ta8, .int q_6.2.1])), (ta0, .inl (cyA G 0, 32768, .inl (q_6.2.2.1))), (ta1, .inl (cyA G 0, 32768, .inl (q_6.2.2.2.1))), (ta2, .inl (cyA G 0, 32768, .inl (q_6.2.2.2.2.1))), (ta3, .inl (cyA G 0, 32768, .inl (q_6.2.2.2.2.2.1))), (ta4, .inl (cyA G 0, 32768, .inl (q_6.2.2.2.2.2.2.1))), (ta5, .inl (cyA G 0, 32768, .inl (q_6.2.2.2.2.2.2.2.1))), (ta6, .inl (cyA G 0, 32768, .inl (q_6.2.2.2.2.2.2.2.2.1))), (ta7, .inl (cyA G 1, 32768, .inl (q_6.2.2.2.2.2.2.2.2.2)))] H := hP
  have hD : va_D A [(s1, .inr (6, [.ref t1, .ref sr1, .ref sr2, .ref sr3, .ref sr4, .ref sr5, .ref sr6, .ref sr7, .int dc, .int (cc + 1)])), (sr2, .inl (cyA G 0, 16, .inl (upd sf_owners (Int32.toNatClampNeg cc) p1))), (sr3, .inl (cyA G 0, 16, .inl (upd sf_partCounts (Int32.toNatClampNeg cc) p2))), (sr4, .inl (cyA G 0, 48, .inl (upd (upd (upd sf_parts (Int32.toNatClampNeg (cc * 3)) p3) (Int32.toNatClampNeg ((cc * 3) + 1)) p4) (Int32.toNatClampNeg ((cc * 3) + 2)) p5))), (sr5, .inl (cyA G 0, 16, .inl (sf_types))), (sr6, .inl (cyA G 0, 16, .inl (sf_ranks))), (sr7, .inl (cyA G 0, 6, .inl (sf_constructorsOfData))), (t1, .inr (8, [.ref ta0, .ref ta1, .ref ta2, .ref ta3, .ref ta4, .ref ta5, .ref ta6, .ref ta7, .ref ta8, .int q_6.2.1])), (ta0, .inl (cyA G 0, 32768, .inl (q_6.2.2.1))), (ta1, .inl (cyA G 0, 32768, .inl (q_6.2.2.2.1))), (ta2, .inl (cyA G 0, 32768, .inl (q_6.2.2.2.2.1))), (ta3, .inl (cyA G 0, 32768, .inl (q_6.2.2.2.2.2.1))), (ta4, .inl (cyA G 0, 32768, .inl (q_6.2.2.2.2.2.2.1))), (ta5, .inl (cyA G 0, 32768, .inl (q_6.2.2.2.2.2.2.2.1))), (ta6, .inl (cyA G 0, 32768, .inl (q_6.2.2.2.2.2.2.2.2.1))), (ta7, .inl (cyA G 1, 32768, .inl (q_6.2.2.2.2.2.2.2.2.2)))] := hD
  refine W.widen (k := 0) (n := 0) (Nat.le_of_ble_eq_true rfl) (Nat.le_of_ble_eq_true rfl) ?_
  refine lv_istore (lv' := [(7, .int q_6.1), (6, .int cc), (0, .ref s1), (1, .int p1), (2, .int p2), (3, .int p3), (4, .int p4), (5, .int p5)]) hx hb dX7_enterConstructor_77 hl (by decide) rfl (fun ls hl => ?_)
  refine lv_iload_n hx hb dX7_enterConstructor_79 rfl (lv_at hl 4 rfl) ?_
  refine lv_iconst (v := 1) hx hb dX7_enterConstructor_80 (by decide) ?_
  refine lv_isub hx hb dX7_enterConstructor_81 ?_
  refine lv_istore (lv' := [(8, .int (p2 - 1)), (7, .int q_6.1), (6, .int cc), (0, .ref s1), (1, .int p1), (2, .int p2), (3, .int p3), (4, .int p4), (5, .int p5)]) hx hb dX7_enterConstructor_82 hl (by decide) rfl (fun ls hl => ?_)
  have hP9 := hP.sub (ws' := [(s1, .inr (6, [.ref t1, .ref sr1, .ref sr2, .ref sr3, .ref sr4, .ref sr5, .ref sr6, .ref sr7, .int dc, .int (cc + 1)])), (sr2, .inl (cyA G 0, 16, .inl (upd sf_owners (Int32.toNatClampNeg cc) p1))), (sr3, .inl (cyA G 0, 16, .inl (upd sf_partCounts (Int32.toNatClampNeg cc) p2))), (sr4, .inl (cyA G 0, 48, .inl (upd (upd (upd sf_parts (Int32.toNatClampNeg (cc * 3)) p3) (Int32.toNatClampNeg ((cc * 3) + 1)) p4) (Int32.toNatClampNeg ((cc * 3) + 2)) p5))), (sr5, .inl (cyA G 0, 16, .inl (sf_types))), (sr6, .inl (cyA G 0, 16, .inl (sf_ranks))), (sr7, .inl (cyA G 0, 6, .inl (sf_constructorsOfData))), (t1, .inr (8, [.ref ta0, .ref ta1, .ref ta2, .ref ta3, .ref ta4, .ref ta5, .ref ta6, .ref ta7, .ref ta8, .int q_6.2.1])), (ta0, .inl (cyA G 0, 32768, .inl (q_6.2.2.1))), (ta1, .inl (cyA G 0, 32768, .inl (q_6.2.2.2.1))), (ta2, .inl (cyA G 0, 32768, .inl (q_6.2.2.2.2.1))), (ta3, .inl (cyA G 0, 32768, .inl (q_6.2.2.2.2.2.1))), (ta4, .inl (cyA G 0, 32768, .inl (q_6.2.2.2.2.2.2.1))), (ta5, .inl (cyA G 0, 32768, .inl (q_6.2.2.2.2.2.2.2.1))), (ta6, .inl (cyA G 0, 32768, .inl (q_6.2.2.2.2.2.2.2.2.1))), (ta7, .inl (cyA G 1, 32768, .inl (q_6.2.2.2.2.2.2.2.2.2)))]) [0, 1, 2, 3, 4, 5, 6, 7, 8, 9, 10, 11, 12, 13, 14, 15] rfl
  have hD9 := hD.sub (ws' := [(s1, .inr (6, [.ref t1, .ref sr1, .ref sr2, .ref sr3, .ref sr4, .ref sr5, .ref sr6, .ref sr7, .int dc, .int (cc + 1)])), (sr2, .inl (cyA G 0, 16, .inl (upd sf_owners (Int32.toNatClampNeg cc) p1))), (sr3, .inl (cyA G 0, 16, .inl (upd sf_partCounts (Int32.toNatClampNeg cc) p2))), (sr4, .inl (cyA G 0, 48, .inl (upd (upd (upd sf_parts (Int32.toNatClampNeg (cc * 3)) p3) (Int32.toNatClampNeg ((cc * 3) + 1)) p4) (Int32.toNatClampNeg ((cc * 3) + 2)) p5))), (sr5, .inl (cyA G 0, 16, .inl (sf_types))), (sr6, .inl (cyA G 0, 16, .inl (sf_ranks))), (sr7, .inl (cyA G 0, 6, .inl (sf_constructorsOfData))), (t1, .inr (8, [.ref ta0, .ref ta1, .ref ta2, .ref ta3, .ref ta4, .ref ta5, .ref ta6, .ref ta7, .ref ta8, .int q_6.2.1])), (ta0, .inl (cyA G 0, 32768, .inl (q_6.2.2.1))), (ta1, .inl (cyA G 0, 32768, .inl (q_6.2.2.2.1))), (ta2, .inl (cyA G 0, 32768, .inl (q_6.2.2.2.2.1))), (ta3, .inl (cyA G 0, 32768, .inl (q_6.2.2.2.2.2.1))), (ta4, .inl (cyA G 0, 32768, .inl (q_6.2.2.2.2.2.2.1))), (ta5, .inl (cyA G 0, 32768, .inl (q_6.2.2.2.2.2.2.2.1))), (ta6, .inl (cyA G 0, 32768, .inl (q_6.2.2.2.2.2.2.2.2.1))), (ta7, .inl (cyA G 1, 32768, .inl (q_6.2.2.2.2.2.2.2.2.2)))]) [0, 1, 2, 3, 4, 5, 6, 7, 8, 9, 10, 11, 12, 13, 14, 15] (by decide) rfl
  refine W.widen (k := 0) (n := 0) (Nat.le_of_ble_eq_true rfl) (Nat.le_of_ble_eq_true rfl) ?_
  exact kl_X7_enterConstructor_84 hfl hx hb hr hml hown hts hlocks hA hE hK r9 cc_9 sf_owners_9 sf_partCounts_9 sf_parts_9 sf_types_9 sf_ranks_9 sf_constructorsOfData_9 mm_9 tf0_9 tf1_9 tf2_9 tf3_9 tf4_9 tf5_9 tf6_9 tf7_9 100000 (cc + 1) (upd sf_owners (Int32.toNatClampNeg cc) p1) (upd sf_partCounts (Int32.toNatClampNeg cc) p2) (upd (upd (upd sf_parts (Int32.toNatClampNeg (cc * 3)) p3) (Int32.toNatClampNeg ((cc * 3) + 1)) p4) (Int32.toNatClampNeg ((cc * 3) + 2)) p5) sf_types sf_ranks sf_constructorsOfData q_6.2.1 q_6.2.2.1 q_6.2.2.2.1 q_6.2.2.2.2.1 q_6.2.2.2.2.2.1 q_6.2.2.2.2.2.2.1 q_6.2.2.2.2.2.2.2.1 q_6.2.2.2.2.2.2.2.2.1 q_6.2.2.2.2.2.2.2.2.2 p1 cc q_6.1 (p2 - 1) _ _ hP9 hD9 hS _ (lv_sub hl [3, 4, 2, 1, 0] rfl) hm
