set_option maxHeartbeats 4000000 in
set_option maxRecDepth 100000 in
theorem k_X0_goalsThatAre (l : Launch) (hfl : l.stackTraces = false) (G : GC) (d1 : Nat) (p0 : Int32) (df0 : Nat) (df1 : Nat) (df2 : Nat) (df3 : Nat) (df4 : Nat) (sz : Nat) : Met l yX0_goalsThatAre (Cond.code yX0_goalsThatAre cX0_goalsThatAre 5 (some .int) :: W0) ({ frames := 0, cells := 0, slots := 0, locals := 0 }) (va_Pc [.ref d1, .int p0] (WD G [(d1, .inr (2, [.ref df0, .ref df1, .ref df2, .ref df3, .ref df4, .int 0, .int 0, .int 0]))] sz)) (va_Qi (fun (r : Int32) (_ : Unit) => r = 0) (fun _ t => PW G (va_A [(d1, .inr (2, [.ref df0, .ref df1, .ref df2, .ref df3, .ref df4, .int 0, .int 0, .int 0]))] sz) [(d1, .inr (2, [.ref df0, .ref df1, .ref df2, .ref df3, .ref df4, .int 0, .int 0, .int 0]))] t) (va_A [(d1, .inr (2, [.ref df0, .ref df1, .ref df2, .ref df3, .ref df4, .int 0, .int 0, .int 0]))] sz)) 0 0 (va_A [(d1, .inr (2, [.ref df0, .ref df1, .ref df2, .ref df3, .ref df4, .int 0, .int 0, .int 0]))] sz) := by
  refine Met.ofW (cc := cX0_goalsThatAre) (maxL := 5) (ret := (some .int)) (by decide) rfl ?_
  intro p e s m args below meth c s₁ B hml hv
  obtain ⟨rfl, hsz, hP, hK, hD0, hE⟩ := hv
  have hx := B.exec
  have hb := B.bytes
  have hr := B.returns
  have hts := w0_tail B.pre
  have hown : s.vm.findClass RX0 = some m.cls := findClass_of_methodNamed B.named
  have hlocks := B.notSynchronized
  subst hsz
  have hD := hD0.self (sz := s.heap.size)
  generalize hAe : va_A [(d1, .inr (2, [.ref df0, .ref df1, .ref df2, .ref df3, .ref df4, .int 0, .int 0, .int 0]))] s.heap.size = A at hD hE ⊢
  have hA : ∀ q : Nat, s.heap.size ≤ q → A q := fun q h => by rw [← hAe]; exact Or.inr h
  have hS : va_S A s.heap s.heap [] := va_S.rf
  obtain ⟨H, hHe⟩ : ∃ H : Heap, H = s.heap := ⟨_, rfl⟩
  have hP : va_P (DG G) clP1 [(d1, .inr (2, [.ref df0, .ref df1, .ref df2, .ref df3, .ref df4, .int 0, .int 0, .int 0]))] H := by rw [hHe]; exact hP
  have hS : va_S A s.heap H [] := by rw [hHe]; exact hS
  have hl := lv_entry ([.ref d1, .int p0]) (n := 5) (Nat.le_of_ble_eq_true rfl)
  rw [lg_entry_eq, ← hHe]
  generalize (lg_sl ([.ref d1, .int p0]) ++ List.replicate (5 - (lg_sl ([.ref d1, .int p0])).length) Slot.unset).toArray = ls at hl ⊢
  have hl : lv_has ls 5 [(0, .ref d1), (1, .int p0)] := hl
  refine lv_iconst (v := 0) hx hb dX0_goalsThatAre_0 (by decide) ?_
  refine lv_istore_n (lv' := [(2, .int 0), (0, .ref d1), (1, .int p0)]) hx hb dX0_goalsThatAre_1 rfl hl (by decide) rfl (fun ls hl => ?_)
  refine lv_iconst (v := 0) hx hb dX0_goalsThatAre_2 (by decide) ?_
  refine lv_istore_n (lv' := [(3, .int 0), (2, .int 0), (0, .ref d1), (1, .int p0)]) hx hb dX0_goalsThatAre_3 rfl hl (by decide) rfl (fun ls hl => ?_)
  refine lv_iload_n hx hb dX0_goalsThatAre_4 rfl (lv_at hl 0 rfl) ?_
  refine lv_aload_n hx hb dX0_goalsThatAre_5 rfl (lv_at hl 2 rfl) ?_
  refine va_get (D := DG G) (ci := 2) (v := .int 0) (C := RX0) (T := TX0) (N := 8) hx hb hts inW_X0 hown hK hP 0 rfl rfl 6 (by decide) (hts _ wm161) (fun _ h9 => h9) rfl dX0_goalsThatAre_6 ?_
  refine lv_icmp_ge (tgt := 42) hx hb dX0_goalsThatAre_9 (by decide) (fun _ => ?_) (fun c => absurd (by decide) c)
  refine lv_iload_n hx hb dX0_goalsThatAre_42 rfl (lv_at hl 1 rfl) ?_
  have hP9 := hP.sub (ws' := [(d1, .inr (2, [.ref df0, .ref df1, .ref df2, .ref df3, .ref df4, .int 0, .int 0, .int 0]))]) [0] rfl
  have hD9 := hD.sub (ws' := [(d1, .inr (2, [.ref df0, .ref df1, .ref df2, .ref df3, .ref df4, .int 0, .int 0, .int 0]))]) [0] (by decide) rfl
  refine W.widen (k := 0) (n := 0) (Nat.le_of_ble_eq_true rfl) (Nat.le_of_ble_eq_true rfl) ?_
  exact W.iret (v := 0) hx hb hr (fun t ht hW => ⟨⟨0, (), rfl, rfl, ⟨by rw [ht]; exact hP9, hD9⟩⟩, hS.F ht⟩) hS.2.2 dX0_goalsThatAre_43 hlocks
set_option maxHeartbeats 4000000 in
set_option maxRecDepth 100000 in
theorem k_X0_anAcceptedOneIsOpen (l : Launch) (hfl : l.stackTraces = false) (G : GC) (d1 : Nat) (df0 : Nat) (df1 : Nat) (df2 : Nat) (df3 : Nat) (df4 : Nat) (sz : Nat) : Met l yX0_anAcceptedOneIsOpen (Cond.code yX0_anAcceptedOneIsOpen cX0_anAcceptedOneIsOpen 2 (some .boolean) :: W0) ({ frames := 0, cells := 0, slots := 0, locals := 0 }) (va_Pc [.ref d1] (WD G [(d1, .inr (2, [.ref df0, .ref df1, .ref df2, .ref df3, .ref df4, .int 0, .int 0, .int 0]))] sz)) (va_Qi (fun (r : Int32) (_ : Unit) => r = 0) (fun _ t => PW G (va_A [(d1, .inr (2, [.ref df0, .ref df1, .ref df2, .ref df3, .ref df4, .int 0, .int 0, .int 0]))] sz) [(d1, .inr (2, [.ref df0, .ref df1, .ref df2, .ref df3, .ref df4, .int 0, .int 0, .int 0]))] t) (va_A [(d1, .inr (2, [.ref df0, .ref df1, .ref df2, .ref df3, .ref df4, .int 0, .int 0, .int 0]))] sz)) 0 0 (va_A [(d1, .inr (2, [.ref df0, .ref df1, .ref df2, .ref df3, .ref df4, .int 0, .int 0, .int 0]))] sz) := by
  refine Met.ofW (cc := cX0_anAcceptedOneIsOpen) (maxL := 2) (ret := (some .boolean)) (by decide) rfl ?_
  intro p e s m args below meth c s₁ B hml hv
  obtain ⟨rfl, hsz, hP, hK, hD0, hE⟩ := hv
  have hx := B.exec
  have hb := B.bytes
  have hr := B.returns
  have hts := w0_tail B.pre
  have hown : s.vm.findClass RX0 = some m.cls := findClass_of_methodNamed B.named
  have hlocks := B.notSynchronized
  subst hsz
  have hD := hD0.self (sz := s.heap.size)
  generalize hAe : va_A [(d1, .inr (2, [.ref df0, .ref df1, .ref df2, .ref df3, .ref df4, .int 0, .int 0, .int 0]))] s.heap.size = A at hD hE ⊢
  have hA : ∀ q : Nat, s.heap.size ≤ q → A q := fun q h => by rw [← hAe]; exact Or.inr h
  have hS : va_S A s.heap s.heap [] := va_S.rf
  obtain ⟨H, hHe⟩ : ∃ H : Heap, H = s.heap := ⟨_, rfl⟩
  have hP : va_P (DG G) clP1 [(d1, .inr (2, [.ref df0, .ref df1, .ref df2, .ref df3, .ref df4, .int 0, .int 0, .int 0]))] H := by rw [hHe]; exact hP
  have hS : va_S A s.heap H [] := by rw [hHe]; exact hS
  have hl := lv_entry ([.ref d1]) (n := 2) (Nat.le_of_ble_eq_true rfl)
  rw [lg_entry_eq, ← hHe]
  generalize (lg_sl ([.ref d1]) ++ List.replicate (2 - (lg_sl ([.ref d1])).length) Slot.unset).toArray = ls at hl ⊢
  have hl : lv_has ls 2 [(0, .ref d1)] := hl
  refine lv_iconst (v := 0) hx hb dX0_anAcceptedOneIsOpen_0 (by decide) ?_
  refine lv_istore_n (lv' := [(1, .int 0), (0, .ref d1)]) hx hb dX0_anAcceptedOneIsOpen_1 rfl hl (by decide) rfl (fun ls hl => ?_)
  refine lv_iload_n hx hb dX0_anAcceptedOneIsOpen_2 rfl (lv_at hl 0 rfl) ?_
  refine lv_aload_n hx hb dX0_anAcceptedOneIsOpen_3 rfl (lv_at hl 1 rfl) ?_
  refine va_get (D := DG G) (ci := 2) (v := .int 0) (C := RX0) (T := TX0) (N := 8) hx hb hts inW_X0 hown hK hP 0 rfl rfl 5 (by decide) (hts _ wm159) (fun _ h9 => h9) rfl dX0_anAcceptedOneIsOpen_4 ?_
  refine lv_icmp_ge (tgt := 34) hx hb dX0_anAcceptedOneIsOpen_7 (by decide) (fun _ => ?_) (fun c => absurd (by decide) c)
  refine lv_iconst (v := 0) hx hb dX0_anAcceptedOneIsOpen_34 (by decide) ?_
  have hP9 := hP.sub (ws' := [(d1, .inr (2, [.ref df0, .ref df1, .ref df2, .ref df3, .ref df4, .int 0, .int 0, .int 0]))]) [0] rfl
  have hD9 := hD.sub (ws' := [(d1, .inr (2, [.ref df0, .ref df1, .ref df2, .ref df3, .ref df4, .int 0, .int 0, .int 0]))]) [0] (by decide) rfl
  refine W.widen (k := 0) (n := 0) (Nat.le_of_ble_eq_true rfl) (Nat.le_of_ble_eq_true rfl) ?_
  exact W.zret (v := 0) (ty := .boolean) hx hb hr (by decide) (fun t ht hW => ⟨⟨0, (), rfl, rfl, ⟨by rw [ht]; exact hP9, hD9⟩⟩, hS.F ht⟩) hS.2.2 dX0_anAcceptedOneIsOpen_35 hlocks
set_option maxHeartbeats 4000000 in
set_option maxRecDepth 100000 in
theorem k_X0_twoAreAlike (l : Launch) (hfl : l.stackTraces = false) (G : GC) (d1 : Nat) (df0 : Nat) (df1 : Nat) (df2 : Nat) (df3 : Nat) (df4 : Nat) (sz : Nat) : Met l yX0_twoAreAlike (Cond.code yX0_twoAreAlike cX0_twoAreAlike 3 (some .boolean) :: W0) ({ frames := 0, cells := 0, slots := 0, locals := 0 }) (va_Pc [.ref d1] (WD G [(d1, .inr (2, [.ref df0, .ref df1, .ref df2, .ref df3, .ref df4, .int 0, .int 0, .int 0]))] sz)) (va_Qi (fun (r : Int32) (_ : Unit) => r = 0) (fun _ t => PW G (va_A [(d1, .inr (2, [.ref df0, .ref df1, .ref df2, .ref df3, .ref df4, .int 0, .int 0, .int 0]))] sz) [(d1, .inr (2, [.ref df0, .ref df1, .ref df2, .ref df3, .ref df4, .int 0, .int 0, .int 0]))] t) (va_A [(d1, .inr (2, [.ref df0, .ref df1, .ref df2, .ref df3, .ref df4, .int 0, .int 0, .int 0]))] sz)) 0 0 (va_A [(d1, .inr (2, [.ref df0, .ref df1, .ref df2, .ref df3, .ref df4, .int 0, .int 0, .int 0]))] sz) := by
  refine Met.ofW (cc := cX0_twoAreAlike) (maxL := 3) (ret := (some .boolean)) (by decide) rfl ?_
  intro p e s m args below meth c s₁ B hml hv
  obtain ⟨rfl, hsz, hP, hK, hD0, hE⟩ := hv
  have hx := B.exec
  have hb := B.bytes
  have hr := B.returns
  have hts := w0_tail B.pre
  have hown : s.vm.findClass RX0 = some m.cls := findClass_of_methodNamed B.named
  have hlocks := B.notSynchronized
  subst hsz
  have hD := hD0.self (sz := s.heap.size)
  generalize hAe : va_A [(d1, .inr (2, [.ref df0, .ref df1, .ref df2, .ref df3, .ref df4, .int 0, .int 0, .int 0]))] s.heap.size = A at hD hE ⊢
  have hA : ∀ q : Nat, s.heap.size ≤ q → A q := fun q h => by rw [← hAe]; exact Or.inr h
  have hS : va_S A s.heap s.heap [] := va_S.rf
  obtain ⟨H, hHe⟩ : ∃ H : Heap, H = s.heap := ⟨_, rfl⟩
  have hP : va_P (DG G) clP1 [(d1, .inr (2, [.ref df0, .ref df1, .ref df2, .ref df3, .ref df4, .int 0, .int 0, .int 0]))] H := by rw [hHe]; exact hP
  have hS : va_S A s.heap H [] := by rw [hHe]; exact hS
  have hl := lv_entry ([.ref d1]) (n := 3) (Nat.le_of_ble_eq_true rfl)
  rw [lg_entry_eq, ← hHe]
  generalize (lg_sl ([.ref d1]) ++ List.replicate (3 - (lg_sl ([.ref d1])).length) Slot.unset).toArray = ls at hl ⊢
  have hl : lv_has ls 3 [(0, .ref d1)] := hl
  refine lv_iconst (v := 0) hx hb dX0_twoAreAlike_0 (by decide) ?_
  refine lv_istore_n (lv' := [(1, .int 0), (0, .ref d1)]) hx hb dX0_twoAreAlike_1 rfl hl (by decide) rfl (fun ls hl => ?_)
  refine lv_iload_n hx hb dX0_twoAreAlike_2 rfl (lv_at hl 0 rfl) ?_
  refine lv_aload_n hx hb dX0_twoAreAlike_3 rfl (lv_at hl 1 rfl) ?_
  refine va_get (D := DG G) (ci := 2) (v := .int 0) (C := RX0) (T := TX0) (N := 8) hx hb hts inW_X0 hown hK hP 0 rfl rfl 6 (by decide) (hts _ wm161) (fun _ h9 => h9) rfl dX0_twoAreAlike_4 ?_
  refine lv_icmp_ge (tgt := 53) hx hb dX0_twoAreAlike_7 (by decide) (fun _ => ?_) (fun c => absurd (by decide) c)
  refine lv_iconst (v := 0) hx hb dX0_twoAreAlike_53 (by decide) ?_
  have hP9 := hP.sub (ws' := [(d1, .inr (2, [.ref df0, .ref df1, .ref df2, .ref df3, .ref df4, .int 0, .int 0, .int 0]))]) [0] rfl
  have hD9 := hD.sub (ws' := [(d1, .inr (2, [.ref df0, .ref df1, .ref df2, .ref df3, .ref df4, .int 0, .int 0, .int 0]))]) [0] (by decide) rfl
  refine W.widen (k := 0) (n := 0) (Nat.le_of_ble_eq_true rfl) (Nat.le_of_ble_eq_true rfl) ?_
  exact W.zret (v := 0) (ty := .boolean) hx hb hr (by decide) (fun t ht hW => ⟨⟨0, (), rfl, rfl, ⟨by rw [ht]; exact hP9, hD9⟩⟩, hS.F ht⟩) hS.2.2 dX0_twoAreAlike_54 hlocks
set_option maxHeartbeats 4000000 in
set_option maxRecDepth 100000 in
theorem k_X11_filledShare (l : Launch) (hfl : l.stackTraces = false) (G : GC) (h0 : Nat) (t1 : Nat) (f1 : Nat) (s1 : Nat) (d1 : Nat) (y1 : Nat) (g1 : Nat) (m1 : Nat) (n1 : Nat) (df0 : Nat) (df1 : Nat) (df2 : Nat) (df3 : Nat) (df4 : Nat) (sz : Nat) : vx_Met l yX11_filledShare (Cond.code yX11_filledShare cX11_filledShare 3 (some .float) :: W0) ({ frames := 6, cells := 1, slots := 6, locals := 82 }) (va_Pc [.ref h0] (WD G [(h0, .inr (10, [.ref t1, .ref f1, .ref s1, .ref d1, .ref y1, .ref g1, .ref m1, .ref n1, .int 0, .long 0])), (d1, .inr (2, [.ref df0, .ref df1, .ref df2, .ref df3, .ref df4, .int 0, .int 0, .int 0]))] sz)) (va_Qf (S := Unit) (fun _ _ => False) (fun _ _ => True) (va_A [(h0, .inr (10, [.ref t1, .ref f1, .ref s1, .ref d1, .ref y1, .ref g1, .ref m1, .ref n1, .int 0, .long 0])), (d1, .inr (2, [.ref df0, .ref df1, .ref df2, .ref df3, .ref df4, .int 0, .int 0, .int 0]))] sz)) (vx_X (fun _ : Unit => True) (fun (E : String) (_ : Unit) (_ : State) => E = "java/lang/ArithmeticException") (va_A [(h0, .inr (10, [.ref t1, .ref f1, .ref s1, .ref d1, .ref y1, .ref g1, .ref m1, .ref n1, .int 0, .long 0])), (d1, .inr (2, [.ref df0, .ref df1, .ref df2, .ref df3, .ref df4, .int 0, .int 0, .int 0]))] sz)) 1 6 (va_A [(h0, .inr (10, [.ref t1, .ref f1, .ref s1, .ref d1, .ref y1, .ref g1, .ref m1, .ref n1, .int 0, .long 0])), (d1, .inr (2, [.ref df0, .ref df1, .ref df2, .ref df3, .ref df4, .int 0, .int 0, .int 0]))] sz) := by
  refine vx_ofW (cc := cX11_filledShare) (maxL := 3) (ret := (some .float)) (by decide) rfl ?_
  intro p e s m args below meth c s₁ B hml hout0 hv
  obtain ⟨rfl, hsz, hP, hK, hD0, hE⟩ := hv
  have hx := B.exec
  have hb := B.bytes
  have hr := B.returns
  have hts := w0_tail B.pre
  have hown : s.vm.findClass RX11 = some m.cls := findClass_of_methodNamed B.named
  have hlocks := B.notSynchronized
  subst hsz
  have hD := hD0.self (sz := s.heap.size)
  generalize hAe : va_A [(h0, .inr (10, [.ref t1, .ref f1, .ref s1, .ref d1, .ref y1, .ref g1, .ref m1, .ref n1, .int 0, .long 0])), (d1, .inr (2, [.ref df0, .ref df1, .ref df2, .ref df3, .ref df4, .int 0, .int 0, .int 0]))] s.heap.size = A at hD hE ⊢
  have hA : ∀ q : Nat, s.heap.size ≤ q → A q := fun q h => by rw [← hAe]; exact Or.inr h
  have hS : va_S A s.heap s.heap [] := va_S.rf
  obtain ⟨H, hHe⟩ : ∃ H : Heap, H = s.heap := ⟨_, rfl⟩
  have hP : va_P (DG G) clP1 [(h0, .inr (10, [.ref t1, .ref f1, .ref s1, .ref d1, .ref y1, .ref g1, .ref m1, .ref n1, .int 0, .long 0])), (d1, .inr (2, [.ref df0, .ref df1, .ref df2, .ref df3, .ref df4, .int 0, .int 0, .int 0]))] H := by rw [hHe]; exact hP
  have hS : va_S A s.heap H [] := by rw [hHe]; exact hS
  have hl := lv_entry ([.ref h0]) (n := 3) (Nat.le_of_ble_eq_true rfl)
  rw [lg_entry_eq, ← hHe]
  generalize (lg_sl ([.ref h0]) ++ List.replicate (3 - (lg_sl ([.ref h0])).length) Slot.unset).toArray = ls at hl ⊢
  have hl : lv_has ls 3 [(0, .ref h0)] := hl
  refine lv_aload_n hx hb dX11_filledShare_0 rfl (lv_at hl 0 rfl) ?_
  refine va_get (D := DG G) (ci := 10) (v := .ref d1) (C := RX11) (T := TX11) (N := 10) hx hb hts inW_X11 hown hK hP 0 rfl rfl 3 (by decide) (hts _ wm302) (fun _ h9 => h9) rfl dX11_filledShare_1 ?_
  refine lv_bipush (v := 102) hx hb dX11_filledShare_4 (by decide) ?_
  have hFc := va_free (wc := [(d1, .inr (2, [.ref df0, .ref df1, .ref df2, .ref df3, .ref df4, .int 0, .int 0, .int 0]))]) hD hS hA [1] rfl
  refine va_calli (va_runV (As := [.int 102]) (rest := []) ⟨hx, hb, hml, hown, hts⟩ (k_X0_goalsThatAre l hfl G d1 102 df0 df1 df2 df3 df4 H.size) (cwV 1 hts (gV wm1290 wm1291 wm1292 wm5 wm1293) rfl rfl rfl (by decide +kernel) ⟨Nat.le_of_ble_eq_true rfl, Nat.le_of_ble_eq_true rfl⟩) (pre_v (pre_s hK hP hD hS hE [1] rfl rfl (by decide) hFc) (va_recv hK hP (ci := 2) (q0 := 1) rfl rfl)) rfl rfl hl.1 rfl (lv_room (Nat.le_of_ble_eq_true rfl)) dX11_filledShare_6 ⟨Nat.le_of_ble_eq_true rfl, Nat.le_of_ble_eq_true rfl⟩) hS (fun q _ h => hFc q h) hFc (fun r u t H locs ht hvm hw hB hz1 hk1 hS => ?_)
  obtain rfl : r = 0 := hw
  obtain ⟨hP1, hD1⟩ := hB
  rw [ht] at hP1
  obtain ⟨hP, hD⟩ := va_join (wr := [(h0, .inr (10, [.ref t1, .ref f1, .ref s1, .ref d1, .ref y1, .ref g1, .ref m1, .ref n1, .int 0, .long 0]))]) (w1 := [(d1, .inr (2, [.ref df0, .ref df1, .ref df2, .ref df3, .ref df4, .int 0, .int 0, .int 0]))]) hP hD [1] [0] rfl rfl (by decide) (by decide) hk1 hFc hP1 hD1
  have hP : va_P (DG G) clP1 [(h0, .inr (10, [.ref t1, .ref f1, .ref s1, .ref d1, .ref y1, .ref g1, .ref m1, .ref n1, .int 0, .long 0])), (d1, .inr (2, [.ref df0, .ref df1, .ref df2, .ref df3, .ref df4, .int 0, .int 0, .int 0]))] H := hP
  have hD : va_D A [(h0, .inr (10, [.ref t1, .ref f1, .ref s1, .ref d1, .ref y1, .ref g1, .ref m1, .ref n1, .int 0, .long 0])), (d1, .inr (2, [.ref df0, .ref df1, .ref df2, .ref df3, .ref df4, .int 0, .int 0, .int 0]))] := hD
  refine W.widen (k := 0) (n := 0) (Nat.le_of_ble_eq_true rfl) (Nat.le_of_ble_eq_true rfl) ?_
  refine lv_istore_n (lv' := [(1, .int 0), (0, .ref h0)]) hx hb dX11_filledShare_9 rfl hl (by decide) rfl (fun ls hl => ?_)
  refine lv_iload_n hx hb dX11_filledShare_10 rfl (lv_at hl 0 rfl) ?_
  refine lv_aload_n hx hb dX11_filledShare_11 rfl (lv_at hl 1 rfl) ?_
  refine va_get (D := DG G) (ci := 10) (v := .ref d1) (C := RX11) (T := TX11) (N := 10) hx hb hts inW_X11 hown hK hP 0 rfl rfl 3 (by decide) (hts _ wm302) (fun _ h9 => h9) rfl dX11_filledShare_12 ?_
  refine lv_bipush (v := 111) hx hb dX11_filledShare_15 (by decide) ?_
  have hFc := va_free (wc := [(d1, .inr (2, [.ref df0, .ref df1, .ref df2, .ref df3, .ref df4, .int 0, .int 0, .int 0]))]) hD hS hA [1] rfl
  refine va_calli (va_runV (As := [.int 111]) (rest := [.int 0]) ⟨hx, hb, hml, hown, hts⟩ (k_X0_goalsThatAre l hfl G d1 111 df0 df1 df2 df3 df4 H.size) (cwV 1 hts (gV wm1290 wm1291 wm1292 wm5 wm1293) rfl rfl rfl (by decide +kernel) ⟨Nat.le_of_ble_eq_true rfl, Nat.le_of_ble_eq_true rfl⟩) (pre_v (pre_s hK hP hD hS hE [1] rfl rfl (by decide) hFc) (va_recv hK hP (ci := 2) (q0 := 1) rfl rfl)) rfl rfl hl.1 rfl (lv_room (Nat.le_of_ble_eq_true rfl)) dX11_filledShare_17 ⟨Nat.le_of_ble_eq_true rfl, Nat.le_of_ble_eq_true rfl⟩) hS (fun q _ h => hFc q h) hFc (fun r u t H locs ht hvm hw hB hz1 hk1 hS => ?_)
  obtain rfl : r = 0 := hw
  obtain ⟨hP1, hD1⟩ := hB
  rw [ht] at hP1
  obtain ⟨hP, hD⟩ := va_join (wr := [(h0, .inr (10, [.ref t1, .ref f1, .ref s1, .ref d1, .ref y1, .ref g1, .ref m1, .ref n1, .int 0, .long 0]))]) (w1 := [(d1, .inr (2, [.ref df0, .ref df1, .ref df2, .ref df3, .ref df4, .int 0, .int 0, .int 0]))]) hP hD [1] [0] rfl rfl (by decide) (by decide) hk1 hFc hP1 hD1
  have hP : va_P (DG G) clP1 [(h0, .inr (10, [.ref t1, .ref f1, .ref s1, .ref d1, .ref y1, .ref g1, .ref m1, .ref n1, .int 0, .long 0])), (d1, .inr (2, [.ref df0, .ref df1, .ref df2, .ref df3, .ref df4, .int 0, .int 0, .int 0]))] H := hP
  have hD : va_D A [(h0, .inr (10, [.ref t1, .ref f1, .ref s1, .ref d1, .ref y1, .ref g1, .ref m1, .ref n1, .int 0, .long 0])), (d1, .inr (2, [.ref df0, .ref df1, .ref df2, .ref df3, .ref df4, .int 0, .int 0, .int 0]))] := hD
  refine W.widen (k := 0) (n := 0) (Nat.le_of_ble_eq_true rfl) (Nat.le_of_ble_eq_true rfl) ?_
  refine lv_iadd hx hb dX11_filledShare_20 ?_
  refine lv_topi (fun z_1 ez_1 => ?_)
  obtain rfl : z_1 = 0 := ez_1.trans (by decide)
  refine lv_istore_n (lv' := [(2, .int 0), (1, .int 0), (0, .ref h0)]) hx hb dX11_filledShare_21 rfl hl (by decide) rfl (fun ls hl => ?_)
  refine lv_iload_n hx hb dX11_filledShare_22 rfl (lv_at hl 0 rfl) ?_
  refine lv_if_ne (tgt := 37) hx hb dX11_filledShare_23 (by decide) (fun c => absurd (by decide) c) (fun _ => ?_)
  obtain ⟨sa, hsa⟩ := hE.2.1 _ stm8
  exact vx_throwSW (names := ["java/lang/RuntimeException", "java/lang/Exception"]) (A := A) (free := A) hx hb hfl hown (by decide +kernel) (by decide +kernel) (hts _ wm1294) (hts _ wm39) hsa (xX11_318_hat hts hE) xX11_318_good (EV.un hE) (EV.su hE) hS (hl.1.trans hml.symm) dX11_filledShare_26 dX11_filledShare_29 dX11_filledShare_30 dX11_filledShare_33 dX11_filledShare_36 (fun x hx => (hout0 x hx).elim) (Nat.le_of_ble_eq_true rfl) (Nat.le_of_ble_eq_true rfl) (Nat.le_of_ble_eq_true rfl) (Nat.le_of_ble_eq_true rfl) hlocks (fun t ha hz hk => ⟨(), trivial, rfl, xF hS hz hk⟩) hS.2.2 (Nat.le_of_ble_eq_true rfl) (Nat.le_of_ble_eq_true rfl)
set_option maxHeartbeats 4000000 in
set_option maxRecDepth 100000 in
theorem k_X11_meanSize (l : Launch) (hfl : l.stackTraces = false) (G : GC) (h0 : Nat) (t1 : Nat) (f1 : Nat) (s1 : Nat) (d1 : Nat) (y1 : Nat) (g1 : Nat) (m1 : Nat) (n1 : Nat) (df0 : Nat) (df1 : Nat) (df2 : Nat) (df3 : Nat) (df4 : Nat) (sz : Nat) : vx_Met l yX11_meanSize (Cond.code yX11_meanSize cX11_meanSize 2 (some .double) :: W0) ({ frames := 6, cells := 1, slots := 6, locals := 82 }) (va_Pc [.ref h0] (WD G [(h0, .inr (10, [.ref t1, .ref f1, .ref s1, .ref d1, .ref y1, .ref g1, .ref m1, .ref n1, .int 0, .long 0])), (d1, .inr (2, [.ref df0, .ref df1, .ref df2, .ref df3, .ref df4, .int 0, .int 0, .int 0]))] sz)) (va_Qd (S := Unit) (fun _ _ => False) (fun _ _ => True) (va_A [(h0, .inr (10, [.ref t1, .ref f1, .ref s1, .ref d1, .ref y1, .ref g1, .ref m1, .ref n1, .int 0, .long 0])), (d1, .inr (2, [.ref df0, .ref df1, .ref df2, .ref df3, .ref df4, .int 0, .int 0, .int 0]))] sz)) (vx_X (fun _ : Unit => True) (fun (E : String) (_ : Unit) (_ : State) => E = "java/lang/ArithmeticException") (va_A [(h0, .inr (10, [.ref t1, .ref f1, .ref s1, .ref d1, .ref y1, .ref g1, .ref m1, .ref n1, .int 0, .long 0])), (d1, .inr (2, [.ref df0, .ref df1, .ref df2, .ref df3, .ref df4, .int 0, .int 0, .int 0]))] sz)) 1 6 (va_A [(h0, .inr (10, [.ref t1, .ref f1, .ref s1, .ref d1, .ref y1, .ref g1, .ref m1, .ref n1, .int 0, .long 0])), (d1, .inr (2, [.ref df0, .ref df1, .ref df2, .ref df3, .ref df4, .int 0, .int 0, .int 0]))] sz) := by
  refine vx_ofW (cc := cX11_meanSize) (maxL := 2) (ret := (some .double)) (by decide) rfl ?_
  intro p e s m args below meth c s₁ B hml hout0 hv
  obtain ⟨rfl, hsz, hP, hK, hD0, hE⟩ := hv
  have hx := B.exec
  have hb := B.bytes
  have hr := B.returns
  have hts := w0_tail B.pre
  have hown : s.vm.findClass RX11 = some m.cls := findClass_of_methodNamed B.named
  have hlocks := B.notSynchronized
  subst hsz
  have hD := hD0.self (sz := s.heap.size)
  generalize hAe : va_A [(h0, .inr (10, [.ref t1, .ref f1, .ref s1, .ref d1, .ref y1, .ref g1, .ref m1, .ref n1, .int 0, .long 0])), (d1, .inr (2, [.ref df0, .ref df1, .ref df2, .ref df3, .ref df4, .int 0, .int 0, .int 0]))] s.heap.size = A at hD hE ⊢
  have hA : ∀ q : Nat, s.heap.size ≤ q → A q := fun q h => by rw [← hAe]; exact Or.inr h
  have hS : va_S A s.heap s.heap [] := va_S.rf
  obtain ⟨H, hHe⟩ : ∃ H : Heap, H = s.heap := ⟨_, rfl⟩
  have hP : va_P (DG G) clP1 [(h0, .inr (10, [.ref t1, .ref f1, .ref s1, .ref d1, .ref y1, .ref g1, .ref m1, .ref n1, .int 0, .long 0])), (d1, .inr (2, [.ref df0, .ref df1, .ref df2, .ref df3, .ref df4, .int 0, .int 0, .int 0]))] H := by rw [hHe]; exact hP
  have hS : va_S A s.heap H [] := by rw [hHe]; exact hS
  have hl := lv_entry ([.ref h0]) (n := 2) (Nat.le_of_ble_eq_true rfl)
  rw [lg_entry_eq, ← hHe]
  generalize (lg_sl ([.ref h0]) ++ List.replicate (2 - (lg_sl ([.ref h0])).length) Slot.unset).toArray = ls at hl ⊢
  have hl : lv_has ls 2 [(0, .ref h0)] := hl
  refine lv_aload_n hx hb dX11_meanSize_0 rfl (lv_at hl 0 rfl) ?_
  refine va_get (D := DG G) (ci := 10) (v := .ref d1) (C := RX11) (T := TX11) (N := 10) hx hb hts inW_X11 hown hK hP 0 rfl rfl 3 (by decide) (hts _ wm302) (fun _ h9 => h9) rfl dX11_meanSize_1 ?_
  refine lv_bipush (v := 102) hx hb dX11_meanSize_4 (by decide) ?_
  have hFc := va_free (wc := [(d1, .inr (2, [.ref df0, .ref df1, .ref df2, .ref df3, .ref df4, .int 0, .int 0, .int 0]))]) hD hS hA [1] rfl
  refine va_calli (va_runV (As := [.int 102]) (rest := []) ⟨hx, hb, hml, hown, hts⟩ (k_X0_goalsThatAre l hfl G d1 102 df0 df1 df2 df3 df4 H.size) (cwV 1 hts (gV wm1290 wm1291 wm1292 wm5 wm1293) rfl rfl rfl (by decide +kernel) ⟨Nat.le_of_ble_eq_true rfl, Nat.le_of_ble_eq_true rfl⟩) (pre_v (pre_s hK hP hD hS hE [1] rfl rfl (by decide) hFc) (va_recv hK hP (ci := 2) (q0 := 1) rfl rfl)) rfl rfl hl.1 rfl (lv_room (Nat.le_of_ble_eq_true rfl)) dX11_meanSize_6 ⟨Nat.le_of_ble_eq_true rfl, Nat.le_of_ble_eq_true rfl⟩) hS (fun q _ h => hFc q h) hFc (fun r u t H locs ht hvm hw hB hz1 hk1 hS => ?_)
  obtain rfl : r = 0 := hw
  obtain ⟨hP1, hD1⟩ := hB
  rw [ht] at hP1
  obtain ⟨hP, hD⟩ := va_join (wr := [(h0, .inr (10, [.ref t1, .ref f1, .ref s1, .ref d1, .ref y1, .ref g1, .ref m1, .ref n1, .int 0, .long 0]))]) (w1 := [(d1, .inr (2, [.ref df0, .ref df1, .ref df2, .ref df3, .ref df4, .int 0, .int 0, .int 0]))]) hP hD [1] [0] rfl rfl (by decide) (by decide) hk1 hFc hP1 hD1
  have hP : va_P (DG G) clP1 [(h0, .inr (10, [.ref t1, .ref f1, .ref s1, .ref d1, .ref y1, .ref g1, .ref m1, .ref n1, .int 0, .long 0])), (d1, .inr (2, [.ref df0, .ref df1, .ref df2, .ref df3, .ref df4, .int 0, .int 0, .int 0]))] H := hP
  have hD : va_D A [(h0, .inr (10, [.ref t1, .ref f1, .ref s1, .ref d1, .ref y1, .ref g1, .ref m1, .ref n1, .int 0, .long 0])), (d1, .inr (2, [.ref df0, .ref df1, .ref df2, .ref df3, .ref df4, .int 0, .int 0, .int 0]))] := hD
  refine W.widen (k := 0) (n := 0) (Nat.le_of_ble_eq_true rfl) (Nat.le_of_ble_eq_true rfl) ?_
  refine lv_istore_n (lv' := [(1, .int 0), (0, .ref h0)]) hx hb dX11_meanSize_9 rfl hl (by decide) rfl (fun ls hl => ?_)
  refine lv_iload_n hx hb dX11_meanSize_10 rfl (lv_at hl 0 rfl) ?_
  refine lv_if_ne (tgt := 25) hx hb dX11_meanSize_11 (by decide) (fun c => absurd (by decide) c) (fun _ => ?_)
  obtain ⟨sa, hsa⟩ := hE.2.1 _ stm9
  exact vx_throwSW (names := ["java/lang/RuntimeException", "java/lang/Exception"]) (A := A) (free := A) hx hb hfl hown (by decide +kernel) (by decide +kernel) (hts _ wm1294) (hts _ wm39) hsa (xX11_318_hat hts hE) xX11_318_good (EV.un hE) (EV.su hE) hS (hl.1.trans hml.symm) dX11_meanSize_14 dX11_meanSize_17 dX11_meanSize_18 dX11_meanSize_21 dX11_meanSize_24 (fun x hx => (hout0 x hx).elim) (Nat.le_of_ble_eq_true rfl) (Nat.le_of_ble_eq_true rfl) (Nat.le_of_ble_eq_true rfl) (Nat.le_of_ble_eq_true rfl) hlocks (fun t ha hz hk => ⟨(), trivial, rfl, xF hS hz hk⟩) hS.2.2 (Nat.le_of_ble_eq_true rfl) (Nat.le_of_ble_eq_true rfl)
set_option maxHeartbeats 4000000 in
set_option maxRecDepth 100000 in
theorem k_X11_isSound (l : Launch) (hfl : l.stackTraces = false) (G : GC) (h0 : Nat) (t1 : Nat) (f1 : Nat) (s1 : Nat) (d1 : Nat) (y1 : Nat) (g1 : Nat) (m1 : Nat) (n1 : Nat) (df0 : Nat) (df1 : Nat) (df2 : Nat) (df3 : Nat) (df4 : Nat) (sz : Nat) : Met l yX11_isSound (Cond.code yX11_isSound cX11_isSound 3 (some .boolean) :: W0) ({ frames := 1, cells := 0, slots := 0, locals := 22 }) (va_Pc [.ref h0] (WD G [(h0, .inr (10, [.ref t1, .ref f1, .ref s1, .ref d1, .ref y1, .ref g1, .ref m1, .ref n1, .int 0, .long 0])), (d1, .inr (2, [.ref df0, .ref df1, .ref df2, .ref df3, .ref df4, .int 0, .int 0, .int 0]))] sz)) (va_Qi (fun (r : Int32) (_ : Unit) => r = 1) (fun _ t => PW G (va_A [(h0, .inr (10, [.ref t1, .ref f1, .ref s1, .ref d1, .ref y1, .ref g1, .ref m1, .ref n1, .int 0, .long 0])), (d1, .inr (2, [.ref df0, .ref df1, .ref df2, .ref df3, .ref df4, .int 0, .int 0, .int 0]))] sz) [] t) (va_A [(h0, .inr (10, [.ref t1, .ref f1, .ref s1, .ref d1, .ref y1, .ref g1, .ref m1, .ref n1, .int 0, .long 0])), (d1, .inr (2, [.ref df0, .ref df1, .ref df2, .ref df3, .ref df4, .int 0, .int 0, .int 0]))] sz)) 0 0 (va_A [(h0, .inr (10, [.ref t1, .ref f1, .ref s1, .ref d1, .ref y1, .ref g1, .ref m1, .ref n1, .int 0, .long 0])), (d1, .inr (2, [.ref df0, .ref df1, .ref df2, .ref df3, .ref df4, .int 0, .int 0, .int 0]))] sz) := by
  refine Met.ofW (cc := cX11_isSound) (maxL := 3) (ret := (some .boolean)) (by decide) rfl ?_
  intro p e s m args below meth c s₁ B hml hv
  obtain ⟨rfl, hsz, hP, hK, hD0, hE⟩ := hv
  have hx := B.exec
  have hb := B.bytes
  have hr := B.returns
  have hts := w0_tail B.pre
  have hown : s.vm.findClass RX11 = some m.cls := findClass_of_methodNamed B.named
  have hlocks := B.notSynchronized
  subst hsz
  have hD := hD0.self (sz := s.heap.size)
  generalize hAe : va_A [(h0, .inr (10, [.ref t1, .ref f1, .ref s1, .ref d1, .ref y1, .ref g1, .ref m1, .ref n1, .int 0, .long 0])), (d1, .inr (2, [.ref df0, .ref df1, .ref df2, .ref df3, .ref df4, .int 0, .int 0, .int 0]))] s.heap.size = A at hD hE ⊢
  have hA : ∀ q : Nat, s.heap.size ≤ q → A q := fun q h => by rw [← hAe]; exact Or.inr h
  have hS : va_S A s.heap s.heap [] := va_S.rf
  obtain ⟨H, hHe⟩ : ∃ H : Heap, H = s.heap := ⟨_, rfl⟩
  have hP : va_P (DG G) clP1 [(h0, .inr (10, [.ref t1, .ref f1, .ref s1, .ref d1, .ref y1, .ref g1, .ref m1, .ref n1, .int 0, .long 0])), (d1, .inr (2, [.ref df0, .ref df1, .ref df2, .ref df3, .ref df4, .int 0, .int 0, .int 0]))] H := by rw [hHe]; exact hP
  have hS : va_S A s.heap H [] := by rw [hHe]; exact hS
  have hl := lv_entry ([.ref h0]) (n := 3) (Nat.le_of_ble_eq_true rfl)
  rw [lg_entry_eq, ← hHe]
  generalize (lg_sl ([.ref h0]) ++ List.replicate (3 - (lg_sl ([.ref h0])).length) Slot.unset).toArray = ls at hl ⊢
  have hl : lv_has ls 3 [(0, .ref h0)] := hl
  refine lv_iconst (v := 0) hx hb dX11_isSound_0 (by decide) ?_
  refine lv_istore_n (lv' := [(1, .int 0), (0, .ref h0)]) hx hb dX11_isSound_1 rfl hl (by decide) rfl (fun ls hl => ?_)
  refine lv_iload_n hx hb dX11_isSound_2 rfl (lv_at hl 0 rfl) ?_
  refine lv_aload_n hx hb dX11_isSound_3 rfl (lv_at hl 1 rfl) ?_
  refine va_get (D := DG G) (ci := 10) (v := .ref d1) (C := RX11) (T := TX11) (N := 10) hx hb hts inW_X11 hown hK hP 0 rfl rfl 3 (by decide) (hts _ wm302) (fun _ h9 => h9) rfl dX11_isSound_4 ?_
  refine va_getN (D := DG G) (ci := 2) (v := .int 0) (C := RX0) (T := TX0) (N := 8) hx hb hts inW_X0 hown hK hP 1 rfl rfl 6 (by decide) (va_Nw.use rfl (hE.1 _ nw163)) (fun _ h9 => h9) rfl dX11_isSound_7 ?_
  refine lv_icmp_ge (tgt := 65) hx hb dX11_isSound_10 (by decide) (fun _ => ?_) (fun c => absurd (by decide) c)
  refine lv_aload_n hx hb dX11_isSound_65 rfl (lv_at hl 1 rfl) ?_
  refine va_get (D := DG G) (ci := 10) (v := .ref d1) (C := RX11) (T := TX11) (N := 10) hx hb hts inW_X11 hown hK hP 0 rfl rfl 3 (by decide) (hts _ wm302) (fun _ h9 => h9) rfl dX11_isSound_66 ?_
  have hFc := va_free (wc := [(d1, .inr (2, [.ref df0, .ref df1, .ref df2, .ref df3, .ref df4, .int 0, .int 0, .int 0]))]) hD hS hA [1] rfl
  refine va_calli (va_runV (As := []) (rest := []) ⟨hx, hb, hml, hown, hts⟩ (k_X0_anAcceptedOneIsOpen l hfl G d1 df0 df1 df2 df3 df4 H.size) (cwV 0 hts (gV wm500 wm501 wm502 wm5 wm503) rfl rfl rfl (by decide +kernel) ⟨Nat.le_of_ble_eq_true rfl, Nat.le_of_ble_eq_true rfl⟩) (pre_v (pre_s hK hP hD hS hE [1] rfl rfl (by decide) hFc) (va_recv hK hP (ci := 2) (q0 := 1) rfl rfl)) rfl rfl hl.1 rfl (lv_room (Nat.le_of_ble_eq_true rfl)) dX11_isSound_69 ⟨Nat.le_of_ble_eq_true rfl, Nat.le_of_ble_eq_true rfl⟩) hS (fun q _ h => hFc q h) hFc (fun r u t H locs ht hvm hw hB hz1 hk1 hS => ?_)
  obtain rfl : r = 0 := hw
  obtain ⟨hP1, hD1⟩ := hB
  rw [ht] at hP1
  obtain ⟨hP, hD⟩ := va_join (wr := [(h0, .inr (10, [.ref t1, .ref f1, .ref s1, .ref d1, .ref y1, .ref g1, .ref m1, .ref n1, .int 0, .long 0]))]) (w1 := [(d1, .inr (2, [.ref df0, .ref df1, .ref df2, .ref df3, .ref df4, .int 0, .int 0, .int 0]))]) hP hD [1] [0] rfl rfl (by decide) (by decide) hk1 hFc hP1 hD1
  have hP : va_P (DG G) clP1 [(h0, .inr (10, [.ref t1, .ref f1, .ref s1, .ref d1, .ref y1, .ref g1, .ref m1, .ref n1, .int 0, .long 0])), (d1, .inr (2, [.ref df0, .ref df1, .ref df2, .ref df3, .ref df4, .int 0, .int 0, .int 0]))] H := hP
  have hD : va_D A [(h0, .inr (10, [.ref t1, .ref f1, .ref s1, .ref d1, .ref y1, .ref g1, .ref m1, .ref n1, .int 0, .long 0])), (d1, .inr (2, [.ref df0, .ref df1, .ref df2, .ref df3, .ref df4, .int 0, .int 0, .int 0]))] := hD
  refine W.widen (k := 0) (n := 0) (Nat.le_of_ble_eq_true rfl) (Nat.le_of_ble_eq_true rfl) ?_
  refine lv_if_ne (tgt := 89) hx hb dX11_isSound_72 (by decide) (fun c => absurd (by decide) c) (fun _ => ?_)
  refine lv_aload_n hx hb dX11_isSound_75 rfl (lv_at hl 1 rfl) ?_
  refine va_get (D := DG G) (ci := 10) (v := .ref d1) (C := RX11) (T := TX11) (N := 10) hx hb hts inW_X11 hown hK hP 0 rfl rfl 3 (by decide) (hts _ wm302) (fun _ h9 => h9) rfl dX11_isSound_76 ?_
  have hFc := va_free (wc := [(d1, .inr (2, [.ref df0, .ref df1, .ref df2, .ref df3, .ref df4, .int 0, .int 0, .int 0]))]) hD hS hA [1] rfl
  refine va_calli (va_runV (As := []) (rest := []) ⟨hx, hb, hml, hown, hts⟩ (k_X0_twoAreAlike l hfl G d1 df0 df1 df2 df3 df4 H.size) (cwV 0 hts (gV wm513 wm514 wm515 wm5 wm516) rfl rfl rfl (by decide +kernel) ⟨Nat.le_of_ble_eq_true rfl, Nat.le_of_ble_eq_true rfl⟩) (pre_v (pre_s hK hP hD hS hE [1] rfl rfl (by decide) hFc) (va_recv hK hP (ci := 2) (q0 := 1) rfl rfl)) rfl rfl hl.1 rfl (lv_room (Nat.le_of_ble_eq_true rfl)) dX11_isSound_79 ⟨Nat.le_of_ble_eq_true rfl, Nat.le_of_ble_eq_true rfl⟩) hS (fun q _ h => hFc q h) hFc (fun r u t H locs ht hvm hw hB hz1 hk1 hS => ?_)
  obtain rfl : r = 0 := hw
  obtain ⟨hP1, hD1⟩ := hB
  rw [ht] at hP1
  obtain ⟨hP, hD⟩ := va_join (wr := [(h0, .inr (10, [.ref t1, .ref f1, .ref s1, .ref d1, .ref y1, .ref g1, .ref m1, .ref n1, .int 0, .long 0]))]) (w1 := [(d1, .inr (2, [.ref df0, .ref df1, .ref df2, .ref df3, .ref df4, .int 0, .int 0, .int 0]))]) hP hD [1] [0] rfl rfl (by decide) (by decide) hk1 hFc hP1 hD1
  have hP : va_P (DG G) clP1 [(h0, .inr (10, [.ref t1, .ref f1, .ref s1, .ref d1, .ref y1, .ref g1, .ref m1, .ref n1, .int 0, .long 0])), (d1, .inr (2, [.ref df0, .ref df1, .ref df2, .ref df3, .ref df4, .int 0, .int 0, .int 0]))] H := hP
  have hD : va_D A [(h0, .inr (10, [.ref t1, .ref f1, .ref s1, .ref d1, .ref y1, .ref g1, .ref m1, .ref n1, .int 0, .long 0])), (d1, .inr (2, [.ref df0, .ref df1, .ref df2, .ref df3, .ref df4, .int 0, .int 0, .int 0]))] := hD
  refine W.widen (k := 0) (n := 0) (Nat.le_of_ble_eq_true rfl) (Nat.le_of_ble_eq_true rfl) ?_
  refine lv_if_ne (tgt := 89) hx hb dX11_isSound_82 (by decide) (fun c => absurd (by decide) c) (fun _ => ?_)
  refine lv_iconst (v := 1) hx hb dX11_isSound_85 (by decide) ?_
  refine lv_goto (tgt := 90) hx hb dX11_isSound_86 (by decide) ?_
  have hP9 := hP.sub (ws' := []) [] rfl
  have hD9 := hD.sub (ws' := []) [] (by decide) rfl
  refine W.widen (k := 0) (n := 0) (Nat.le_of_ble_eq_true rfl) (Nat.le_of_ble_eq_true rfl) ?_
  exact W.zret (v := 1) (ty := .boolean) hx hb hr (by decide) (fun t ht hW => ⟨⟨1, (), rfl, rfl, ⟨by rw [ht]; exact hP9, hD9⟩⟩, hS.F ht⟩) hS.2.2 dX11_isSound_90 hlocks
