set_option maxHeartbeats 4000000 in
set_option maxRecDepth 100000 in
theorem k_X11_functionAt (l : Launch) (hfl : l.stackTraces = false) (G : GC) (h0 : Nat) (p0 : Int32) (t1 : Nat) (f1 : Nat) (s1 : Nat) (d1 : Nat) (y1 : Nat) (g1 : Nat) (m1 : Nat) (n1 : Nat) (df0 : Nat) (df1 : Nat) (df2 : Nat) (df3 : Nat) (df4 : Nat) (sz : Nat) : vx_Met l yX11_functionAt (Cond.code yX11_functionAt cX11_functionAt 3 (some (.object "TelescopeCourt$Function")) :: W0) ({ frames := 6, cells := 1, slots := 6, locals := 82 }) (va_Pc [.ref h0, .int p0] (WD G [(h0, .inr (10, [.ref t1, .ref f1, .ref s1, .ref d1, .ref y1, .ref g1, .ref m1, .ref n1, .int 0, .long 0])), (d1, .inr (2, [.ref df0, .ref df1, .ref df2, .ref df3, .ref df4, .int 0, .int 0, .int 0]))] sz)) (va_Qq (S := Unit) (fun _ _ => False) (fun _ _ => True) (va_A [(h0, .inr (10, [.ref t1, .ref f1, .ref s1, .ref d1, .ref y1, .ref g1, .ref m1, .ref n1, .int 0, .long 0])), (d1, .inr (2, [.ref df0, .ref df1, .ref df2, .ref df3, .ref df4, .int 0, .int 0, .int 0]))] sz)) (vx_X (fun _ : Unit => True) (fun (E : String) (_ : Unit) (_ : State) => E = "java/util/NoSuchElementException") (va_A [(h0, .inr (10, [.ref t1, .ref f1, .ref s1, .ref d1, .ref y1, .ref g1, .ref m1, .ref n1, .int 0, .long 0])), (d1, .inr (2, [.ref df0, .ref df1, .ref df2, .ref df3, .ref df4, .int 0, .int 0, .int 0]))] sz)) 1 6 (va_A [(h0, .inr (10, [.ref t1, .ref f1, .ref s1, .ref d1, .ref y1, .ref g1, .ref m1, .ref n1, .int 0, .long 0])), (d1, .inr (2, [.ref df0, .ref df1, .ref df2, .ref df3, .ref df4, .int 0, .int 0, .int 0]))] sz) := by
  refine vx_ofW (cc := cX11_functionAt) (maxL := 3) (ret := (some (.object "TelescopeCourt$Function"))) (by decide) rfl ?_
  intro p e s m args below meth c s₁ B hml hout0 hv
  obtain ⟨rfl, hsz, hP, hK, hD0, hE⟩ := hv
  have hx := B.exec
  have hb := B.bytes
  have hr := B.returns
  have hts := w0_tail B.pre
  have hown : s.vm.findClass RX11 = some m.cls := findClass_of_methodNamed B.named
  have hlocks := B.notSynchronized
  subst hsz
  have hD := hD0.self (sz := s.heap.size)
  generalize hAe : va_A [(h0, .inr (10, [.ref t1, .ref f1, .ref s1, .ref d1, .ref y1, .ref g1, .ref m1, .ref n1, .int 0, .long 0])), (d1, .inr (2, [.ref df0, .ref df1, .ref df2, .ref df3, .ref df4, .int 0, .int 0, .int 0]))] s.heap.size = A at hD hE ⊢
  have hA : ∀ q : Nat, s.heap.size ≤ q → A q := fun q h => by rw [← hAe]; exact Or.inr h
  have hS : va_S A s.heap s.heap [] := va_S.rf
  obtain ⟨H, hHe⟩ : ∃ H : Heap, H = s.heap := ⟨_, rfl⟩
  have hP : va_P (DG G) clP1 [(h0, .inr (10, [.ref t1, .ref f1, .ref s1, .ref d1, .ref y1, .ref g1, .ref m1, .ref n1, .int 0, .long 0])), (d1, .inr (2, [.ref df0, .ref df1, .ref df2, .ref df3, .ref df4, .int 0, .int 0, .int 0]))] H := by rw [hHe]; exact hP
  have hS : va_S A s.heap H [] := by rw [hHe]; exact hS
  have hl := lv_entry ([.ref h0, .int p0]) (n := 3) (Nat.le_of_ble_eq_true rfl)
  rw [lg_entry_eq, ← hHe]
  generalize (lg_sl ([.ref h0, .int p0]) ++ List.replicate (3 - (lg_sl ([.ref h0, .int p0])).length) Slot.unset).toArray = ls at hl ⊢
  have hl : lv_has ls 3 [(0, .ref h0), (1, .int p0)] := hl
  refine lv_aload_n hx hb dX11_functionAt_0 rfl (lv_at hl 0 rfl) ?_
  refine va_get (D := DG G) (ci := 10) (v := .ref d1) (C := RX11) (T := TX11) (N := 10) hx hb hts inW_X11 hown hK hP 0 rfl rfl 3 (by decide) (hts _ wm302) (fun _ h9 => h9) rfl dX11_functionAt_1 ?_
  refine lv_iload_n hx hb dX11_functionAt_4 rfl (lv_at hl 1 rfl) ?_
  have hFc := va_free (wc := [(d1, .inr (2, [.ref df0, .ref df1, .ref df2, .ref df3, .ref df4, .int 0, .int 0, .int 0]))]) hD hS hA [1] rfl
  refine va_callq (va_runV (As := [.int p0]) (rest := []) ⟨hx, hb, hml, hown, hts⟩ (k_X0_function l hfl G d1 p0 df0 df1 df2 df3 df4 H.size) (cwV 1 hts (gV wm752 wm419 wm420 wm5 wm421) rfl rfl rfl (by decide +kernel) ⟨Nat.le_of_ble_eq_true rfl, Nat.le_of_ble_eq_true rfl⟩) (pre_v (pre_s hK hP hD hS hE [1] rfl rfl (by decide) hFc) (va_recv hK hP (ci := 2) (q0 := 1) rfl rfl)) rfl rfl hl.1 rfl (lv_room (Nat.le_of_ble_eq_true rfl)) dX11_functionAt_5 ⟨Nat.le_of_ble_eq_true rfl, Nat.le_of_ble_eq_true rfl⟩) hS (fun q _ h => hFc q h) hFc (fun ro u t H locs ht hvm hw hB hz1 hk1 hS => ?_)
  obtain rfl : ro = none := hw
  obtain ⟨hP1, hD1⟩ := hB
  rw [ht] at hP1
  obtain ⟨hP, hD⟩ := va_join (wr := [(h0, .inr (10, [.ref t1, .ref f1, .ref s1, .ref d1, .ref y1, .ref g1, .ref m1, .ref n1, .int 0, .long 0]))]) (w1 := [(d1, .inr (2, [.ref df0, .ref df1, .ref df2, .ref df3, .ref df4, .int 0, .int 0, .int 0]))]) hP hD [1] [0] rfl rfl (by decide) (by decide) hk1 hFc hP1 hD1
  have hP : va_P (DG G) clP1 [(h0, .inr (10, [.ref t1, .ref f1, .ref s1, .ref d1, .ref y1, .ref g1, .ref m1, .ref n1, .int 0, .long 0])), (d1, .inr (2, [.ref df0, .ref df1, .ref df2, .ref df3, .ref df4, .int 0, .int 0, .int 0]))] H := hP
  have hD : va_D A [(h0, .inr (10, [.ref t1, .ref f1, .ref s1, .ref d1, .ref y1, .ref g1, .ref m1, .ref n1, .int 0, .long 0])), (d1, .inr (2, [.ref df0, .ref df1, .ref df2, .ref df3, .ref df4, .int 0, .int 0, .int 0]))] := hD
  refine W.widen (k := 0) (n := 0) (Nat.le_of_ble_eq_true rfl) (Nat.le_of_ble_eq_true rfl) ?_
  refine W.eq (g2 := F0 m 8 ls [.null]) rfl ?_
  refine lv_astore_nN (lv' := [(2, .null), (0, .ref h0), (1, .int p0)]) hx hb dX11_functionAt_8 rfl hl (by decide) rfl (fun ls hl => ?_)
  refine lv_aload_nN hx hb dX11_functionAt_9 rfl (lv_at hl 0 rfl) ?_
  refine lv_ifnonnullN hx hb dX11_functionAt_10 ?_
  obtain ⟨sa, hsa⟩ := hE.2.1 _ stm5
  exact tx_throwSW (Y1 := "java/lang/RuntimeException") (r := ["java/lang/Exception"]) (ix := 13) (rx := prog_43_method_4_code) (A := A) (free := A) hx hb hfl (by decide +kernel) (by decide +kernel) (by decide +kernel) (by decide +kernel) hown (by decide +kernel) (by decide +kernel) (by decide +kernel) (hts _ wm716) (hts _ wm29) hsa (xX11_95_hat hts hE) xX11_95_good (EV.un hE) (EV.su hE) hS (hl.1.trans hml.symm) dX11_functionAt_13 dX11_functionAt_16 dX11_functionAt_17 (Or.inr ⟨rfl, rfl⟩) dX11_functionAt_20 dX11_functionAt_23 (fun x hx => (hout0 x hx).elim) (Nat.le_of_ble_eq_true rfl) (Nat.le_of_ble_eq_true rfl) (Nat.le_of_ble_eq_true rfl) (Nat.le_of_ble_eq_true rfl) hlocks (fun t ha hz hk => ⟨(), trivial, rfl, xF hS hz hk⟩) hS.2.2 (Nat.le_of_ble_eq_true rfl) (Nat.le_of_ble_eq_true rfl)
set_option maxHeartbeats 4000000 in
set_option maxRecDepth 100000 in
theorem k_X11_goalAt (l : Launch) (hfl : l.stackTraces = false) (G : GC) (h0 : Nat) (p0 : Int32) (t1 : Nat) (f1 : Nat) (s1 : Nat) (d1 : Nat) (y1 : Nat) (g1 : Nat) (m1 : Nat) (n1 : Nat) (df0 : Nat) (df1 : Nat) (df2 : Nat) (df3 : Nat) (df4 : Nat) (sz : Nat) : vx_Met l yX11_goalAt (Cond.code yX11_goalAt cX11_goalAt 3 (some (.object "TelescopeCourt$Goal")) :: W0) ({ frames := 6, cells := 1, slots := 6, locals := 82 }) (va_Pc [.ref h0, .int p0] (WD G [(h0, .inr (10, [.ref t1, .ref f1, .ref s1, .ref d1, .ref y1, .ref g1, .ref m1, .ref n1, .int 0, .long 0])), (d1, .inr (2, [.ref df0, .ref df1, .ref df2, .ref df3, .ref df4, .int 0, .int 0, .int 0]))] sz)) (va_Qq (S := Unit) (fun _ _ => False) (fun _ _ => True) (va_A [(h0, .inr (10, [.ref t1, .ref f1, .ref s1, .ref d1, .ref y1, .ref g1, .ref m1, .ref n1, .int 0, .long 0])), (d1, .inr (2, [.ref df0, .ref df1, .ref df2, .ref df3, .ref df4, .int 0, .int 0, .int 0]))] sz)) (vx_X (fun _ : Unit => True) (fun (E : String) (_ : Unit) (_ : State) => E = "java/util/NoSuchElementException") (va_A [(h0, .inr (10, [.ref t1, .ref f1, .ref s1, .ref d1, .ref y1, .ref g1, .ref m1, .ref n1, .int 0, .long 0])), (d1, .inr (2, [.ref df0, .ref df1, .ref df2, .ref df3, .ref df4, .int 0, .int 0, .int 0]))] sz)) 1 6 (va_A [(h0, .inr (10, [.ref t1, .ref f1, .ref s1, .ref d1, .ref y1, .ref g1, .ref m1, .ref n1, .int 0, .long 0])), (d1, .inr (2, [.ref df0, .ref df1, .ref df2, .ref df3, .ref df4, .int 0, .int 0, .int 0]))] sz) := by
  refine vx_ofW (cc := cX11_goalAt) (maxL := 3) (ret := (some (.object "TelescopeCourt$Goal"))) (by decide) rfl ?_
  intro p e s m args below meth c s₁ B hml hout0 hv
  obtain ⟨rfl, hsz, hP, hK, hD0, hE⟩ := hv
  have hx := B.exec
  have hb := B.bytes
  have hr := B.returns
  have hts := w0_tail B.pre
  have hown : s.vm.findClass RX11 = some m.cls := findClass_of_methodNamed B.named
  have hlocks := B.notSynchronized
  subst hsz
  have hD := hD0.self (sz := s.heap.size)
  generalize hAe : va_A [(h0, .inr (10, [.ref t1, .ref f1, .ref s1, .ref d1, .ref y1, .ref g1, .ref m1, .ref n1, .int 0, .long 0])), (d1, .inr (2, [.ref df0, .ref df1, .ref df2, .ref df3, .ref df4, .int 0, .int 0, .int 0]))] s.heap.size = A at hD hE ⊢
  have hA : ∀ q : Nat, s.heap.size ≤ q → A q := fun q h => by rw [← hAe]; exact Or.inr h
  have hS : va_S A s.heap s.heap [] := va_S.rf
  obtain ⟨H, hHe⟩ : ∃ H : Heap, H = s.heap := ⟨_, rfl⟩
  have hP : va_P (DG G) clP1 [(h0, .inr (10, [.ref t1, .ref f1, .ref s1, .ref d1, .ref y1, .ref g1, .ref m1, .ref n1, .int 0, .long 0])), (d1, .inr (2, [.ref df0, .ref df1, .ref df2, .ref df3, .ref df4, .int 0, .int 0, .int 0]))] H := by rw [hHe]; exact hP
  have hS : va_S A s.heap H [] := by rw [hHe]; exact hS
  have hl := lv_entry ([.ref h0, .int p0]) (n := 3) (Nat.le_of_ble_eq_true rfl)
  rw [lg_entry_eq, ← hHe]
  generalize (lg_sl ([.ref h0, .int p0]) ++ List.replicate (3 - (lg_sl ([.ref h0, .int p0])).length) Slot.unset).toArray = ls at hl ⊢
  have hl : lv_has ls 3 [(0, .ref h0), (1, .int p0)] := hl
  refine lv_aload_n hx hb dX11_goalAt_0 rfl (lv_at hl 0 rfl) ?_
  refine va_get (D := DG G) (ci := 10) (v := .ref d1) (C := RX11) (T := TX11) (N := 10) hx hb hts inW_X11 hown hK hP 0 rfl rfl 3 (by decide) (hts _ wm302) (fun _ h9 => h9) rfl dX11_goalAt_1 ?_
  refine lv_iload_n hx hb dX11_goalAt_4 rfl (lv_at hl 1 rfl) ?_
  have hFc := va_free (wc := [(d1, .inr (2, [.ref df0, .ref df1, .ref df2, .ref df3, .ref df4, .int 0, .int 0, .int 0]))]) hD hS hA [1] rfl
  refine va_callq (va_runV (As := [.int p0]) (rest := []) ⟨hx, hb, hml, hown, hts⟩ (k_X0_goal l hfl G d1 p0 df0 df1 df2 df3 df4 H.size) (cwV 1 hts (gV wm338 wm339 wm340 wm5 wm341) rfl rfl rfl (by decide +kernel) ⟨Nat.le_of_ble_eq_true rfl, Nat.le_of_ble_eq_true rfl⟩) (pre_v (pre_s hK hP hD hS hE [1] rfl rfl (by decide) hFc) (va_recv hK hP (ci := 2) (q0 := 1) rfl rfl)) rfl rfl hl.1 rfl (lv_room (Nat.le_of_ble_eq_true rfl)) dX11_goalAt_5 ⟨Nat.le_of_ble_eq_true rfl, Nat.le_of_ble_eq_true rfl⟩) hS (fun q _ h => hFc q h) hFc (fun ro u t H locs ht hvm hw hB hz1 hk1 hS => ?_)
  obtain rfl : ro = none := hw
  obtain ⟨hP1, hD1⟩ := hB
  rw [ht] at hP1
  obtain ⟨hP, hD⟩ := va_join (wr := [(h0, .inr (10, [.ref t1, .ref f1, .ref s1, .ref d1, .ref y1, .ref g1, .ref m1, .ref n1, .int 0, .long 0]))]) (w1 := [(d1, .inr (2, [.ref df0, .ref df1, .ref df2, .ref df3, .ref df4, .int 0, .int 0, .int 0]))]) hP hD [1] [0] rfl rfl (by decide) (by decide) hk1 hFc hP1 hD1
  have hP : va_P (DG G) clP1 [(h0, .inr (10, [.ref t1, .ref f1, .ref s1, .ref d1, .ref y1, .ref g1, .ref m1, .ref n1, .int 0, .long 0])), (d1, .inr (2, [.ref df0, .ref df1, .ref df2, .ref df3, .ref df4, .int 0, .int 0, .int 0]))] H := hP
  have hD : va_D A [(h0, .inr (10, [.ref t1, .ref f1, .ref s1, .ref d1, .ref y1, .ref g1, .ref m1, .ref n1, .int 0, .long 0])), (d1, .inr (2, [.ref df0, .ref df1, .ref df2, .ref df3, .ref df4, .int 0, .int 0, .int 0]))] := hD
  refine W.widen (k := 0) (n := 0) (Nat.le_of_ble_eq_true rfl) (Nat.le_of_ble_eq_true rfl) ?_
  refine W.eq (g2 := F0 m 8 ls [.null]) rfl ?_
  refine lv_astore_nN (lv' := [(2, .null), (0, .ref h0), (1, .int p0)]) hx hb dX11_goalAt_8 rfl hl (by decide) rfl (fun ls hl => ?_)
  refine lv_aload_nN hx hb dX11_goalAt_9 rfl (lv_at hl 0 rfl) ?_
  refine lv_ifnonnullN hx hb dX11_goalAt_10 ?_
  obtain ⟨sa, hsa⟩ := hE.2.1 _ stm6
  exact tx_throwSW (Y1 := "java/lang/RuntimeException") (r := ["java/lang/Exception"]) (ix := 13) (rx := prog_43_method_4_code) (A := A) (free := A) hx hb hfl (by decide +kernel) (by decide +kernel) (by decide +kernel) (by decide +kernel) hown (by decide +kernel) (by decide +kernel) (by decide +kernel) (hts _ wm716) (hts _ wm29) hsa (xX11_95_hat hts hE) xX11_95_good (EV.un hE) (EV.su hE) hS (hl.1.trans hml.symm) dX11_goalAt_13 dX11_goalAt_16 dX11_goalAt_17 (Or.inr ⟨rfl, rfl⟩) dX11_goalAt_20 dX11_goalAt_23 (fun x hx => (hout0 x hx).elim) (Nat.le_of_ble_eq_true rfl) (Nat.le_of_ble_eq_true rfl) (Nat.le_of_ble_eq_true rfl) (Nat.le_of_ble_eq_true rfl) hlocks (fun t ha hz hk => ⟨(), trivial, rfl, xF hS hz hk⟩) hS.2.2 (Nat.le_of_ble_eq_true rfl) (Nat.le_of_ble_eq_true rfl)
set_option maxHeartbeats 4000000 in
set_option maxRecDepth 100000 in
theorem k_X11_functionNode (l : Launch) (hfl : l.stackTraces = false) (G : GC) (h0 : Nat) (p0 : Int32) (t1 : Nat) (f1 : Nat) (s1 : Nat) (d1 : Nat) (y1 : Nat) (g1 : Nat) (m1 : Nat) (n1 : Nat) (df0 : Nat) (df1 : Nat) (df2 : Nat) (df3 : Nat) (df4 : Nat) (sz : Nat) : vx_Met l yX11_functionNode (Cond.code yX11_functionNode cX11_functionNode 2 (some .int) :: W0) ({ frames := 7, cells := 1, slots := 6, locals := 104 }) (va_Pc [.ref h0, .int p0] (WD G [(h0, .inr (10, [.ref t1, .ref f1, .ref s1, .ref d1, .ref y1, .ref g1, .ref m1, .ref n1, .int 0, .long 0])), (d1, .inr (2, [.ref df0, .ref df1, .ref df2, .ref df3, .ref df4, .int 0, .int 0, .int 0]))] sz)) (va_Qi (S := Unit) (fun _ _ => False) (fun _ _ => True) (va_A [(h0, .inr (10, [.ref t1, .ref f1, .ref s1, .ref d1, .ref y1, .ref g1, .ref m1, .ref n1, .int 0, .long 0])), (d1, .inr (2, [.ref df0, .ref df1, .ref df2, .ref df3, .ref df4, .int 0, .int 0, .int 0]))] sz)) (vx_X (fun _ : Unit => True) (fun (E : String) (_ : Unit) (_ : State) => E = "java/util/NoSuchElementException") (va_A [(h0, .inr (10, [.ref t1, .ref f1, .ref s1, .ref d1, .ref y1, .ref g1, .ref m1, .ref n1, .int 0, .long 0])), (d1, .inr (2, [.ref df0, .ref df1, .ref df2, .ref df3, .ref df4, .int 0, .int 0, .int 0]))] sz)) 1 6 (va_A [(h0, .inr (10, [.ref t1, .ref f1, .ref s1, .ref d1, .ref y1, .ref g1, .ref m1, .ref n1, .int 0, .long 0])), (d1, .inr (2, [.ref df0, .ref df1, .ref df2, .ref df3, .ref df4, .int 0, .int 0, .int 0]))] sz) := by
  refine vx_ofW (cc := cX11_functionNode) (maxL := 2) (ret := (some .int)) (by decide) rfl ?_
  intro p e s m args below meth c s₁ B hml hout0 hv
  obtain ⟨rfl, hsz, hP, hK, hD0, hE⟩ := hv
  have hx := B.exec
  have hb := B.bytes
  have hr := B.returns
  have hts := w0_tail B.pre
  have hown : s.vm.findClass RX11 = some m.cls := findClass_of_methodNamed B.named
  have hlocks := B.notSynchronized
  subst hsz
  have hD := hD0.self (sz := s.heap.size)
  generalize hAe : va_A [(h0, .inr (10, [.ref t1, .ref f1, .ref s1, .ref d1, .ref y1, .ref g1, .ref m1, .ref n1, .int 0, .long 0])), (d1, .inr (2, [.ref df0, .ref df1, .ref df2, .ref df3, .ref df4, .int 0, .int 0, .int 0]))] s.heap.size = A at hD hE ⊢
  have hA : ∀ q : Nat, s.heap.size ≤ q → A q := fun q h => by rw [← hAe]; exact Or.inr h
  have hS : va_S A s.heap s.heap [] := va_S.rf
  obtain ⟨H, hHe⟩ : ∃ H : Heap, H = s.heap := ⟨_, rfl⟩
  have hP : va_P (DG G) clP1 [(h0, .inr (10, [.ref t1, .ref f1, .ref s1, .ref d1, .ref y1, .ref g1, .ref m1, .ref n1, .int 0, .long 0])), (d1, .inr (2, [.ref df0, .ref df1, .ref df2, .ref df3, .ref df4, .int 0, .int 0, .int 0]))] H := by rw [hHe]; exact hP
  have hS : va_S A s.heap H [] := by rw [hHe]; exact hS
  have hl := lv_entry ([.ref h0, .int p0]) (n := 2) (Nat.le_of_ble_eq_true rfl)
  rw [lg_entry_eq, ← hHe]
  generalize (lg_sl ([.ref h0, .int p0]) ++ List.replicate (2 - (lg_sl ([.ref h0, .int p0])).length) Slot.unset).toArray = ls at hl ⊢
  have hl : lv_has ls 2 [(0, .ref h0), (1, .int p0)] := hl
  refine lv_aload_n hx hb dX11_functionNode_0 rfl (lv_at hl 0 rfl) ?_
  refine lv_iload_n hx hb dX11_functionNode_1 rfl (lv_at hl 1 rfl) ?_
  have hFc := va_free (wc := [(h0, .inr (10, [.ref t1, .ref f1, .ref s1, .ref d1, .ref y1, .ref g1, .ref m1, .ref n1, .int 0, .long 0])), (d1, .inr (2, [.ref df0, .ref df1, .ref df2, .ref df3, .ref df4, .int 0, .int 0, .int 0]))]) hD hS hA [0, 1] rfl
  refine vx_callq (vx_runV (As := [.int p0]) (rest := []) ⟨hx, hb, hml, hown, hts⟩ (k_X11_functionAt l hfl G h0 p0 t1 f1 s1 d1 y1 g1 m1 n1 df0 df1 df2 df3 df4 H.size) (cwV 1 hts (gV wm748 wm750 ws_p10 wm1 wm751) rfl rfl rfl (by decide +kernel) ⟨Nat.le_of_ble_eq_true rfl, Nat.le_of_ble_eq_true rfl⟩) (pre_v (pre_s hK hP hD hS hE [0, 1] rfl rfl (by decide) hFc) (va_recv hK hP (ci := 10) (q0 := 0) rfl rfl)) rfl rfl hl.1 rfl (lv_room (Nat.le_of_ble_eq_true rfl)) dX11_functionNode_2 ⟨Nat.le_of_ble_eq_true rfl, Nat.le_of_ble_eq_true rfl⟩) hS (fun q _ h => hFc q h) hFc (fun q _ h => hFc q h) (fun E ce q9 u t H locs ht hvm hpx hBX hz1 hk1 hS hce hv9 hcl => ?_) (fun ro u t H locs ht hvm hw hB hz1 hk1 hS => ?_)
  · have hBX : E = "java/util/NoSuchElementException" := hBX
    subst hBX
    exact vx_out (fun x hx => (hout0 x hx).elim) hlocks hce hv9 hcl (fun t2 ht2 _ => ⟨(), trivial, rfl, hS.F ht2⟩) hS.2.2 (Nat.le_of_ble_eq_true rfl) (Nat.le_of_ble_eq_true rfl)
  · exact hw.elim
set_option maxHeartbeats 4000000 in
set_option maxRecDepth 100000 in
theorem k_X11_addData (l : Launch) (hfl : l.stackTraces = false) (G : GC) (h0 : Nat) (t1 : Nat) (f1 : Nat) (s1 : Nat) (d1 : Nat) (y1 : Nat) (g1 : Nat) (m1 : Nat) (n1 : Nat) (sf0 : Nat) (sf1 : Nat) (sf2 : Nat) (sf3 : Nat) (sf4 : Nat) (sf5 : Nat) (sf6 : Nat) (sf7 : Nat) (sz : Nat) : Met l yX11_addData (Cond.code yX11_addData cX11_addData 1 (some .int) :: W0) ({ frames := 1, cells := 0, slots := 0, locals := 20 }) (va_Pc [.ref h0] (WD G [(h0, .inr (10, [.ref t1, .ref f1, .ref s1, .ref d1, .ref y1, .ref g1, .ref m1, .ref n1, .int 0, .long 0])), (s1, .inr (6, [.ref sf0, .ref sf1, .ref sf2, .ref sf3, .ref sf4, .ref sf5, .ref sf6, .ref sf7, .int 0, .int 0]))] sz)) (va_Qi (fun (r : Int32) (_ : Unit) => r = 0) (fun _ t => PW G (va_A [(h0, .inr (10, [.ref t1, .ref f1, .ref s1, .ref d1, .ref y1, .ref g1, .ref m1, .ref n1, .int 0, .long 0])), (s1, .inr (6, [.ref sf0, .ref sf1, .ref sf2, .ref sf3, .ref sf4, .ref sf5, .ref sf6, .ref sf7, .int 0, .int 0]))] sz) [] t) (va_A [(h0, .inr (10, [.ref t1, .ref f1, .ref s1, .ref d1, .ref y1, .ref g1, .ref m1, .ref n1, .int 0, .long 0])), (s1, .inr (6, [.ref sf0, .ref sf1, .ref sf2, .ref sf3, .ref sf4, .ref sf5, .ref sf6, .ref sf7, .int 0, .int 0]))] sz)) 0 0 (va_A [(h0, .inr (10, [.ref t1, .ref f1, .ref s1, .ref d1, .ref y1, .ref g1, .ref m1, .ref n1, .int 0, .long 0])), (s1, .inr (6, [.ref sf0, .ref sf1, .ref sf2, .ref sf3, .ref sf4, .ref sf5, .ref sf6, .ref sf7, .int 0, .int 0]))] sz) := by
  refine Met.ofW (cc := cX11_addData) (maxL := 1) (ret := (some .int)) (by decide) rfl ?_
  intro p e s m args below meth c s₁ B hml hv
  obtain ⟨rfl, hsz, hP, hK, hD0, hE⟩ := hv
  have hx := B.exec
  have hb := B.bytes
  have hr := B.returns
  have hts := w0_tail B.pre
  have hown : s.vm.findClass RX11 = some m.cls := findClass_of_methodNamed B.named
  have hlocks := B.notSynchronized
  subst hsz
  have hD := hD0.self (sz := s.heap.size)
  generalize hAe : va_A [(h0, .inr (10, [.ref t1, .ref f1, .ref s1, .ref d1, .ref y1, .ref g1, .ref m1, .ref n1, .int 0, .long 0])), (s1, .inr (6, [.ref sf0, .ref sf1, .ref sf2, .ref sf3, .ref sf4, .ref sf5, .ref sf6, .ref sf7, .int 0, .int 0]))] s.heap.size = A at hD hE ⊢
  have hA : ∀ q : Nat, s.heap.size ≤ q → A q := fun q h => by rw [← hAe]; exact Or.inr h
  have hS : va_S A s.heap s.heap [] := va_S.rf
  obtain ⟨H, hHe⟩ : ∃ H : Heap, H = s.heap := ⟨_, rfl⟩
  have hP : va_P (DG G) clP1 [(h0, .inr (10, [.ref t1, .ref f1, .ref s1, .ref d1, .ref y1, .ref g1, .ref m1, .ref n1, .int 0, .long 0])), (s1, .inr (6, [.ref sf0, .ref sf1, .ref sf2, .ref sf3, .ref sf4, .ref sf5, .ref sf6, .ref sf7, .int 0, .int 0]))] H := by rw [hHe]; exact hP
  have hS : va_S A s.heap H [] := by rw [hHe]; exact hS
  have hl := lv_entry ([.ref h0]) (n := 1) (Nat.le_of_ble_eq_true rfl)
  rw [lg_entry_eq, ← hHe]
  generalize (lg_sl ([.ref h0]) ++ List.replicate (1 - (lg_sl ([.ref h0])).length) Slot.unset).toArray = ls at hl ⊢
  have hl : lv_has ls 1 [(0, .ref h0)] := hl
  refine lv_aload_n hx hb dX11_addData_0 rfl (lv_at hl 0 rfl) ?_
  refine va_get (D := DG G) (ci := 10) (v := .ref s1) (C := RX11) (T := TX11) (N := 10) hx hb hts inW_X11 hown hK hP 0 rfl rfl 2 (by decide) (hts _ wm301) (fun _ h9 => h9) rfl dX11_addData_1 ?_
  refine va_getN (D := DG G) (ci := 6) (v := .int 0) (C := RX7) (T := TX7) (N := 10) hx hb hts inW_X7 hown hK hP 1 rfl rfl 8 (by decide) (va_Nw.use rfl (hE.1 _ nw119)) (fun _ h9 => h9) rfl dX11_addData_4 ?_
  refine lv_bipush (v := 6) hx hb dX11_addData_7 (by decide) ?_
  refine lv_icmp_lt (tgt := 22) hx hb dX11_addData_9 (by decide) (fun _ => ?_) (fun c => absurd (by decide) c)
  refine lv_aload_n hx hb dX11_addData_22 rfl (lv_at hl 0 rfl) ?_
  refine va_get (D := DG G) (ci := 10) (v := .ref s1) (C := RX11) (T := TX11) (N := 10) hx hb hts inW_X11 hown hK hP 0 rfl rfl 2 (by decide) (hts _ wm301) (fun _ h9 => h9) rfl dX11_addData_23 ?_
  have hFc := va_free (wc := [(s1, .inr (6, [.ref sf0, .ref sf1, .ref sf2, .ref sf3, .ref sf4, .ref sf5, .ref sf6, .ref sf7, .int 0, .int 0]))]) hD hS hA [1] rfl
  refine va_calli (va_runV (As := []) (rest := []) ⟨hx, hb, hml, hown, hts⟩ (k_X7_enterData l hfl G s1 sf0 sf1 sf2 sf3 sf4 sf5 sf6 sf7 H.size) (cwV 0 hts (gV wm762 wm763 wm764 wm4 wm765) rfl rfl rfl (by decide +kernel) ⟨Nat.le_of_ble_eq_true rfl, Nat.le_of_ble_eq_true rfl⟩) (pre_v (pre_s hK hP hD hS hE [1] rfl rfl (by decide) hFc) (va_recv hK hP (ci := 6) (q0 := 1) rfl rfl)) rfl rfl hl.1 rfl (lv_room (Nat.le_of_ble_eq_true rfl)) dX11_addData_26 ⟨Nat.le_of_ble_eq_true rfl, Nat.le_of_ble_eq_true rfl⟩) hS (fun q _ h => hFc q h) hFc (fun r u t H locs ht hvm hw hB hz1 hk1 hS => ?_)
  obtain rfl : r = 0 := hw
  obtain ⟨hP1, hD1⟩ := hB
  rw [ht] at hP1
  obtain ⟨hP, hD⟩ := va_join (wr := [(h0, .inr (10, [.ref t1, .ref f1, .ref s1, .ref d1, .ref y1, .ref g1, .ref m1, .ref n1, .int 0, .long 0]))]) (w1 := []) hP hD [1] [0] rfl rfl (by decide) (by decide) hk1 hFc hP1 hD1
  have hP : va_P (DG G) clP1 [(h0, .inr (10, [.ref t1, .ref f1, .ref s1, .ref d1, .ref y1, .ref g1, .ref m1, .ref n1, .int 0, .long 0]))] H := hP
  have hD : va_D A [(h0, .inr (10, [.ref t1, .ref f1, .ref s1, .ref d1, .ref y1, .ref g1, .ref m1, .ref n1, .int 0, .long 0]))] := hD
  refine W.widen (k := 0) (n := 0) (Nat.le_of_ble_eq_true rfl) (Nat.le_of_ble_eq_true rfl) ?_
  have hP9 := hP.sub (ws' := []) [] rfl
  have hD9 := hD.sub (ws' := []) [] (by decide) rfl
  refine W.widen (k := 0) (n := 0) (Nat.le_of_ble_eq_true rfl) (Nat.le_of_ble_eq_true rfl) ?_
  exact W.iret (v := 0) hx hb hr (fun t ht hW => ⟨⟨0, (), rfl, rfl, ⟨by rw [ht]; exact hP9, hD9⟩⟩, hS.F ht⟩) hS.2.2 dX11_addData_29 hlocks
set_option maxHeartbeats 4000000 in
set_option maxRecDepth 100000 in
theorem k_X11_addConstructor (l : Launch) (hfl : l.stackTraces = false) (G : GC) (h0 : Nat) (p0 : Int32) (p1 : Int32) (p2 : Int32) (p3 : Int32) (p4 : Int32) (t1 : Nat) (f1 : Nat) (s1 : Nat) (d1 : Nat) (y1 : Nat) (g1 : Nat) (m1 : Nat) (n1 : Nat) (sf0 : Nat) (sf1 : Nat) (sf2 : Nat) (sf3 : Nat) (sf4 : Nat) (sf5 : Nat) (sf6 : Nat) (sf7 : Nat) (sz : Nat) : vx_Met l yX11_addConstructor (Cond.code yX11_addConstructor cX11_addConstructor 7 (some .int) :: W0) ({ frames := 6, cells := 1, slots := 6, locals := 82 }) (va_Pc [.ref h0, .int p0, .int p1, .int p2, .int p3, .int p4] (WD G [(h0, .inr (10, [.ref t1, .ref f1, .ref s1, .ref d1, .ref y1, .ref g1, .ref m1, .ref n1, .int 0, .long 0])), (s1, .inr (6, [.ref sf0, .ref sf1, .ref sf2, .ref sf3, .ref sf4, .ref sf5, .ref sf6, .ref sf7, .int 0, .int 0]))] sz)) (va_Qi (S := Unit) (fun _ _ => False) (fun _ _ => True) (va_A [(h0, .inr (10, [.ref t1, .ref f1, .ref s1, .ref d1, .ref y1, .ref g1, .ref m1, .ref n1, .int 0, .long 0])), (s1, .inr (6, [.ref sf0, .ref sf1, .ref sf2, .ref sf3, .ref sf4, .ref sf5, .ref sf6, .ref sf7, .int 0, .int 0]))] sz)) (vx_X (fun _ : Unit => True) (fun (E : String) (_ : Unit) (_ : State) => (E = "java/lang/IllegalArgumentException" ∧ (p1.toInt ≤ (-1) ∨ 4 ≤ p1.toInt)) ∨ (E = "java/util/NoSuchElementException" ∧ ((0 ≤ p1.toInt ∧ p1.toInt ≤ 3)))) (va_A [(h0, .inr (10, [.ref t1, .ref f1, .ref s1, .ref d1, .ref y1, .ref g1, .ref m1, .ref n1, .int 0, .long 0])), (s1, .inr (6, [.ref sf0, .ref sf1, .ref sf2, .ref sf3, .ref sf4, .ref sf5, .ref sf6, .ref sf7, .int 0, .int 0]))] sz)) 1 6 (va_A [(h0, .inr (10, [.ref t1, .ref f1, .ref s1, .ref d1, .ref y1, .ref g1, .ref m1, .ref n1, .int 0, .long 0])), (s1, .inr (6, [.ref sf0, .ref sf1, .ref sf2, .ref sf3, .ref sf4, .ref sf5, .ref sf6, .ref sf7, .int 0, .int 0]))] sz) := by
  refine vx_ofW (cc := cX11_addConstructor) (maxL := 7) (ret := (some .int)) (by decide) rfl ?_
  intro p e s m args below meth c s₁ B hml hout0 hv
  obtain ⟨rfl, hsz, hP, hK, hD0, hE⟩ := hv
  have hx := B.exec
  have hb := B.bytes
  have hr := B.returns
  have hts := w0_tail B.pre
  have hown : s.vm.findClass RX11 = some m.cls := findClass_of_methodNamed B.named
  have hlocks := B.notSynchronized
  subst hsz
  have hD := hD0.self (sz := s.heap.size)
  generalize hAe : va_A [(h0, .inr (10, [.ref t1, .ref f1, .ref s1, .ref d1, .ref y1, .ref g1, .ref m1, .ref n1, .int 0, .long 0])), (s1, .inr (6, [.ref sf0, .ref sf1, .ref sf2, .ref sf3, .ref sf4, .ref sf5, .ref sf6, .ref sf7, .int 0, .int 0]))] s.heap.size = A at hD hE ⊢
  have hA : ∀ q : Nat, s.heap.size ≤ q → A q := fun q h => by rw [← hAe]; exact Or.inr h
  have hS : va_S A s.heap s.heap [] := va_S.rf
  obtain ⟨H, hHe⟩ : ∃ H : Heap, H = s.heap := ⟨_, rfl⟩
  have hP : va_P (DG G) clP1 [(h0, .inr (10, [.ref t1, .ref f1, .ref s1, .ref d1, .ref y1, .ref g1, .ref m1, .ref n1, .int 0, .long 0])), (s1, .inr (6, [.ref sf0, .ref sf1, .ref sf2, .ref sf3, .ref sf4, .ref sf5, .ref sf6, .ref sf7, .int 0, .int 0]))] H := by rw [hHe]; exact hP
  have hS : va_S A s.heap H [] := by rw [hHe]; exact hS
  have hl := lv_entry ([.ref h0, .int p0, .int p1, .int p2, .int p3, .int p4]) (n := 7) (Nat.le_of_ble_eq_true rfl)
  rw [lg_entry_eq, ← hHe]
  generalize (lg_sl ([.ref h0, .int p0, .int p1, .int p2, .int p3, .int p4]) ++ List.replicate (7 - (lg_sl ([.ref h0, .int p0, .int p1, .int p2, .int p3, .int p4])).length) Slot.unset).toArray = ls at hl ⊢
  have hl : lv_has ls 7 [(0, .ref h0), (1, .int p0), (2, .int p1), (3, .int p2), (4, .int p3), (5, .int p4)] := hl
  refine lv_iload_n hx hb dX11_addConstructor_0 rfl (lv_at hl 2 rfl) ?_
  refine lv_if_lt (tgt := 9) hx hb dX11_addConstructor_1 (by decide) (fun c_1 => ?_) (fun c_1 => ?_)
  · have t_2 := i_lt c_1
    have kk_3 : ((0 : Int32)).toInt = 0 := by decide
    obtain ⟨sa, hsa⟩ := hE.2.1 _ stm7
    exact vx_throwS (names := ["java/lang/RuntimeException", "java/lang/Exception"]) (A := A) (free := A) hx hb hfl hown (by decide +kernel) (by decide +kernel) (hts _ wm534) (hts _ wm18) hsa (xX11_74_hat hts hE) xX11_74_good (EV.un hE) (EV.su hE) hS (hl.1.trans hml.symm) dX11_addConstructor_9 dX11_addConstructor_12 dX11_addConstructor_13 dX11_addConstructor_15 dX11_addConstructor_18 (fun x hx => (hout0 x hx).elim) (Nat.le_of_ble_eq_true rfl) (Nat.le_of_ble_eq_true rfl) (Nat.le_of_ble_eq_true rfl) (Nat.le_of_ble_eq_true rfl) hlocks (fun t ha hz hk => ⟨(), trivial, (Or.inl ⟨rfl, by omega⟩), xF hS hz hk⟩) hS.2.2 (Nat.le_of_ble_eq_true rfl) (Nat.le_of_ble_eq_true rfl)
  · have t_4 := i_nlt c_1
    have kk_5 : ((0 : Int32)).toInt = 0 := by decide
    refine lv_iload_n hx hb dX11_addConstructor_4 rfl (lv_at hl 2 rfl) ?_
    refine lv_iconst (v := 3) hx hb dX11_addConstructor_5 (by decide) ?_
    refine lv_icmp_le (tgt := 19) hx hb dX11_addConstructor_6 (by decide) (fun c_6 => ?_) (fun c_6 => ?_)
    · have t_7 := i_le c_6
      have kk_8 : ((3 : Int32)).toInt = 3 := by decide
      refine lv_aload_n hx hb dX11_addConstructor_19 rfl (lv_at hl 0 rfl) ?_
      refine va_get (D := DG G) (ci := 10) (v := .ref s1) (C := RX11) (T := TX11) (N := 10) hx hb hts inW_X11 hown hK hP 0 rfl rfl 2 (by decide) (hts _ wm301) (fun _ h9 => h9) rfl dX11_addConstructor_20 ?_
      refine lv_iload_n hx hb dX11_addConstructor_23 rfl (lv_at hl 1 rfl) ?_
      have hFc := va_free (wc := [(s1, .inr (6, [.ref sf0, .ref sf1, .ref sf2, .ref sf3, .ref sf4, .ref sf5, .ref sf6, .ref sf7, .int 0, .int 0]))]) hD hS hA [1] rfl
      refine va_calli (va_runV (As := [.int p0]) (rest := []) ⟨hx, hb, hml, hown, hts⟩ (k_X7_hasData l hfl G s1 p0 sf0 sf1 sf2 sf3 sf4 sf5 sf6 sf7 H.size) (cwV 1 hts (gV wm712 wm713 wm714 wm4 wm715) rfl rfl rfl (by decide +kernel) ⟨Nat.le_of_ble_eq_true rfl, Nat.le_of_ble_eq_true rfl⟩) (pre_v (pre_s hK hP hD hS hE [1] rfl rfl (by decide) hFc) (va_recv hK hP (ci := 6) (q0 := 1) rfl rfl)) rfl rfl hl.1 rfl (lv_room (Nat.le_of_ble_eq_true rfl)) dX11_addConstructor_24 ⟨Nat.le_of_ble_eq_true rfl, Nat.le_of_ble_eq_true rfl⟩) hS (fun q _ h => hFc q h) hFc (fun r u t H locs ht hvm hw hB hz1 hk1 hS => ?_)
      obtain rfl : r = 0 := hw
      obtain ⟨hP1, hD1⟩ := hB
      rw [ht] at hP1
      obtain ⟨hP, hD⟩ := va_join (wr := [(h0, .inr (10, [.ref t1, .ref f1, .ref s1, .ref d1, .ref y1, .ref g1, .ref m1, .ref n1, .int 0, .long 0]))]) (w1 := [(s1, .inr (6, [.ref sf0, .ref sf1, .ref sf2, .ref sf3, .ref sf4, .ref sf5, .ref sf6, .ref sf7, .int 0, .int 0]))]) hP hD [1] [0] rfl rfl (by decide) (by decide) hk1 hFc hP1 hD1
      have hP : va_P (DG G) clP1 [(h0, .inr (10, [.ref t1, .ref f1, .ref s1, .ref d1, .ref y1, .ref g1, .ref m1, .ref n1, .int 0, .long 0])), (s1, .inr (6, [.ref sf0, .ref sf1, .ref sf2, .ref sf3, .ref sf4, .ref sf5, .ref sf6, .ref sf7, .int 0, .int 0]))] H := hP
      have hD : va_D A [(h0, .inr (10, [.ref t1, .ref f1, .ref s1, .ref d1, .ref y1, .ref g1, .ref m1, .ref n1, .int 0, .long 0])), (s1, .inr (6, [.ref sf0, .ref sf1, .ref sf2, .ref sf3, .ref sf4, .ref sf5, .ref sf6, .ref sf7, .int 0, .int 0]))] := hD
      refine W.widen (k := 0) (n := 0) (Nat.le_of_ble_eq_true rfl) (Nat.le_of_ble_eq_true rfl) ?_
      refine lv_if_eq (tgt := 84) hx hb dX11_addConstructor_27 (by decide) (fun _ => ?_) (fun c => absurd (by decide) c)
      refine lv_iconst (v := 0) hx hb dX11_addConstructor_84 (by decide) ?_
      refine lv_istore (lv' := [(6, .int 0), (0, .ref h0), (1, .int p0), (2, .int p1), (3, .int p2), (4, .int p3), (5, .int p4)]) hx hb dX11_addConstructor_85 hl (by decide) rfl (fun ls hl => ?_)
      refine lv_iload hx hb dX11_addConstructor_87 (lv_at hl 0 rfl) ?_
      refine lv_if_ne (tgt := 102) hx hb dX11_addConstructor_89 (by decide) (fun c => absurd (by decide) c) (fun _ => ?_)
      obtain ⟨sa, hsa⟩ := hE.2.1 _ stm3
      exact tx_throwSW (Y1 := "java/lang/RuntimeException") (r := ["java/lang/Exception"]) (ix := 13) (rx := prog_43_method_4_code) (A := A) (free := A) hx hb hfl (by decide +kernel) (by decide +kernel) (by decide +kernel) (by decide +kernel) hown (by decide +kernel) (by decide +kernel) (by decide +kernel) (hts _ wm716) (hts _ wm29) hsa (xX11_95_hat hts hE) xX11_95_good (EV.un hE) (EV.su hE) hS (hl.1.trans hml.symm) dX11_addConstructor_92 dX11_addConstructor_95 dX11_addConstructor_96 (Or.inl ⟨rfl, rfl⟩) dX11_addConstructor_98 dX11_addConstructor_101 (fun x hx => (hout0 x hx).elim) (Nat.le_of_ble_eq_true rfl) (Nat.le_of_ble_eq_true rfl) (Nat.le_of_ble_eq_true rfl) (Nat.le_of_ble_eq_true rfl) hlocks (fun t ha hz hk => ⟨(), trivial, (Or.inr ⟨rfl, by omega⟩), xF hS hz hk⟩) hS.2.2 (Nat.le_of_ble_eq_true rfl) (Nat.le_of_ble_eq_true rfl)
    · have t_9 := i_nle c_6
      have kk_10 : ((3 : Int32)).toInt = 3 := by decide
      obtain ⟨sa, hsa⟩ := hE.2.1 _ stm7
      exact vx_throwS (names := ["java/lang/RuntimeException", "java/lang/Exception"]) (A := A) (free := A) hx hb hfl hown (by decide +kernel) (by decide +kernel) (hts _ wm534) (hts _ wm18) hsa (xX11_74_hat hts hE) xX11_74_good (EV.un hE) (EV.su hE) hS (hl.1.trans hml.symm) dX11_addConstructor_9 dX11_addConstructor_12 dX11_addConstructor_13 dX11_addConstructor_15 dX11_addConstructor_18 (fun x hx => (hout0 x hx).elim) (Nat.le_of_ble_eq_true rfl) (Nat.le_of_ble_eq_true rfl) (Nat.le_of_ble_eq_true rfl) (Nat.le_of_ble_eq_true rfl) hlocks (fun t ha hz hk => ⟨(), trivial, (Or.inl ⟨rfl, by omega⟩), xF hS hz hk⟩) hS.2.2 (Nat.le_of_ble_eq_true rfl) (Nat.le_of_ble_eq_true rfl)
set_option maxHeartbeats 4000000 in
set_option maxRecDepth 100000 in
theorem k_X11_size (l : Launch) (hfl : l.stackTraces = false) (G : GC) (h0 : Nat) (p0 : Int32) (t1 : Nat) (f1 : Nat) (s1 : Nat) (d1 : Nat) (y1 : Nat) (g1 : Nat) (m1 : Nat) (n1 : Nat) (sz : Nat) : vx_Met l yX11_size (Cond.code yX11_size cX11_size 2 (some .int) :: W0) ({ frames := 7, cells := 1, slots := 6, locals := 103 }) (va_Pc [.ref h0, .int p0] (WD G [(h0, .inr (10, [.ref t1, .ref f1, .ref s1, .ref d1, .ref y1, .ref g1, .ref m1, .ref n1, .int 0, .long 0]))] sz)) (va_Qi (S := Unit) (fun _ _ => False) (fun _ _ => True) (va_A [(h0, .inr (10, [.ref t1, .ref f1, .ref s1, .ref d1, .ref y1, .ref g1, .ref m1, .ref n1, .int 0, .long 0]))] sz)) (vx_X (fun _ : Unit => True) (fun (E : String) (_ : Unit) (_ : State) => E = "java/lang/IndexOutOfBoundsException") (va_A [(h0, .inr (10, [.ref t1, .ref f1, .ref s1, .ref d1, .ref y1, .ref g1, .ref m1, .ref n1, .int 0, .long 0]))] sz)) 1 6 (va_A [(h0, .inr (10, [.ref t1, .ref f1, .ref s1, .ref d1, .ref y1, .ref g1, .ref m1, .ref n1, .int 0, .long 0]))] sz) := by
  refine vx_ofW (cc := cX11_size) (maxL := 2) (ret := (some .int)) (by decide) rfl ?_
  intro p e s m args below meth c s₁ B hml hout0 hv
  obtain ⟨rfl, hsz, hP, hK, hD0, hE⟩ := hv
  have hx := B.exec
  have hb := B.bytes
  have hr := B.returns
  have hts := w0_tail B.pre
  have hown : s.vm.findClass RX11 = some m.cls := findClass_of_methodNamed B.named
  have hlocks := B.notSynchronized
  subst hsz
  have hD := hD0.self (sz := s.heap.size)
  generalize hAe : va_A [(h0, .inr (10, [.ref t1, .ref f1, .ref s1, .ref d1, .ref y1, .ref g1, .ref m1, .ref n1, .int 0, .long 0]))] s.heap.size = A at hD hE ⊢
  have hA : ∀ q : Nat, s.heap.size ≤ q → A q := fun q h => by rw [← hAe]; exact Or.inr h
  have hS : va_S A s.heap s.heap [] := va_S.rf
  obtain ⟨H, hHe⟩ : ∃ H : Heap, H = s.heap := ⟨_, rfl⟩
  have hP : va_P (DG G) clP1 [(h0, .inr (10, [.ref t1, .ref f1, .ref s1, .ref d1, .ref y1, .ref g1, .ref m1, .ref n1, .int 0, .long 0]))] H := by rw [hHe]; exact hP
  have hS : va_S A s.heap H [] := by rw [hHe]; exact hS
  have hl := lv_entry ([.ref h0, .int p0]) (n := 2) (Nat.le_of_ble_eq_true rfl)
  rw [lg_entry_eq, ← hHe]
  generalize (lg_sl ([.ref h0, .int p0]) ++ List.replicate (2 - (lg_sl ([.ref h0, .int p0])).length) Slot.unset).toArray = ls at hl ⊢
  have hl : lv_has ls 2 [(0, .ref h0), (1, .int p0)] := hl
  refine lv_aload_n hx hb dX11_size_0 rfl (lv_at hl 0 rfl) ?_
  refine va_get (D := DG G) (ci := 10) (v := .ref t1) (C := RX11) (T := TX11) (N := 10) hx hb hts inW_X11 hown hK hP 0 rfl rfl 0 (by decide) (hts _ wm299) (fun _ h9 => h9) rfl dX11_size_1 ?_
  refine lv_aload_n hx hb dX11_size_4 rfl (lv_at hl 0 rfl) ?_
  refine lv_iload_n hx hb dX11_size_5 rfl (lv_at hl 1 rfl) ?_
  have hFc := va_free (wc := [(h0, .inr (10, [.ref t1, .ref f1, .ref s1, .ref d1, .ref y1, .ref g1, .ref m1, .ref n1, .int 0, .long 0]))]) hD hS hA [0] rfl
  refine vx_calli (vx_runV (As := [.int p0]) (rest := [.ref t1]) ⟨hx, hb, hml, hown, hts⟩ (k_X11_termAt l hfl G h0 p0 t1 f1 s1 d1 y1 g1 m1 n1 H.size) (cwV 1 hts (gV wm670 wm672 ws_p9 wm1 wm673) rfl rfl rfl (by decide +kernel) ⟨Nat.le_of_ble_eq_true rfl, Nat.le_of_ble_eq_true rfl⟩) (pre_v (pre_s hK hP hD hS hE [0] rfl rfl (by decide) hFc) (va_recv hK hP (ci := 10) (q0 := 0) rfl rfl)) rfl rfl hl.1 rfl (lv_room (Nat.le_of_ble_eq_true rfl)) dX11_size_6 ⟨Nat.le_of_ble_eq_true rfl, Nat.le_of_ble_eq_true rfl⟩) hS (fun q _ h => hFc q h) hFc (fun q _ h => hFc q h) (fun E ce q9 u t H locs ht hvm hpx hBX hz1 hk1 hS hce hv9 hcl => ?_) (fun r u t H locs ht hvm hw hB hz1 hk1 hS => ?_)
  · have hBX : E = "java/lang/IndexOutOfBoundsException" := hBX
    subst hBX
    exact vx_out (fun x hx => (hout0 x hx).elim) hlocks hce hv9 hcl (fun t2 ht2 _ => ⟨(), trivial, rfl, hS.F ht2⟩) hS.2.2 (Nat.le_of_ble_eq_true rfl) (Nat.le_of_ble_eq_true rfl)
  · exact hw.elim
set_option maxHeartbeats 4000000 in
set_option maxRecDepth 100000 in
theorem k_X11_number (l : Launch) (hfl : l.stackTraces = false) (G : GC) (h0 : Nat) (p0 : Int32) (t1 : Nat) (f1 : Nat) (s1 : Nat) (d1 : Nat) (y1 : Nat) (g1 : Nat) (m1 : Nat) (n1 : Nat) (sz : Nat) : vx_Met l yX11_number (Cond.code yX11_number cX11_number 2 (some .int) :: W0) ({ frames := 7, cells := 1, slots := 6, locals := 103 }) (va_Pc [.ref h0, .int p0] (WD G [(h0, .inr (10, [.ref t1, .ref f1, .ref s1, .ref d1, .ref y1, .ref g1, .ref m1, .ref n1, .int 0, .long 0]))] sz)) (va_Qi (S := Unit) (fun _ _ => False) (fun _ _ => True) (va_A [(h0, .inr (10, [.ref t1, .ref f1, .ref s1, .ref d1, .ref y1, .ref g1, .ref m1, .ref n1, .int 0, .long 0]))] sz)) (vx_X (fun _ : Unit => True) (fun (E : String) (_ : Unit) (_ : State) => E = "java/lang/IndexOutOfBoundsException") (va_A [(h0, .inr (10, [.ref t1, .ref f1, .ref s1, .ref d1, .ref y1, .ref g1, .ref m1, .ref n1, .int 0, .long 0]))] sz)) 1 6 (va_A [(h0, .inr (10, [.ref t1, .ref f1, .ref s1, .ref d1, .ref y1, .ref g1, .ref m1, .ref n1, .int 0, .long 0]))] sz) := by
  refine vx_ofW (cc := cX11_number) (maxL := 2) (ret := (some .int)) (by decide) rfl ?_
  intro p e s m args below meth c s₁ B hml hout0 hv
  obtain ⟨rfl, hsz, hP, hK, hD0, hE⟩ := hv
  have hx := B.exec
  have hb := B.bytes
  have hr := B.returns
  have hts := w0_tail B.pre
  have hown : s.vm.findClass RX11 = some m.cls := findClass_of_methodNamed B.named
  have hlocks := B.notSynchronized
  subst hsz
  have hD := hD0.self (sz := s.heap.size)
  generalize hAe : va_A [(h0, .inr (10, [.ref t1, .ref f1, .ref s1, .ref d1, .ref y1, .ref g1, .ref m1, .ref n1, .int 0, .long 0]))] s.heap.size = A at hD hE ⊢
  have hA : ∀ q : Nat, s.heap.size ≤ q → A q := fun q h => by rw [← hAe]; exact Or.inr h
  have hS : va_S A s.heap s.heap [] := va_S.rf
  obtain ⟨H, hHe⟩ : ∃ H : Heap, H = s.heap := ⟨_, rfl⟩
  have hP : va_P (DG G) clP1 [(h0, .inr (10, [.ref t1, .ref f1, .ref s1, .ref d1, .ref y1, .ref g1, .ref m1, .ref n1, .int 0, .long 0]))] H := by rw [hHe]; exact hP
  have hS : va_S A s.heap H [] := by rw [hHe]; exact hS
  have hl := lv_entry ([.ref h0, .int p0]) (n := 2) (Nat.le_of_ble_eq_true rfl)
  rw [lg_entry_eq, ← hHe]
  generalize (lg_sl ([.ref h0, .int p0]) ++ List.replicate (2 - (lg_sl ([.ref h0, .int p0])).length) Slot.unset).toArray = ls at hl ⊢
  have hl : lv_has ls 2 [(0, .ref h0), (1, .int p0)] := hl
  refine lv_aload_n hx hb dX11_number_0 rfl (lv_at hl 0 rfl) ?_
  refine va_get (D := DG G) (ci := 10) (v := .ref t1) (C := RX11) (T := TX11) (N := 10) hx hb hts inW_X11 hown hK hP 0 rfl rfl 0 (by decide) (hts _ wm299) (fun _ h9 => h9) rfl dX11_number_1 ?_
  refine lv_aload_n hx hb dX11_number_4 rfl (lv_at hl 0 rfl) ?_
  refine lv_iload_n hx hb dX11_number_5 rfl (lv_at hl 1 rfl) ?_
  have hFc := va_free (wc := [(h0, .inr (10, [.ref t1, .ref f1, .ref s1, .ref d1, .ref y1, .ref g1, .ref m1, .ref n1, .int 0, .long 0]))]) hD hS hA [0] rfl
  refine vx_calli (vx_runV (As := [.int p0]) (rest := [.ref t1]) ⟨hx, hb, hml, hown, hts⟩ (k_X11_termAt l hfl G h0 p0 t1 f1 s1 d1 y1 g1 m1 n1 H.size) (cwV 1 hts (gV wm670 wm672 ws_p9 wm1 wm673) rfl rfl rfl (by decide +kernel) ⟨Nat.le_of_ble_eq_true rfl, Nat.le_of_ble_eq_true rfl⟩) (pre_v (pre_s hK hP hD hS hE [0] rfl rfl (by decide) hFc) (va_recv hK hP (ci := 10) (q0 := 0) rfl rfl)) rfl rfl hl.1 rfl (lv_room (Nat.le_of_ble_eq_true rfl)) dX11_number_6 ⟨Nat.le_of_ble_eq_true rfl, Nat.le_of_ble_eq_true rfl⟩) hS (fun q _ h => hFc q h) hFc (fun q _ h => hFc q h) (fun E ce q9 u t H locs ht hvm hpx hBX hz1 hk1 hS hce hv9 hcl => ?_) (fun r u t H locs ht hvm hw hB hz1 hk1 hS => ?_)
  · have hBX : E = "java/lang/IndexOutOfBoundsException" := hBX
    subst hBX
    exact vx_out (fun x hx => (hout0 x hx).elim) hlocks hce hv9 hcl (fun t2 ht2 _ => ⟨(), trivial, rfl, hS.F ht2⟩) hS.2.2 (Nat.le_of_ble_eq_true rfl) (Nat.le_of_ble_eq_true rfl)
  · exact hw.elim
set_option maxHeartbeats 4000000 in
set_option maxRecDepth 100000 in
theorem k_X11_normal (l : Launch) (hfl : l.stackTraces = false) (G : GC) (h0 : Nat) (p0 : Int32) (t1 : Nat) (f1 : Nat) (s1 : Nat) (d1 : Nat) (y1 : Nat) (g1 : Nat) (m1 : Nat) (n1 : Nat) (sz : Nat) : vx_Met l yX11_normal (Cond.code yX11_normal cX11_normal 4 (some .int) :: W0) ({ frames := 7, cells := 1, slots := 6, locals := 103 }) (va_Pc [.ref h0, .int p0] (WD G [(h0, .inr (10, [.ref t1, .ref f1, .ref s1, .ref d1, .ref y1, .ref g1, .ref m1, .ref n1, .int 0, .long 0]))] sz)) (va_Qi (S := Unit) (fun _ _ => False) (fun _ _ => True) (va_A [(h0, .inr (10, [.ref t1, .ref f1, .ref s1, .ref d1, .ref y1, .ref g1, .ref m1, .ref n1, .int 0, .long 0]))] sz)) (vx_X (fun _ : Unit => True) (fun (E : String) (_ : Unit) (_ : State) => E = "java/lang/IndexOutOfBoundsException") (va_A [(h0, .inr (10, [.ref t1, .ref f1, .ref s1, .ref d1, .ref y1, .ref g1, .ref m1, .ref n1, .int 0, .long 0]))] sz)) 1 6 (va_A [(h0, .inr (10, [.ref t1, .ref f1, .ref s1, .ref d1, .ref y1, .ref g1, .ref m1, .ref n1, .int 0, .long 0]))] sz) := by
  refine vx_ofW (cc := cX11_normal) (maxL := 4) (ret := (some .int)) (by decide) rfl ?_
  intro p e s m args below meth c s₁ B hml hout0 hv
  obtain ⟨rfl, hsz, hP, hK, hD0, hE⟩ := hv
  have hx := B.exec
  have hb := B.bytes
  have hr := B.returns
  have hts := w0_tail B.pre
  have hown : s.vm.findClass RX11 = some m.cls := findClass_of_methodNamed B.named
  have hlocks := B.notSynchronized
  subst hsz
  have hD := hD0.self (sz := s.heap.size)
  generalize hAe : va_A [(h0, .inr (10, [.ref t1, .ref f1, .ref s1, .ref d1, .ref y1, .ref g1, .ref m1, .ref n1, .int 0, .long 0]))] s.heap.size = A at hD hE ⊢
  have hA : ∀ q : Nat, s.heap.size ≤ q → A q := fun q h => by rw [← hAe]; exact Or.inr h
  have hS : va_S A s.heap s.heap [] := va_S.rf
  obtain ⟨H, hHe⟩ : ∃ H : Heap, H = s.heap := ⟨_, rfl⟩
  have hP : va_P (DG G) clP1 [(h0, .inr (10, [.ref t1, .ref f1, .ref s1, .ref d1, .ref y1, .ref g1, .ref m1, .ref n1, .int 0, .long 0]))] H := by rw [hHe]; exact hP
  have hS : va_S A s.heap H [] := by rw [hHe]; exact hS
  have hl := lv_entry ([.ref h0, .int p0]) (n := 4) (Nat.le_of_ble_eq_true rfl)
  rw [lg_entry_eq, ← hHe]
  generalize (lg_sl ([.ref h0, .int p0]) ++ List.replicate (4 - (lg_sl ([.ref h0, .int p0])).length) Slot.unset).toArray = ls at hl ⊢
  have hl : lv_has ls 4 [(0, .ref h0), (1, .int p0)] := hl
  refine lv_aload_n hx hb dX11_normal_0 rfl (lv_at hl 0 rfl) ?_
  refine lv_iload_n hx hb dX11_normal_1 rfl (lv_at hl 1 rfl) ?_
  have hFc := va_free (wc := [(h0, .inr (10, [.ref t1, .ref f1, .ref s1, .ref d1, .ref y1, .ref g1, .ref m1, .ref n1, .int 0, .long 0]))]) hD hS hA [0] rfl
  refine vx_calli (vx_runV (As := [.int p0]) (rest := []) ⟨hx, hb, hml, hown, hts⟩ (k_X11_termAt l hfl G h0 p0 t1 f1 s1 d1 y1 g1 m1 n1 H.size) (cwV 1 hts (gV wm670 wm672 ws_p9 wm1 wm673) rfl rfl rfl (by decide +kernel) ⟨Nat.le_of_ble_eq_true rfl, Nat.le_of_ble_eq_true rfl⟩) (pre_v (pre_s hK hP hD hS hE [0] rfl rfl (by decide) hFc) (va_recv hK hP (ci := 10) (q0 := 0) rfl rfl)) rfl rfl hl.1 rfl (lv_room (Nat.le_of_ble_eq_true rfl)) dX11_normal_2 ⟨Nat.le_of_ble_eq_true rfl, Nat.le_of_ble_eq_true rfl⟩) hS (fun q _ h => hFc q h) hFc (fun q _ h => hFc q h) (fun E ce q9 u t H locs ht hvm hpx hBX hz1 hk1 hS hce hv9 hcl => ?_) (fun r u t H locs ht hvm hw hB hz1 hk1 hS => ?_)
  · have hBX : E = "java/lang/IndexOutOfBoundsException" := hBX
    subst hBX
    exact vx_out (fun x hx => (hout0 x hx).elim) hlocks hce hv9 hcl (fun t2 ht2 _ => ⟨(), trivial, rfl, hS.F ht2⟩) hS.2.2 (Nat.le_of_ble_eq_true rfl) (Nat.le_of_ble_eq_true rfl)
  · exact hw.elim
set_option maxHeartbeats 4000000 in
set_option maxRecDepth 100000 in
theorem k_X11_typeOf (l : Launch) (hfl : l.stackTraces = false) (G : GC) (h0 : Nat) (p0 : Int32) (t1 : Nat) (f1 : Nat) (s1 : Nat) (d1 : Nat) (y1 : Nat) (g1 : Nat) (m1 : Nat) (n1 : Nat) (sz : Nat) : vx_Met l yX11_typeOf (Cond.code yX11_typeOf cX11_typeOf 4 (some .int) :: W0) ({ frames := 7, cells := 1, slots := 6, locals := 103 }) (va_Pc [.ref h0, .int p0] (WD G [(h0, .inr (10, [.ref t1, .ref f1, .ref s1, .ref d1, .ref y1, .ref g1, .ref m1, .ref n1, .int 0, .long 0]))] sz)) (va_Qi (S := Unit) (fun _ _ => False) (fun _ _ => True) (va_A [(h0, .inr (10, [.ref t1, .ref f1, .ref s1, .ref d1, .ref y1, .ref g1, .ref m1, .ref n1, .int 0, .long 0]))] sz)) (vx_X (fun _ : Unit => True) (fun (E : String) (_ : Unit) (_ : State) => E = "java/lang/IndexOutOfBoundsException") (va_A [(h0, .inr (10, [.ref t1, .ref f1, .ref s1, .ref d1, .ref y1, .ref g1, .ref m1, .ref n1, .int 0, .long 0]))] sz)) 1 6 (va_A [(h0, .inr (10, [.ref t1, .ref f1, .ref s1, .ref d1, .ref y1, .ref g1, .ref m1, .ref n1, .int 0, .long 0]))] sz) := by
  refine vx_ofW (cc := cX11_typeOf) (maxL := 4) (ret := (some .int)) (by decide) rfl ?_
  intro p e s m args below meth c s₁ B hml hout0 hv
  obtain ⟨rfl, hsz, hP, hK, hD0, hE⟩ := hv
  have hx := B.exec
  have hb := B.bytes
  have hr := B.returns
  have hts := w0_tail B.pre
  have hown : s.vm.findClass RX11 = some m.cls := findClass_of_methodNamed B.named
  have hlocks := B.notSynchronized
  subst hsz
  have hD := hD0.self (sz := s.heap.size)
  generalize hAe : va_A [(h0, .inr (10, [.ref t1, .ref f1, .ref s1, .ref d1, .ref y1, .ref g1, .ref m1, .ref n1, .int 0, .long 0]))] s.heap.size = A at hD hE ⊢
  have hA : ∀ q : Nat, s.heap.size ≤ q → A q := fun q h => by rw [← hAe]; exact Or.inr h
  have hS : va_S A s.heap s.heap [] := va_S.rf
  obtain ⟨H, hHe⟩ : ∃ H : Heap, H = s.heap := ⟨_, rfl⟩
  have hP : va_P (DG G) clP1 [(h0, .inr (10, [.ref t1, .ref f1, .ref s1, .ref d1, .ref y1, .ref g1, .ref m1, .ref n1, .int 0, .long 0]))] H := by rw [hHe]; exact hP
  have hS : va_S A s.heap H [] := by rw [hHe]; exact hS
  have hl := lv_entry ([.ref h0, .int p0]) (n := 4) (Nat.le_of_ble_eq_true rfl)
  rw [lg_entry_eq, ← hHe]
  generalize (lg_sl ([.ref h0, .int p0]) ++ List.replicate (4 - (lg_sl ([.ref h0, .int p0])).length) Slot.unset).toArray = ls at hl ⊢
  have hl : lv_has ls 4 [(0, .ref h0), (1, .int p0)] := hl
  refine lv_aload_n hx hb dX11_typeOf_0 rfl (lv_at hl 0 rfl) ?_
  refine lv_iload_n hx hb dX11_typeOf_1 rfl (lv_at hl 1 rfl) ?_
  have hFc := va_free (wc := [(h0, .inr (10, [.ref t1, .ref f1, .ref s1, .ref d1, .ref y1, .ref g1, .ref m1, .ref n1, .int 0, .long 0]))]) hD hS hA [0] rfl
  refine vx_calli (vx_runV (As := [.int p0]) (rest := []) ⟨hx, hb, hml, hown, hts⟩ (k_X11_termAt l hfl G h0 p0 t1 f1 s1 d1 y1 g1 m1 n1 H.size) (cwV 1 hts (gV wm670 wm672 ws_p9 wm1 wm673) rfl rfl rfl (by decide +kernel) ⟨Nat.le_of_ble_eq_true rfl, Nat.le_of_ble_eq_true rfl⟩) (pre_v (pre_s hK hP hD hS hE [0] rfl rfl (by decide) hFc) (va_recv hK hP (ci := 10) (q0 := 0) rfl rfl)) rfl rfl hl.1 rfl (lv_room (Nat.le_of_ble_eq_true rfl)) dX11_typeOf_2 ⟨Nat.le_of_ble_eq_true rfl, Nat.le_of_ble_eq_true rfl⟩) hS (fun q _ h => hFc q h) hFc (fun q _ h => hFc q h) (fun E ce q9 u t H locs ht hvm hpx hBX hz1 hk1 hS hce hv9 hcl => ?_) (fun r u t H locs ht hvm hw hB hz1 hk1 hS => ?_)
  · have hBX : E = "java/lang/IndexOutOfBoundsException" := hBX
    subst hBX
    exact vx_out (fun x hx => (hout0 x hx).elim) hlocks hce hv9 hcl (fun t2 ht2 _ => ⟨(), trivial, rfl, hS.F ht2⟩) hS.2.2 (Nat.le_of_ble_eq_true rfl) (Nat.le_of_ble_eq_true rfl)
  · exact hw.elim
set_option maxHeartbeats 4000000 in
set_option maxRecDepth 100000 in
theorem k_X11_level (l : Launch) (hfl : l.stackTraces = false) (G : GC) (h0 : Nat) (p0 : Int32) (t1 : Nat) (f1 : Nat) (s1 : Nat) (d1 : Nat) (y1 : Nat) (g1 : Nat) (m1 : Nat) (n1 : Nat) (sz : Nat) : vx_Met l yX11_level (Cond.code yX11_level cX11_level 3 (some .int) :: W0) ({ frames := 7, cells := 1, slots := 6, locals := 103 }) (va_Pc [.ref h0, .int p0] (WD G [(h0, .inr (10, [.ref t1, .ref f1, .ref s1, .ref d1, .ref y1, .ref g1, .ref m1, .ref n1, .int 0, .long 0]))] sz)) (va_Qi (S := Unit) (fun _ _ => False) (fun _ _ => True) (va_A [(h0, .inr (10, [.ref t1, .ref f1, .ref s1, .ref d1, .ref y1, .ref g1, .ref m1, .ref n1, .int 0, .long 0]))] sz)) (vx_X (fun _ : Unit => True) (fun (E : String) (_ : Unit) (_ : State) => E = "java/lang/IndexOutOfBoundsException") (va_A [(h0, .inr (10, [.ref t1, .ref f1, .ref s1, .ref d1, .ref y1, .ref g1, .ref m1, .ref n1, .int 0, .long 0]))] sz)) 1 6 (va_A [(h0, .inr (10, [.ref t1, .ref f1, .ref s1, .ref d1, .ref y1, .ref g1, .ref m1, .ref n1, .int 0, .long 0]))] sz) := by
  refine vx_ofW (cc := cX11_level) (maxL := 3) (ret := (some .int)) (by decide) rfl ?_
  intro p e s m args below meth c s₁ B hml hout0 hv
  obtain ⟨rfl, hsz, hP, hK, hD0, hE⟩ := hv
  have hx := B.exec
  have hb := B.bytes
  have hr := B.returns
  have hts := w0_tail B.pre
  have hown : s.vm.findClass RX11 = some m.cls := findClass_of_methodNamed B.named
  have hlocks := B.notSynchronized
  subst hsz
  have hD := hD0.self (sz := s.heap.size)
  generalize hAe : va_A [(h0, .inr (10, [.ref t1, .ref f1, .ref s1, .ref d1, .ref y1, .ref g1, .ref m1, .ref n1, .int 0, .long 0]))] s.heap.size = A at hD hE ⊢
  have hA : ∀ q : Nat, s.heap.size ≤ q → A q := fun q h => by rw [← hAe]; exact Or.inr h
  have hS : va_S A s.heap s.heap [] := va_S.rf
  obtain ⟨H, hHe⟩ : ∃ H : Heap, H = s.heap := ⟨_, rfl⟩
  have hP : va_P (DG G) clP1 [(h0, .inr (10, [.ref t1, .ref f1, .ref s1, .ref d1, .ref y1, .ref g1, .ref m1, .ref n1, .int 0, .long 0]))] H := by rw [hHe]; exact hP
  have hS : va_S A s.heap H [] := by rw [hHe]; exact hS
  have hl := lv_entry ([.ref h0, .int p0]) (n := 3) (Nat.le_of_ble_eq_true rfl)
  rw [lg_entry_eq, ← hHe]
  generalize (lg_sl ([.ref h0, .int p0]) ++ List.replicate (3 - (lg_sl ([.ref h0, .int p0])).length) Slot.unset).toArray = ls at hl ⊢
  have hl : lv_has ls 3 [(0, .ref h0), (1, .int p0)] := hl
  refine lv_aload_n hx hb dX11_level_0 rfl (lv_at hl 0 rfl) ?_
  refine va_get (D := DG G) (ci := 10) (v := .ref y1) (C := RX11) (T := TX11) (N := 10) hx hb hts inW_X11 hown hK hP 0 rfl rfl 4 (by decide) (hts _ wm303) (fun _ h9 => h9) rfl dX11_level_1 ?_
  refine lv_aload_n hx hb dX11_level_4 rfl (lv_at hl 0 rfl) ?_
  refine lv_iload_n hx hb dX11_level_5 rfl (lv_at hl 1 rfl) ?_
  have hFc := va_free (wc := [(h0, .inr (10, [.ref t1, .ref f1, .ref s1, .ref d1, .ref y1, .ref g1, .ref m1, .ref n1, .int 0, .long 0]))]) hD hS hA [0] rfl
  refine vx_calli (vx_runV (As := [.int p0]) (rest := [.ref y1]) ⟨hx, hb, hml, hown, hts⟩ (k_X11_termAt l hfl G h0 p0 t1 f1 s1 d1 y1 g1 m1 n1 H.size) (cwV 1 hts (gV wm670 wm672 ws_p9 wm1 wm673) rfl rfl rfl (by decide +kernel) ⟨Nat.le_of_ble_eq_true rfl, Nat.le_of_ble_eq_true rfl⟩) (pre_v (pre_s hK hP hD hS hE [0] rfl rfl (by decide) hFc) (va_recv hK hP (ci := 10) (q0 := 0) rfl rfl)) rfl rfl hl.1 rfl (lv_room (Nat.le_of_ble_eq_true rfl)) dX11_level_6 ⟨Nat.le_of_ble_eq_true rfl, Nat.le_of_ble_eq_true rfl⟩) hS (fun q _ h => hFc q h) hFc (fun q _ h => hFc q h) (fun E ce q9 u t H locs ht hvm hpx hBX hz1 hk1 hS hce hv9 hcl => ?_) (fun r u t H locs ht hvm hw hB hz1 hk1 hS => ?_)
  · have hBX : E = "java/lang/IndexOutOfBoundsException" := hBX
    subst hBX
    exact vx_out (fun x hx => (hout0 x hx).elim) hlocks hce hv9 hcl (fun t2 ht2 _ => ⟨(), trivial, rfl, hS.F ht2⟩) hS.2.2 (Nat.le_of_ble_eq_true rfl) (Nat.le_of_ble_eq_true rfl)
  · exact hw.elim
set_option maxHeartbeats 4000000 in
set_option maxRecDepth 100000 in
theorem k_X11_isOf (l : Launch) (hfl : l.stackTraces = false) (G : GC) (h0 : Nat) (p0 : Int32) (p1 : Int32) (t1 : Nat) (f1 : Nat) (s1 : Nat) (d1 : Nat) (y1 : Nat) (g1 : Nat) (m1 : Nat) (n1 : Nat) (sz : Nat) : vx_Met l yX11_isOf (Cond.code yX11_isOf cX11_isOf 9 (some .boolean) :: W0) ({ frames := 7, cells := 1, slots := 6, locals := 103 }) (va_Pc [.ref h0, .int p0, .int p1] (WD G [(h0, .inr (10, [.ref t1, .ref f1, .ref s1, .ref d1, .ref y1, .ref g1, .ref m1, .ref n1, .int 0, .long 0]))] sz)) (va_Qi (S := Unit) (fun _ _ => False) (fun _ _ => True) (va_A [(h0, .inr (10, [.ref t1, .ref f1, .ref s1, .ref d1, .ref y1, .ref g1, .ref m1, .ref n1, .int 0, .long 0]))] sz)) (vx_X (fun _ : Unit => True) (fun (E : String) (_ : Unit) (_ : State) => E = "java/lang/IndexOutOfBoundsException") (va_A [(h0, .inr (10, [.ref t1, .ref f1, .ref s1, .ref d1, .ref y1, .ref g1, .ref m1, .ref n1, .int 0, .long 0]))] sz)) 1 6 (va_A [(h0, .inr (10, [.ref t1, .ref f1, .ref s1, .ref d1, .ref y1, .ref g1, .ref m1, .ref n1, .int 0, .long 0]))] sz) := by
  refine vx_ofW (cc := cX11_isOf) (maxL := 9) (ret := (some .boolean)) (by decide) rfl ?_
  intro p e s m args below meth c s₁ B hml hout0 hv
  obtain ⟨rfl, hsz, hP, hK, hD0, hE⟩ := hv
  have hx := B.exec
  have hb := B.bytes
  have hr := B.returns
  have hts := w0_tail B.pre
  have hown : s.vm.findClass RX11 = some m.cls := findClass_of_methodNamed B.named
  have hlocks := B.notSynchronized
  subst hsz
  have hD := hD0.self (sz := s.heap.size)
  generalize hAe : va_A [(h0, .inr (10, [.ref t1, .ref f1, .ref s1, .ref d1, .ref y1, .ref g1, .ref m1, .ref n1, .int 0, .long 0]))] s.heap.size = A at hD hE ⊢
  have hA : ∀ q : Nat, s.heap.size ≤ q → A q := fun q h => by rw [← hAe]; exact Or.inr h
  have hS : va_S A s.heap s.heap [] := va_S.rf
  obtain ⟨H, hHe⟩ : ∃ H : Heap, H = s.heap := ⟨_, rfl⟩
  have hP : va_P (DG G) clP1 [(h0, .inr (10, [.ref t1, .ref f1, .ref s1, .ref d1, .ref y1, .ref g1, .ref m1, .ref n1, .int 0, .long 0]))] H := by rw [hHe]; exact hP
  have hS : va_S A s.heap H [] := by rw [hHe]; exact hS
  have hl := lv_entry ([.ref h0, .int p0, .int p1]) (n := 9) (Nat.le_of_ble_eq_true rfl)
  rw [lg_entry_eq, ← hHe]
  generalize (lg_sl ([.ref h0, .int p0, .int p1]) ++ List.replicate (9 - (lg_sl ([.ref h0, .int p0, .int p1])).length) Slot.unset).toArray = ls at hl ⊢
  have hl : lv_has ls 9 [(0, .ref h0), (1, .int p0), (2, .int p1)] := hl
  refine lv_aload_n hx hb dX11_isOf_0 rfl (lv_at hl 0 rfl) ?_
  refine lv_iload_n hx hb dX11_isOf_1 rfl (lv_at hl 1 rfl) ?_
  have hFc := va_free (wc := [(h0, .inr (10, [.ref t1, .ref f1, .ref s1, .ref d1, .ref y1, .ref g1, .ref m1, .ref n1, .int 0, .long 0]))]) hD hS hA [0] rfl
  refine vx_calli (vx_runV (As := [.int p0]) (rest := []) ⟨hx, hb, hml, hown, hts⟩ (k_X11_termAt l hfl G h0 p0 t1 f1 s1 d1 y1 g1 m1 n1 H.size) (cwV 1 hts (gV wm670 wm672 ws_p9 wm1 wm673) rfl rfl rfl (by decide +kernel) ⟨Nat.le_of_ble_eq_true rfl, Nat.le_of_ble_eq_true rfl⟩) (pre_v (pre_s hK hP hD hS hE [0] rfl rfl (by decide) hFc) (va_recv hK hP (ci := 10) (q0 := 0) rfl rfl)) rfl rfl hl.1 rfl (lv_room (Nat.le_of_ble_eq_true rfl)) dX11_isOf_2 ⟨Nat.le_of_ble_eq_true rfl, Nat.le_of_ble_eq_true rfl⟩) hS (fun q _ h => hFc q h) hFc (fun q _ h => hFc q h) (fun E ce q9 u t H locs ht hvm hpx hBX hz1 hk1 hS hce hv9 hcl => ?_) (fun r u t H locs ht hvm hw hB hz1 hk1 hS => ?_)
  · have hBX : E = "java/lang/IndexOutOfBoundsException" := hBX
    subst hBX
    exact vx_out (fun x hx => (hout0 x hx).elim) hlocks hce hv9 hcl (fun t2 ht2 _ => ⟨(), trivial, rfl, hS.F ht2⟩) hS.2.2 (Nat.le_of_ble_eq_true rfl) (Nat.le_of_ble_eq_true rfl)
  · exact hw.elim
set_option maxHeartbeats 4000000 in
set_option maxRecDepth 100000 in
theorem k_X11_declare (l : Launch) (hfl : l.stackTraces = false) (G : GC) (h0 : Nat) (p0 : Int32) (t1 : Nat) (f1 : Nat) (s1 : Nat) (d1 : Nat) (y1 : Nat) (g1 : Nat) (m1 : Nat) (n1 : Nat) (sz : Nat) : vx_Met l yX11_declare (Cond.code yX11_declare cX11_declare 6 (some .int) :: W0) ({ frames := 7, cells := 1, slots := 6, locals := 103 }) (va_Pc [.ref h0, .int p0] (WD G [(h0, .inr (10, [.ref t1, .ref f1, .ref s1, .ref d1, .ref y1, .ref g1, .ref m1, .ref n1, .int 0, .long 0]))] sz)) (va_Qi (S := Unit) (fun _ _ => False) (fun _ _ => True) (va_A [(h0, .inr (10, [.ref t1, .ref f1, .ref s1, .ref d1, .ref y1, .ref g1, .ref m1, .ref n1, .int 0, .long 0]))] sz)) (vx_X (fun _ : Unit => True) (fun (E : String) (_ : Unit) (_ : State) => E = "java/lang/IndexOutOfBoundsException") (va_A [(h0, .inr (10, [.ref t1, .ref f1, .ref s1, .ref d1, .ref y1, .ref g1, .ref m1, .ref n1, .int 0, .long 0]))] sz)) 1 6 (va_A [(h0, .inr (10, [.ref t1, .ref f1, .ref s1, .ref d1, .ref y1, .ref g1, .ref m1, .ref n1, .int 0, .long 0]))] sz) := by
  refine vx_ofW (cc := cX11_declare) (maxL := 6) (ret := (some .int)) (by decide) rfl ?_
  intro p e s m args below meth c s₁ B hml hout0 hv
  obtain ⟨rfl, hsz, hP, hK, hD0, hE⟩ := hv
  have hx := B.exec
  have hb := B.bytes
  have hr := B.returns
  have hts := w0_tail B.pre
  have hown : s.vm.findClass RX11 = some m.cls := findClass_of_methodNamed B.named
  have hlocks := B.notSynchronized
  subst hsz
  have hD := hD0.self (sz := s.heap.size)
  generalize hAe : va_A [(h0, .inr (10, [.ref t1, .ref f1, .ref s1, .ref d1, .ref y1, .ref g1, .ref m1, .ref n1, .int 0, .long 0]))] s.heap.size = A at hD hE ⊢
  have hA : ∀ q : Nat, s.heap.size ≤ q → A q := fun q h => by rw [← hAe]; exact Or.inr h
  have hS : va_S A s.heap s.heap [] := va_S.rf
  obtain ⟨H, hHe⟩ : ∃ H : Heap, H = s.heap := ⟨_, rfl⟩
  have hP : va_P (DG G) clP1 [(h0, .inr (10, [.ref t1, .ref f1, .ref s1, .ref d1, .ref y1, .ref g1, .ref m1, .ref n1, .int 0, .long 0]))] H := by rw [hHe]; exact hP
  have hS : va_S A s.heap H [] := by rw [hHe]; exact hS
  have hl := lv_entry ([.ref h0, .int p0]) (n := 6) (Nat.le_of_ble_eq_true rfl)
  rw [lg_entry_eq, ← hHe]
  generalize (lg_sl ([.ref h0, .int p0]) ++ List.replicate (6 - (lg_sl ([.ref h0, .int p0])).length) Slot.unset).toArray = ls at hl ⊢
  have hl : lv_has ls 6 [(0, .ref h0), (1, .int p0)] := hl
  refine lv_aload_n hx hb dX11_declare_0 rfl (lv_at hl 0 rfl) ?_
  refine lv_iload_n hx hb dX11_declare_1 rfl (lv_at hl 1 rfl) ?_
  have hFc := va_free (wc := [(h0, .inr (10, [.ref t1, .ref f1, .ref s1, .ref d1, .ref y1, .ref g1, .ref m1, .ref n1, .int 0, .long 0]))]) hD hS hA [0] rfl
  refine vx_calli (vx_runV (As := [.int p0]) (rest := []) ⟨hx, hb, hml, hown, hts⟩ (k_X11_termAt l hfl G h0 p0 t1 f1 s1 d1 y1 g1 m1 n1 H.size) (cwV 1 hts (gV wm670 wm672 ws_p9 wm1 wm673) rfl rfl rfl (by decide +kernel) ⟨Nat.le_of_ble_eq_true rfl, Nat.le_of_ble_eq_true rfl⟩) (pre_v (pre_s hK hP hD hS hE [0] rfl rfl (by decide) hFc) (va_recv hK hP (ci := 10) (q0 := 0) rfl rfl)) rfl rfl hl.1 rfl (lv_room (Nat.le_of_ble_eq_true rfl)) dX11_declare_2 ⟨Nat.le_of_ble_eq_true rfl, Nat.le_of_ble_eq_true rfl⟩) hS (fun q _ h => hFc q h) hFc (fun q _ h => hFc q h) (fun E ce q9 u t H locs ht hvm hpx hBX hz1 hk1 hS hce hv9 hcl => ?_) (fun r u t H locs ht hvm hw hB hz1 hk1 hS => ?_)
  · have hBX : E = "java/lang/IndexOutOfBoundsException" := hBX
    subst hBX
    exact vx_out (fun x hx => (hout0 x hx).elim) hlocks hce hv9 hcl (fun t2 ht2 _ => ⟨(), trivial, rfl, hS.F ht2⟩) hS.2.2 (Nat.le_of_ble_eq_true rfl) (Nat.le_of_ble_eq_true rfl)
  · exact hw.elim
set_option maxHeartbeats 4000000 in
set_option maxRecDepth 100000 in
theorem k_X11_split (l : Launch) (hfl : l.stackTraces = false) (G : GC) (h0 : Nat) (p0 : Int32) (p1 : Int32) (t1 : Nat) (f1 : Nat) (s1 : Nat) (d1 : Nat) (y1 : Nat) (g1 : Nat) (m1 : Nat) (n1 : Nat) (df0 : Nat) (df1 : Nat) (df2 : Nat) (df3 : Nat) (df4 : Nat) (sz : Nat) : vx_Met l yX11_split (Cond.code yX11_split cX11_split 5 (some .int) :: W0) ({ frames := 7, cells := 1, slots := 6, locals := 104 }) (va_Pc [.ref h0, .int p0, .int p1] (WD G [(h0, .inr (10, [.ref t1, .ref f1, .ref s1, .ref d1, .ref y1, .ref g1, .ref m1, .ref n1, .int 0, .long 0])), (d1, .inr (2, [.ref df0, .ref df1, .ref df2, .ref df3, .ref df4, .int 0, .int 0, .int 0]))] sz)) (va_Qi (S := Unit) (fun _ _ => False) (fun _ _ => True) (va_A [(h0, .inr (10, [.ref t1, .ref f1, .ref s1, .ref d1, .ref y1, .ref g1, .ref m1, .ref n1, .int 0, .long 0])), (d1, .inr (2, [.ref df0, .ref df1, .ref df2, .ref df3, .ref df4, .int 0, .int 0, .int 0]))] sz)) (vx_X (fun _ : Unit => True) (fun (E : String) (_ : Unit) (_ : State) => E = "java/util/NoSuchElementException") (va_A [(h0, .inr (10, [.ref t1, .ref f1, .ref s1, .ref d1, .ref y1, .ref g1, .ref m1, .ref n1, .int 0, .long 0])), (d1, .inr (2, [.ref df0, .ref df1, .ref df2, .ref df3, .ref df4, .int 0, .int 0, .int 0]))] sz)) 1 6 (va_A [(h0, .inr (10, [.ref t1, .ref f1, .ref s1, .ref d1, .ref y1, .ref g1, .ref m1, .ref n1, .int 0, .long 0])), (d1, .inr (2, [.ref df0, .ref df1, .ref df2, .ref df3, .ref df4, .int 0, .int 0, .int 0]))] sz) := by
  refine vx_ofW (cc := cX11_split) (maxL := 5) (ret := (some .int)) (by decide) rfl ?_
  intro p e s m args below meth c s₁ B hml hout0 hv
  obtain ⟨rfl, hsz, hP, hK, hD0, hE⟩ := hv
  have hx := B.exec
  have hb := B.bytes
  have hr := B.returns
  have hts := w0_tail B.pre
  have hown : s.vm.findClass RX11 = some m.cls := findClass_of_methodNamed B.named
  have hlocks := B.notSynchronized
  subst hsz
  have hD := hD0.self (sz := s.heap.size)
  generalize hAe : va_A [(h0, .inr (10, [.ref t1, .ref f1, .ref s1, .ref d1, .ref y1, .ref g1, .ref m1, .ref n1, .int 0, .long 0])), (d1, .inr (2, [.ref df0, .ref df1, .ref df2, .ref df3, .ref df4, .int 0, .int 0, .int 0]))] s.heap.size = A at hD hE ⊢
  have hA : ∀ q : Nat, s.heap.size ≤ q → A q := fun q h => by rw [← hAe]; exact Or.inr h
  have hS : va_S A s.heap s.heap [] := va_S.rf
  obtain ⟨H, hHe⟩ : ∃ H : Heap, H = s.heap := ⟨_, rfl⟩
  have hP : va_P (DG G) clP1 [(h0, .inr (10, [.ref t1, .ref f1, .ref s1, .ref d1, .ref y1, .ref g1, .ref m1, .ref n1, .int 0, .long 0])), (d1, .inr (2, [.ref df0, .ref df1, .ref df2, .ref df3, .ref df4, .int 0, .int 0, .int 0]))] H := by rw [hHe]; exact hP
  have hS : va_S A s.heap H [] := by rw [hHe]; exact hS
  have hl := lv_entry ([.ref h0, .int p0, .int p1]) (n := 5) (Nat.le_of_ble_eq_true rfl)
  rw [lg_entry_eq, ← hHe]
  generalize (lg_sl ([.ref h0, .int p0, .int p1]) ++ List.replicate (5 - (lg_sl ([.ref h0, .int p0, .int p1])).length) Slot.unset).toArray = ls at hl ⊢
  have hl : lv_has ls 5 [(0, .ref h0), (1, .int p0), (2, .int p1)] := hl
  refine lv_aload_n hx hb dX11_split_0 rfl (lv_at hl 0 rfl) ?_
  refine lv_iload_n hx hb dX11_split_1 rfl (lv_at hl 1 rfl) ?_
  have hFc := va_free (wc := [(h0, .inr (10, [.ref t1, .ref f1, .ref s1, .ref d1, .ref y1, .ref g1, .ref m1, .ref n1, .int 0, .long 0])), (d1, .inr (2, [.ref df0, .ref df1, .ref df2, .ref df3, .ref df4, .int 0, .int 0, .int 0]))]) hD hS hA [0, 1] rfl
  refine vx_callq (vx_runV (As := [.int p0]) (rest := []) ⟨hx, hb, hml, hown, hts⟩ (k_X11_goalAt l hfl G h0 p0 t1 f1 s1 d1 y1 g1 m1 n1 df0 df1 df2 df3 df4 H.size) (cwV 1 hts (gV wm966 wm968 ws_p12 wm1 wm969) rfl rfl rfl (by decide +kernel) ⟨Nat.le_of_ble_eq_true rfl, Nat.le_of_ble_eq_true rfl⟩) (pre_v (pre_s hK hP hD hS hE [0, 1] rfl rfl (by decide) hFc) (va_recv hK hP (ci := 10) (q0 := 0) rfl rfl)) rfl rfl hl.1 rfl (lv_room (Nat.le_of_ble_eq_true rfl)) dX11_split_2 ⟨Nat.le_of_ble_eq_true rfl, Nat.le_of_ble_eq_true rfl⟩) hS (fun q _ h => hFc q h) hFc (fun q _ h => hFc q h) (fun E ce q9 u t H locs ht hvm hpx hBX hz1 hk1 hS hce hv9 hcl => ?_) (fun ro u t H locs ht hvm hw hB hz1 hk1 hS => ?_)
  · have hBX : E = "java/util/NoSuchElementException" := hBX
    subst hBX
    exact vx_out (fun x hx => (hout0 x hx).elim) hlocks hce hv9 hcl (fun t2 ht2 _ => ⟨(), trivial, rfl, hS.F ht2⟩) hS.2.2 (Nat.le_of_ble_eq_true rfl) (Nat.le_of_ble_eq_true rfl)
  · exact hw.elim
set_option maxHeartbeats 4000000 in
set_option maxRecDepth 100000 in
theorem k_X11_fill (l : Launch) (hfl : l.stackTraces = false) (G : GC) (h0 : Nat) (p0 : Int32) (p1 : Int32) (t1 : Nat) (f1 : Nat) (s1 : Nat) (d1 : Nat) (y1 : Nat) (g1 : Nat) (m1 : Nat) (n1 : Nat) (df0 : Nat) (df1 : Nat) (df2 : Nat) (df3 : Nat) (df4 : Nat) (sz : Nat) : vx_Met l yX11_fill (Cond.code yX11_fill cX11_fill 6 (some .int) :: W0) ({ frames := 7, cells := 1, slots := 6, locals := 104 }) (va_Pc [.ref h0, .int p0, .int p1] (WD G [(h0, .inr (10, [.ref t1, .ref f1, .ref s1, .ref d1, .ref y1, .ref g1, .ref m1, .ref n1, .int 0, .long 0])), (d1, .inr (2, [.ref df0, .ref df1, .ref df2, .ref df3, .ref df4, .int 0, .int 0, .int 0]))] sz)) (va_Qi (S := Unit) (fun _ _ => False) (fun _ _ => True) (va_A [(h0, .inr (10, [.ref t1, .ref f1, .ref s1, .ref d1, .ref y1, .ref g1, .ref m1, .ref n1, .int 0, .long 0])), (d1, .inr (2, [.ref df0, .ref df1, .ref df2, .ref df3, .ref df4, .int 0, .int 0, .int 0]))] sz)) (vx_X (fun _ : Unit => True) (fun (E : String) (_ : Unit) (_ : State) => E = "java/util/NoSuchElementException") (va_A [(h0, .inr (10, [.ref t1, .ref f1, .ref s1, .ref d1, .ref y1, .ref g1, .ref m1, .ref n1, .int 0, .long 0])), (d1, .inr (2, [.ref df0, .ref df1, .ref df2, .ref df3, .ref df4, .int 0, .int 0, .int 0]))] sz)) 1 6 (va_A [(h0, .inr (10, [.ref t1, .ref f1, .ref s1, .ref d1, .ref y1, .ref g1, .ref m1, .ref n1, .int 0, .long 0])), (d1, .inr (2, [.ref df0, .ref df1, .ref df2, .ref df3, .ref df4, .int 0, .int 0, .int 0]))] sz) := by
  refine vx_ofW (cc := cX11_fill) (maxL := 6) (ret := (some .int)) (by decide) rfl ?_
  intro p e s m args below meth c s₁ B hml hout0 hv
  obtain ⟨rfl, hsz, hP, hK, hD0, hE⟩ := hv
  have hx := B.exec
  have hb := B.bytes
  have hr := B.returns
  have hts := w0_tail B.pre
  have hown : s.vm.findClass RX11 = some m.cls := findClass_of_methodNamed B.named
  have hlocks := B.notSynchronized
  subst hsz
  have hD := hD0.self (sz := s.heap.size)
  generalize hAe : va_A [(h0, .inr (10, [.ref t1, .ref f1, .ref s1, .ref d1, .ref y1, .ref g1, .ref m1, .ref n1, .int 0, .long 0])), (d1, .inr (2, [.ref df0, .ref df1, .ref df2, .ref df3, .ref df4, .int 0, .int 0, .int 0]))] s.heap.size = A at hD hE ⊢
  have hA : ∀ q : Nat, s.heap.size ≤ q → A q := fun q h => by rw [← hAe]; exact Or.inr h
  have hS : va_S A s.heap s.heap [] := va_S.rf
  obtain ⟨H, hHe⟩ : ∃ H : Heap, H = s.heap := ⟨_, rfl⟩
  have hP : va_P (DG G) clP1 [(h0, .inr (10, [.ref t1, .ref f1, .ref s1, .ref d1, .ref y1, .ref g1, .ref m1, .ref n1, .int 0, .long 0])), (d1, .inr (2, [.ref df0, .ref df1, .ref df2, .ref df3, .ref df4, .int 0, .int 0, .int 0]))] H := by rw [hHe]; exact hP
  have hS : va_S A s.heap H [] := by rw [hHe]; exact hS
  have hl := lv_entry ([.ref h0, .int p0, .int p1]) (n := 6) (Nat.le_of_ble_eq_true rfl)
  rw [lg_entry_eq, ← hHe]
  generalize (lg_sl ([.ref h0, .int p0, .int p1]) ++ List.replicate (6 - (lg_sl ([.ref h0, .int p0, .int p1])).length) Slot.unset).toArray = ls at hl ⊢
  have hl : lv_has ls 6 [(0, .ref h0), (1, .int p0), (2, .int p1)] := hl
  refine lv_aload_n hx hb dX11_fill_0 rfl (lv_at hl 0 rfl) ?_
  refine lv_iload_n hx hb dX11_fill_1 rfl (lv_at hl 1 rfl) ?_
  have hFc := va_free (wc := [(h0, .inr (10, [.ref t1, .ref f1, .ref s1, .ref d1, .ref y1, .ref g1, .ref m1, .ref n1, .int 0, .long 0])), (d1, .inr (2, [.ref df0, .ref df1, .ref df2, .ref df3, .ref df4, .int 0, .int 0, .int 0]))]) hD hS hA [0, 1] rfl
  refine vx_callq (vx_runV (As := [.int p0]) (rest := []) ⟨hx, hb, hml, hown, hts⟩ (k_X11_goalAt l hfl G h0 p0 t1 f1 s1 d1 y1 g1 m1 n1 df0 df1 df2 df3 df4 H.size) (cwV 1 hts (gV wm966 wm968 ws_p12 wm1 wm969) rfl rfl rfl (by decide +kernel) ⟨Nat.le_of_ble_eq_true rfl, Nat.le_of_ble_eq_true rfl⟩) (pre_v (pre_s hK hP hD hS hE [0, 1] rfl rfl (by decide) hFc) (va_recv hK hP (ci := 10) (q0 := 0) rfl rfl)) rfl rfl hl.1 rfl (lv_room (Nat.le_of_ble_eq_true rfl)) dX11_fill_2 ⟨Nat.le_of_ble_eq_true rfl, Nat.le_of_ble_eq_true rfl⟩) hS (fun q _ h => hFc q h) hFc (fun q _ h => hFc q h) (fun E ce q9 u t H locs ht hvm hpx hBX hz1 hk1 hS hce hv9 hcl => ?_) (fun ro u t H locs ht hvm hw hB hz1 hk1 hS => ?_)
  · have hBX : E = "java/util/NoSuchElementException" := hBX
    subst hBX
    exact vx_out (fun x hx => (hout0 x hx).elim) hlocks hce hv9 hcl (fun t2 ht2 _ => ⟨(), trivial, rfl, hS.F ht2⟩) hS.2.2 (Nat.le_of_ble_eq_true rfl) (Nat.le_of_ble_eq_true rfl)
  · exact hw.elim
set_option maxHeartbeats 4000000 in
set_option maxRecDepth 100000 in
theorem k_X11_auto (l : Launch) (hfl : l.stackTraces = false) (G : GC) (h0 : Nat) (p0 : Int32) (t1 : Nat) (f1 : Nat) (s1 : Nat) (d1 : Nat) (y1 : Nat) (g1 : Nat) (m1 : Nat) (n1 : Nat) (df0 : Nat) (df1 : Nat) (df2 : Nat) (df3 : Nat) (df4 : Nat) (sz : Nat) : vx_Met l yX11_auto (Cond.code yX11_auto cX11_auto 4 (some .int) :: W0) ({ frames := 7, cells := 1, slots := 6, locals := 104 }) (va_Pc [.ref h0, .int p0] (WD G [(h0, .inr (10, [.ref t1, .ref f1, .ref s1, .ref d1, .ref y1, .ref g1, .ref m1, .ref n1, .int 0, .long 0])), (d1, .inr (2, [.ref df0, .ref df1, .ref df2, .ref df3, .ref df4, .int 0, .int 0, .int 0]))] sz)) (va_Qi (S := Unit) (fun _ _ => False) (fun _ _ => True) (va_A [(h0, .inr (10, [.ref t1, .ref f1, .ref s1, .ref d1, .ref y1, .ref g1, .ref m1, .ref n1, .int 0, .long 0])), (d1, .inr (2, [.ref df0, .ref df1, .ref df2, .ref df3, .ref df4, .int 0, .int 0, .int 0]))] sz)) (vx_X (fun _ : Unit => True) (fun (E : String) (_ : Unit) (_ : State) => E = "java/util/NoSuchElementException") (va_A [(h0, .inr (10, [.ref t1, .ref f1, .ref s1, .ref d1, .ref y1, .ref g1, .ref m1, .ref n1, .int 0, .long 0])), (d1, .inr (2, [.ref df0, .ref df1, .ref df2, .ref df3, .ref df4, .int 0, .int 0, .int 0]))] sz)) 1 6 (va_A [(h0, .inr (10, [.ref t1, .ref f1, .ref s1, .ref d1, .ref y1, .ref g1, .ref m1, .ref n1, .int 0, .long 0])), (d1, .inr (2, [.ref df0, .ref df1, .ref df2, .ref df3, .ref df4, .int 0, .int 0, .int 0]))] sz) := by
  refine vx_ofW (cc := cX11_auto) (maxL := 4) (ret := (some .int)) (by decide) rfl ?_
  intro p e s m args below meth c s₁ B hml hout0 hv
  obtain ⟨rfl, hsz, hP, hK, hD0, hE⟩ := hv
  have hx := B.exec
  have hb := B.bytes
  have hr := B.returns
  have hts := w0_tail B.pre
  have hown : s.vm.findClass RX11 = some m.cls := findClass_of_methodNamed B.named
  have hlocks := B.notSynchronized
  subst hsz
  have hD := hD0.self (sz := s.heap.size)
  generalize hAe : va_A [(h0, .inr (10, [.ref t1, .ref f1, .ref s1, .ref d1, .ref y1, .ref g1, .ref m1, .ref n1, .int 0, .long 0])), (d1, .inr (2, [.ref df0, .ref df1, .ref df2, .ref df3, .ref df4, .int 0, .int 0, .int 0]))] s.heap.size = A at hD hE ⊢
  have hA : ∀ q : Nat, s.heap.size ≤ q → A q := fun q h => by rw [← hAe]; exact Or.inr h
  have hS : va_S A s.heap s.heap [] := va_S.rf
  obtain ⟨H, hHe⟩ : ∃ H : Heap, H = s.heap := ⟨_, rfl⟩
  have hP : va_P (DG G) clP1 [(h0, .inr (10, [.ref t1, .ref f1, .ref s1, .ref d1, .ref y1, .ref g1, .ref m1, .ref n1, .int 0, .long 0])), (d1, .inr (2, [.ref df0, .ref df1, .ref df2, .ref df3, .ref df4, .int 0, .int 0, .int 0]))] H := by rw [hHe]; exact hP
  have hS : va_S A s.heap H [] := by rw [hHe]; exact hS
  have hl := lv_entry ([.ref h0, .int p0]) (n := 4) (Nat.le_of_ble_eq_true rfl)
  rw [lg_entry_eq, ← hHe]
  generalize (lg_sl ([.ref h0, .int p0]) ++ List.replicate (4 - (lg_sl ([.ref h0, .int p0])).length) Slot.unset).toArray = ls at hl ⊢
  have hl : lv_has ls 4 [(0, .ref h0), (1, .int p0)] := hl
  refine lv_aload_n hx hb dX11_auto_0 rfl (lv_at hl 0 rfl) ?_
  refine lv_iload_n hx hb dX11_auto_1 rfl (lv_at hl 1 rfl) ?_
  have hFc := va_free (wc := [(h0, .inr (10, [.ref t1, .ref f1, .ref s1, .ref d1, .ref y1, .ref g1, .ref m1, .ref n1, .int 0, .long 0])), (d1, .inr (2, [.ref df0, .ref df1, .ref df2, .ref df3, .ref df4, .int 0, .int 0, .int 0]))]) hD hS hA [0, 1] rfl
  refine vx_callq (vx_runV (As := [.int p0]) (rest := []) ⟨hx, hb, hml, hown, hts⟩ (k_X11_goalAt l hfl G h0 p0 t1 f1 s1 d1 y1 g1 m1 n1 df0 df1 df2 df3 df4 H.size) (cwV 1 hts (gV wm966 wm968 ws_p12 wm1 wm969) rfl rfl rfl (by decide +kernel) ⟨Nat.le_of_ble_eq_true rfl, Nat.le_of_ble_eq_true rfl⟩) (pre_v (pre_s hK hP hD hS hE [0, 1] rfl rfl (by decide) hFc) (va_recv hK hP (ci := 10) (q0 := 0) rfl rfl)) rfl rfl hl.1 rfl (lv_room (Nat.le_of_ble_eq_true rfl)) dX11_auto_2 ⟨Nat.le_of_ble_eq_true rfl, Nat.le_of_ble_eq_true rfl⟩) hS (fun q _ h => hFc q h) hFc (fun q _ h => hFc q h) (fun E ce q9 u t H locs ht hvm hpx hBX hz1 hk1 hS hce hv9 hcl => ?_) (fun ro u t H locs ht hvm hw hB hz1 hk1 hS => ?_)
  · have hBX : E = "java/util/NoSuchElementException" := hBX
    subst hBX
    exact vx_out (fun x hx => (hout0 x hx).elim) hlocks hce hv9 hcl (fun t2 ht2 _ => ⟨(), trivial, rfl, hS.F ht2⟩) hS.2.2 (Nat.le_of_ble_eq_true rfl) (Nat.le_of_ble_eq_true rfl)
  · exact hw.elim
set_option maxHeartbeats 4000000 in
set_option maxRecDepth 100000 in
theorem k_X11_reopen (l : Launch) (hfl : l.stackTraces = false) (G : GC) (h0 : Nat) (p0 : Int32) (t1 : Nat) (f1 : Nat) (s1 : Nat) (d1 : Nat) (y1 : Nat) (g1 : Nat) (m1 : Nat) (n1 : Nat) (df0 : Nat) (df1 : Nat) (df2 : Nat) (df3 : Nat) (df4 : Nat) (sz : Nat) : vx_Met l yX11_reopen (Cond.code yX11_reopen cX11_reopen 4 (some .int) :: W0) ({ frames := 7, cells := 1, slots := 6, locals := 104 }) (va_Pc [.ref h0, .int p0] (WD G [(h0, .inr (10, [.ref t1, .ref f1, .ref s1, .ref d1, .ref y1, .ref g1, .ref m1, .ref n1, .int 0, .long 0])), (d1, .inr (2, [.ref df0, .ref df1, .ref df2, .ref df3, .ref df4, .int 0, .int 0, .int 0]))] sz)) (va_Qi (S := Unit) (fun _ _ => False) (fun _ _ => True) (va_A [(h0, .inr (10, [.ref t1, .ref f1, .ref s1, .ref d1, .ref y1, .ref g1, .ref m1, .ref n1, .int 0, .long 0])), (d1, .inr (2, [.ref df0, .ref df1, .ref df2, .ref df3, .ref df4, .int 0, .int 0, .int 0]))] sz)) (vx_X (fun _ : Unit => True) (fun (E : String) (_ : Unit) (_ : State) => E = "java/util/NoSuchElementException") (va_A [(h0, .inr (10, [.ref t1, .ref f1, .ref s1, .ref d1, .ref y1, .ref g1, .ref m1, .ref n1, .int 0, .long 0])), (d1, .inr (2, [.ref df0, .ref df1, .ref df2, .ref df3, .ref df4, .int 0, .int 0, .int 0]))] sz)) 1 6 (va_A [(h0, .inr (10, [.ref t1, .ref f1, .ref s1, .ref d1, .ref y1, .ref g1, .ref m1, .ref n1, .int 0, .long 0])), (d1, .inr (2, [.ref df0, .ref df1, .ref df2, .ref df3, .ref df4, .int 0, .int 0, .int 0]))] sz) := by
  refine vx_ofW (cc := cX11_reopen) (maxL := 4) (ret := (some .int)) (by decide) rfl ?_
  intro p e s m args below meth c s₁ B hml hout0 hv
  obtain ⟨rfl, hsz, hP, hK, hD0, hE⟩ := hv
  have hx := B.exec
  have hb := B.bytes
  have hr := B.returns
  have hts := w0_tail B.pre
  have hown : s.vm.findClass RX11 = some m.cls := findClass_of_methodNamed B.named
  have hlocks := B.notSynchronized
  subst hsz
  have hD := hD0.self (sz := s.heap.size)
  generalize hAe : va_A [(h0, .inr (10, [.ref t1, .ref f1, .ref s1, .ref d1, .ref y1, .ref g1, .ref m1, .ref n1, .int 0, .long 0])), (d1, .inr (2, [.ref df0, .ref df1, .ref df2, .ref df3, .ref df4, .int 0, .int 0, .int 0]))] s.heap.size = A at hD hE ⊢
  have hA : ∀ q : Nat, s.heap.size ≤ q → A q := fun q h => by rw [← hAe]; exact Or.inr h
  have hS : va_S A s.heap s.heap [] := va_S.rf
  obtain ⟨H, hHe⟩ : ∃ H : Heap, H = s.heap := ⟨_, rfl⟩
  have hP : va_P (DG G) clP1 [(h0, .inr (10, [.ref t1, .ref f1, .ref s1, .ref d1, .ref y1, .ref g1, .ref m1, .ref n1, .int 0, .long 0])), (d1, .inr (2, [.ref df0, .ref df1, .ref df2, .ref df3, .ref df4, .int 0, .int 0, .int 0]))] H := by rw [hHe]; exact hP
  have hS : va_S A s.heap H [] := by rw [hHe]; exact hS
  have hl := lv_entry ([.ref h0, .int p0]) (n := 4) (Nat.le_of_ble_eq_true rfl)
  rw [lg_entry_eq, ← hHe]
  generalize (lg_sl ([.ref h0, .int p0]) ++ List.replicate (4 - (lg_sl ([.ref h0, .int p0])).length) Slot.unset).toArray = ls at hl ⊢
  have hl : lv_has ls 4 [(0, .ref h0), (1, .int p0)] := hl
  refine lv_aload_n hx hb dX11_reopen_0 rfl (lv_at hl 0 rfl) ?_
  refine lv_iload_n hx hb dX11_reopen_1 rfl (lv_at hl 1 rfl) ?_
  have hFc := va_free (wc := [(h0, .inr (10, [.ref t1, .ref f1, .ref s1, .ref d1, .ref y1, .ref g1, .ref m1, .ref n1, .int 0, .long 0])), (d1, .inr (2, [.ref df0, .ref df1, .ref df2, .ref df3, .ref df4, .int 0, .int 0, .int 0]))]) hD hS hA [0, 1] rfl
  refine vx_callq (vx_runV (As := [.int p0]) (rest := []) ⟨hx, hb, hml, hown, hts⟩ (k_X11_goalAt l hfl G h0 p0 t1 f1 s1 d1 y1 g1 m1 n1 df0 df1 df2 df3 df4 H.size) (cwV 1 hts (gV wm966 wm968 ws_p12 wm1 wm969) rfl rfl rfl (by decide +kernel) ⟨Nat.le_of_ble_eq_true rfl, Nat.le_of_ble_eq_true rfl⟩) (pre_v (pre_s hK hP hD hS hE [0, 1] rfl rfl (by decide) hFc) (va_recv hK hP (ci := 10) (q0 := 0) rfl rfl)) rfl rfl hl.1 rfl (lv_room (Nat.le_of_ble_eq_true rfl)) dX11_reopen_2 ⟨Nat.le_of_ble_eq_true rfl, Nat.le_of_ble_eq_true rfl⟩) hS (fun q _ h => hFc q h) hFc (fun q _ h => hFc q h) (fun E ce q9 u t H locs ht hvm hpx hBX hz1 hk1 hS hce hv9 hcl => ?_) (fun ro u t H locs ht hvm hw hB hz1 hk1 hS => ?_)
  · have hBX : E = "java/util/NoSuchElementException" := hBX
    subst hBX
    exact vx_out (fun x hx => (hout0 x hx).elim) hlocks hce hv9 hcl (fun t2 ht2 _ => ⟨(), trivial, rfl, hS.F ht2⟩) hS.2.2 (Nat.le_of_ble_eq_true rfl) (Nat.le_of_ble_eq_true rfl)
  · exact hw.elim
set_option maxHeartbeats 4000000 in
set_option maxRecDepth 100000 in
theorem k_X11_contextSize (l : Launch) (hfl : l.stackTraces = false) (G : GC) (h0 : Nat) (p0 : Int32) (t1 : Nat) (f1 : Nat) (s1 : Nat) (d1 : Nat) (y1 : Nat) (g1 : Nat) (m1 : Nat) (n1 : Nat) (df0 : Nat) (df1 : Nat) (df2 : Nat) (df3 : Nat) (df4 : Nat) (sz : Nat) : vx_Met l yX11_contextSize (Cond.code yX11_contextSize cX11_contextSize 2 (some .int) :: W0) ({ frames := 7, cells := 1, slots := 6, locals := 104 }) (va_Pc [.ref h0, .int p0] (WD G [(h0, .inr (10, [.ref t1, .ref f1, .ref s1, .ref d1, .ref y1, .ref g1, .ref m1, .ref n1, .int 0, .long 0])), (d1, .inr (2, [.ref df0, .ref df1, .ref df2, .ref df3, .ref df4, .int 0, .int 0, .int 0]))] sz)) (va_Qi (S := Unit) (fun _ _ => False) (fun _ _ => True) (va_A [(h0, .inr (10, [.ref t1, .ref f1, .ref s1, .ref d1, .ref y1, .ref g1, .ref m1, .ref n1, .int 0, .long 0])), (d1, .inr (2, [.ref df0, .ref df1, .ref df2, .ref df3, .ref df4, .int 0, .int 0, .int 0]))] sz)) (vx_X (fun _ : Unit => True) (fun (E : String) (_ : Unit) (_ : State) => E = "java/util/NoSuchElementException") (va_A [(h0, .inr (10, [.ref t1, .ref f1, .ref s1, .ref d1, .ref y1, .ref g1, .ref m1, .ref n1, .int 0, .long 0])), (d1, .inr (2, [.ref df0, .ref df1, .ref df2, .ref df3, .ref df4, .int 0, .int 0, .int 0]))] sz)) 1 6 (va_A [(h0, .inr (10, [.ref t1, .ref f1, .ref s1, .ref d1, .ref y1, .ref g1, .ref m1, .ref n1, .int 0, .long 0])), (d1, .inr (2, [.ref df0, .ref df1, .ref df2, .ref df3, .ref df4, .int 0, .int 0, .int 0]))] sz) := by
  refine vx_ofW (cc := cX11_contextSize) (maxL := 2) (ret := (some .int)) (by decide) rfl ?_
  intro p e s m args below meth c s₁ B hml hout0 hv
  obtain ⟨rfl, hsz, hP, hK, hD0, hE⟩ := hv
  have hx := B.exec
  have hb := B.bytes
  have hr := B.returns
  have hts := w0_tail B.pre
  have hown : s.vm.findClass RX11 = some m.cls := findClass_of_methodNamed B.named
  have hlocks := B.notSynchronized
  subst hsz
  have hD := hD0.self (sz := s.heap.size)
  generalize hAe : va_A [(h0, .inr (10, [.ref t1, .ref f1, .ref s1, .ref d1, .ref y1, .ref g1, .ref m1, .ref n1, .int 0, .long 0])), (d1, .inr (2, [.ref df0, .ref df1, .ref df2, .ref df3, .ref df4, .int 0, .int 0, .int 0]))] s.heap.size = A at hD hE ⊢
  have hA : ∀ q : Nat, s.heap.size ≤ q → A q := fun q h => by rw [← hAe]; exact Or.inr h
  have hS : va_S A s.heap s.heap [] := va_S.rf
  obtain ⟨H, hHe⟩ : ∃ H : Heap, H = s.heap := ⟨_, rfl⟩
  have hP : va_P (DG G) clP1 [(h0, .inr (10, [.ref t1, .ref f1, .ref s1, .ref d1, .ref y1, .ref g1, .ref m1, .ref n1, .int 0, .long 0])), (d1, .inr (2, [.ref df0, .ref df1, .ref df2, .ref df3, .ref df4, .int 0, .int 0, .int 0]))] H := by rw [hHe]; exact hP
  have hS : va_S A s.heap H [] := by rw [hHe]; exact hS
  have hl := lv_entry ([.ref h0, .int p0]) (n := 2) (Nat.le_of_ble_eq_true rfl)
  rw [lg_entry_eq, ← hHe]
  generalize (lg_sl ([.ref h0, .int p0]) ++ List.replicate (2 - (lg_sl ([.ref h0, .int p0])).length) Slot.unset).toArray = ls at hl ⊢
  have hl : lv_has ls 2 [(0, .ref h0), (1, .int p0)] := hl
  refine lv_aload_n hx hb dX11_contextSize_0 rfl (lv_at hl 0 rfl) ?_
  refine lv_iload_n hx hb dX11_contextSize_1 rfl (lv_at hl 1 rfl) ?_
  have hFc := va_free (wc := [(h0, .inr (10, [.ref t1, .ref f1, .ref s1, .ref d1, .ref y1, .ref g1, .ref m1, .ref n1, .int 0, .long 0])), (d1, .inr (2, [.ref df0, .ref df1, .ref df2, .ref df3, .ref df4, .int 0, .int 0, .int 0]))]) hD hS hA [0, 1] rfl
  refine vx_callq (vx_runV (As := [.int p0]) (rest := []) ⟨hx, hb, hml, hown, hts⟩ (k_X11_goalAt l hfl G h0 p0 t1 f1 s1 d1 y1 g1 m1 n1 df0 df1 df2 df3 df4 H.size) (cwV 1 hts (gV wm966 wm968 ws_p12 wm1 wm969) rfl rfl rfl (by decide +kernel) ⟨Nat.le_of_ble_eq_true rfl, Nat.le_of_ble_eq_true rfl⟩) (pre_v (pre_s hK hP hD hS hE [0, 1] rfl rfl (by decide) hFc) (va_recv hK hP (ci := 10) (q0 := 0) rfl rfl)) rfl rfl hl.1 rfl (lv_room (Nat.le_of_ble_eq_true rfl)) dX11_contextSize_2 ⟨Nat.le_of_ble_eq_true rfl, Nat.le_of_ble_eq_true rfl⟩) hS (fun q _ h => hFc q h) hFc (fun q _ h => hFc q h) (fun E ce q9 u t H locs ht hvm hpx hBX hz1 hk1 hS hce hv9 hcl => ?_) (fun ro u t H locs ht hvm hw hB hz1 hk1 hS => ?_)
  · have hBX : E = "java/util/NoSuchElementException" := hBX
    subst hBX
    exact vx_out (fun x hx => (hout0 x hx).elim) hlocks hce hv9 hcl (fun t2 ht2 _ => ⟨(), trivial, rfl, hS.F ht2⟩) hS.2.2 (Nat.le_of_ble_eq_true rfl) (Nat.le_of_ble_eq_true rfl)
  · exact hw.elim
set_option maxHeartbeats 4000000 in
set_option maxRecDepth 100000 in
theorem k_X11_goalType (l : Launch) (hfl : l.stackTraces = false) (G : GC) (h0 : Nat) (p0 : Int32) (t1 : Nat) (f1 : Nat) (s1 : Nat) (d1 : Nat) (y1 : Nat) (g1 : Nat) (m1 : Nat) (n1 : Nat) (df0 : Nat) (df1 : Nat) (df2 : Nat) (df3 : Nat) (df4 : Nat) (sz : Nat) : vx_Met l yX11_goalType (Cond.code yX11_goalType cX11_goalType 2 (some .int) :: W0) ({ frames := 7, cells := 1, slots := 6, locals := 104 }) (va_Pc [.ref h0, .int p0] (WD G [(h0, .inr (10, [.ref t1, .ref f1, .ref s1, .ref d1, .ref y1, .ref g1, .ref m1, .ref n1, .int 0, .long 0])), (d1, .inr (2, [.ref df0, .ref df1, .ref df2, .ref df3, .ref df4, .int 0, .int 0, .int 0]))] sz)) (va_Qi (S := Unit) (fun _ _ => False) (fun _ _ => True) (va_A [(h0, .inr (10, [.ref t1, .ref f1, .ref s1, .ref d1, .ref y1, .ref g1, .ref m1, .ref n1, .int 0, .long 0])), (d1, .inr (2, [.ref df0, .ref df1, .ref df2, .ref df3, .ref df4, .int 0, .int 0, .int 0]))] sz)) (vx_X (fun _ : Unit => True) (fun (E : String) (_ : Unit) (_ : State) => E = "java/util/NoSuchElementException") (va_A [(h0, .inr (10, [.ref t1, .ref f1, .ref s1, .ref d1, .ref y1, .ref g1, .ref m1, .ref n1, .int 0, .long 0])), (d1, .inr (2, [.ref df0, .ref df1, .ref df2, .ref df3, .ref df4, .int 0, .int 0, .int 0]))] sz)) 1 6 (va_A [(h0, .inr (10, [.ref t1, .ref f1, .ref s1, .ref d1, .ref y1, .ref g1, .ref m1, .ref n1, .int 0, .long 0])), (d1, .inr (2, [.ref df0, .ref df1, .ref df2, .ref df3, .ref df4, .int 0, .int 0, .int 0]))] sz) := by
  refine vx_ofW (cc := cX11_goalType) (maxL := 2) (ret := (some .int)) (by decide) rfl ?_
  intro p e s m args below meth c s₁ B hml hout0 hv
  obtain ⟨rfl, hsz, hP, hK, hD0, hE⟩ := hv
  have hx := B.exec
  have hb := B.bytes
  have hr := B.returns
  have hts := w0_tail B.pre
  have hown : s.vm.findClass RX11 = some m.cls := findClass_of_methodNamed B.named
  have hlocks := B.notSynchronized
  subst hsz
  have hD := hD0.self (sz := s.heap.size)
  generalize hAe : va_A [(h0, .inr (10, [.ref t1, .ref f1, .ref s1, .ref d1, .ref y1, .ref g1, .ref m1, .ref n1, .int 0, .long 0])), (d1, .inr (2, [.ref df0, .ref df1, .ref df2, .ref df3, .ref df4, .int 0, .int 0, .int 0]))] s.heap.size = A at hD hE ⊢
  have hA : ∀ q : Nat, s.heap.size ≤ q → A q := fun q h => by rw [← hAe]; exact Or.inr h
  have hS : va_S A s.heap s.heap [] := va_S.rf
  obtain ⟨H, hHe⟩ : ∃ H : Heap, H = s.heap := ⟨_, rfl⟩
  have hP : va_P (DG G) clP1 [(h0, .inr (10, [.ref t1, .ref f1, .ref s1, .ref d1, .ref y1, .ref g1, .ref m1, .ref n1, .int 0, .long 0])), (d1, .inr (2, [.ref df0, .ref df1, .ref df2, .ref df3, .ref df4, .int 0, .int 0, .int 0]))] H := by rw [hHe]; exact hP
  have hS : va_S A s.heap H [] := by rw [hHe]; exact hS
  have hl := lv_entry ([.ref h0, .int p0]) (n := 2) (Nat.le_of_ble_eq_true rfl)
  rw [lg_entry_eq, ← hHe]
  generalize (lg_sl ([.ref h0, .int p0]) ++ List.replicate (2 - (lg_sl ([.ref h0, .int p0])).length) Slot.unset).toArray = ls at hl ⊢
  have hl : lv_has ls 2 [(0, .ref h0), (1, .int p0)] := hl
  refine lv_aload_n hx hb dX11_goalType_0 rfl (lv_at hl 0 rfl) ?_
  refine va_get (D := DG G) (ci := 10) (v := .ref t1) (C := RX11) (T := TX11) (N := 10) hx hb hts inW_X11 hown hK hP 0 rfl rfl 0 (by decide) (hts _ wm299) (fun _ h9 => h9) rfl dX11_goalType_1 ?_
  refine lv_aload_n hx hb dX11_goalType_4 rfl (lv_at hl 0 rfl) ?_
  refine lv_iload_n hx hb dX11_goalType_5 rfl (lv_at hl 1 rfl) ?_
  have hFc := va_free (wc := [(h0, .inr (10, [.ref t1, .ref f1, .ref s1, .ref d1, .ref y1, .ref g1, .ref m1, .ref n1, .int 0, .long 0])), (d1, .inr (2, [.ref df0, .ref df1, .ref df2, .ref df3, .ref df4, .int 0, .int 0, .int 0]))]) hD hS hA [0, 1] rfl
  refine vx_callq (vx_runV (As := [.int p0]) (rest := [.ref t1]) ⟨hx, hb, hml, hown, hts⟩ (k_X11_goalAt l hfl G h0 p0 t1 f1 s1 d1 y1 g1 m1 n1 df0 df1 df2 df3 df4 H.size) (cwV 1 hts (gV wm966 wm968 ws_p12 wm1 wm969) rfl rfl rfl (by decide +kernel) ⟨Nat.le_of_ble_eq_true rfl, Nat.le_of_ble_eq_true rfl⟩) (pre_v (pre_s hK hP hD hS hE [0, 1] rfl rfl (by decide) hFc) (va_recv hK hP (ci := 10) (q0 := 0) rfl rfl)) rfl rfl hl.1 rfl (lv_room (Nat.le_of_ble_eq_true rfl)) dX11_goalType_6 ⟨Nat.le_of_ble_eq_true rfl, Nat.le_of_ble_eq_true rfl⟩) hS (fun q _ h => hFc q h) hFc (fun q _ h => hFc q h) (fun E ce q9 u t H locs ht hvm hpx hBX hz1 hk1 hS hce hv9 hcl => ?_) (fun ro u t H locs ht hvm hw hB hz1 hk1 hS => ?_)
  · have hBX : E = "java/util/NoSuchElementException" := hBX
    subst hBX
    exact vx_out (fun x hx => (hout0 x hx).elim) hlocks hce hv9 hcl (fun t2 ht2 _ => ⟨(), trivial, rfl, hS.F ht2⟩) hS.2.2 (Nat.le_of_ble_eq_true rfl) (Nat.le_of_ble_eq_true rfl)
  · exact hw.elim
set_option maxHeartbeats 4000000 in
set_option maxRecDepth 100000 in
theorem k_X11_goalState (l : Launch) (hfl : l.stackTraces = false) (G : GC) (h0 : Nat) (p0 : Int32) (t1 : Nat) (f1 : Nat) (s1 : Nat) (d1 : Nat) (y1 : Nat) (g1 : Nat) (m1 : Nat) (n1 : Nat) (df0 : Nat) (df1 : Nat) (df2 : Nat) (df3 : Nat) (df4 : Nat) (sz : Nat) : vx_Met l yX11_goalState (Cond.code yX11_goalState cX11_goalState 2 (some .char) :: W0) ({ frames := 7, cells := 1, slots := 6, locals := 104 }) (va_Pc [.ref h0, .int p0] (WD G [(h0, .inr (10, [.ref t1, .ref f1, .ref s1, .ref d1, .ref y1, .ref g1, .ref m1, .ref n1, .int 0, .long 0])), (d1, .inr (2, [.ref df0, .ref df1, .ref df2, .ref df3, .ref df4, .int 0, .int 0, .int 0]))] sz)) (va_Qi (S := Unit) (fun _ _ => False) (fun _ _ => True) (va_A [(h0, .inr (10, [.ref t1, .ref f1, .ref s1, .ref d1, .ref y1, .ref g1, .ref m1, .ref n1, .int 0, .long 0])), (d1, .inr (2, [.ref df0, .ref df1, .ref df2, .ref df3, .ref df4, .int 0, .int 0, .int 0]))] sz)) (vx_X (fun _ : Unit => True) (fun (E : String) (_ : Unit) (_ : State) => E = "java/util/NoSuchElementException") (va_A [(h0, .inr (10, [.ref t1, .ref f1, .ref s1, .ref d1, .ref y1, .ref g1, .ref m1, .ref n1, .int 0, .long 0])), (d1, .inr (2, [.ref df0, .ref df1, .ref df2, .ref df3, .ref df4, .int 0, .int 0, .int 0]))] sz)) 1 6 (va_A [(h0, .inr (10, [.ref t1, .ref f1, .ref s1, .ref d1, .ref y1, .ref g1, .ref m1, .ref n1, .int 0, .long 0])), (d1, .inr (2, [.ref df0, .ref df1, .ref df2, .ref df3, .ref df4, .int 0, .int 0, .int 0]))] sz) := by
  refine vx_ofW (cc := cX11_goalState) (maxL := 2) (ret := (some .char)) (by decide) rfl ?_
  intro p e s m args below meth c s₁ B hml hout0 hv
  obtain ⟨rfl, hsz, hP, hK, hD0, hE⟩ := hv
  have hx := B.exec
  have hb := B.bytes
  have hr := B.returns
  have hts := w0_tail B.pre
  have hown : s.vm.findClass RX11 = some m.cls := findClass_of_methodNamed B.named
  have hlocks := B.notSynchronized
  subst hsz
  have hD := hD0.self (sz := s.heap.size)
  generalize hAe : va_A [(h0, .inr (10, [.ref t1, .ref f1, .ref s1, .ref d1, .ref y1, .ref g1, .ref m1, .ref n1, .int 0, .long 0])), (d1, .inr (2, [.ref df0, .ref df1, .ref df2, .ref df3, .ref df4, .int 0, .int 0, .int 0]))] s.heap.size = A at hD hE ⊢
  have hA : ∀ q : Nat, s.heap.size ≤ q → A q := fun q h => by rw [← hAe]; exact Or.inr h
  have hS : va_S A s.heap s.heap [] := va_S.rf
  obtain ⟨H, hHe⟩ : ∃ H : Heap, H = s.heap := ⟨_, rfl⟩
  have hP : va_P (DG G) clP1 [(h0, .inr (10, [.ref t1, .ref f1, .ref s1, .ref d1, .ref y1, .ref g1, .ref m1, .ref n1, .int 0, .long 0])), (d1, .inr (2, [.ref df0, .ref df1, .ref df2, .ref df3, .ref df4, .int 0, .int 0, .int 0]))] H := by rw [hHe]; exact hP
  have hS : va_S A s.heap H [] := by rw [hHe]; exact hS
  have hl := lv_entry ([.ref h0, .int p0]) (n := 2) (Nat.le_of_ble_eq_true rfl)
  rw [lg_entry_eq, ← hHe]
  generalize (lg_sl ([.ref h0, .int p0]) ++ List.replicate (2 - (lg_sl ([.ref h0, .int p0])).length) Slot.unset).toArray = ls at hl ⊢
  have hl : lv_has ls 2 [(0, .ref h0), (1, .int p0)] := hl
  refine lv_aload_n hx hb dX11_goalState_0 rfl (lv_at hl 0 rfl) ?_
  refine lv_iload_n hx hb dX11_goalState_1 rfl (lv_at hl 1 rfl) ?_
  have hFc := va_free (wc := [(h0, .inr (10, [.ref t1, .ref f1, .ref s1, .ref d1, .ref y1, .ref g1, .ref m1, .ref n1, .int 0, .long 0])), (d1, .inr (2, [.ref df0, .ref df1, .ref df2, .ref df3, .ref df4, .int 0, .int 0, .int 0]))]) hD hS hA [0, 1] rfl
  refine vx_callq (vx_runV (As := [.int p0]) (rest := []) ⟨hx, hb, hml, hown, hts⟩ (k_X11_goalAt l hfl G h0 p0 t1 f1 s1 d1 y1 g1 m1 n1 df0 df1 df2 df3 df4 H.size) (cwV 1 hts (gV wm966 wm968 ws_p12 wm1 wm969) rfl rfl rfl (by decide +kernel) ⟨Nat.le_of_ble_eq_true rfl, Nat.le_of_ble_eq_true rfl⟩) (pre_v (pre_s hK hP hD hS hE [0, 1] rfl rfl (by decide) hFc) (va_recv hK hP (ci := 10) (q0 := 0) rfl rfl)) rfl rfl hl.1 rfl (lv_room (Nat.le_of_ble_eq_true rfl)) dX11_goalState_2 ⟨Nat.le_of_ble_eq_true rfl, Nat.le_of_ble_eq_true rfl⟩) hS (fun q _ h => hFc q h) hFc (fun q _ h => hFc q h) (fun E ce q9 u t H locs ht hvm hpx hBX hz1 hk1 hS hce hv9 hcl => ?_) (fun ro u t H locs ht hvm hw hB hz1 hk1 hS => ?_)
  · have hBX : E = "java/util/NoSuchElementException" := hBX
    subst hBX
    exact vx_out (fun x hx => (hout0 x hx).elim) hlocks hce hv9 hcl (fun t2 ht2 _ => ⟨(), trivial, rfl, hS.F ht2⟩) hS.2.2 (Nat.le_of_ble_eq_true rfl) (Nat.le_of_ble_eq_true rfl)
  · exact hw.elim
set_option maxHeartbeats 4000000 in
set_option maxRecDepth 100000 in
theorem k_X11_contextType (l : Launch) (hfl : l.stackTraces = false) (G : GC) (h0 : Nat) (p0 : Int32) (p1 : Int32) (t1 : Nat) (f1 : Nat) (s1 : Nat) (d1 : Nat) (y1 : Nat) (g1 : Nat) (m1 : Nat) (n1 : Nat) (df0 : Nat) (df1 : Nat) (df2 : Nat) (df3 : Nat) (df4 : Nat) (sz : Nat) : vx_Met l yX11_contextType (Cond.code yX11_contextType cX11_contextType 4 (some .int) :: W0) ({ frames := 7, cells := 1, slots := 6, locals := 104 }) (va_Pc [.ref h0, .int p0, .int p1] (WD G [(h0, .inr (10, [.ref t1, .ref f1, .ref s1, .ref d1, .ref y1, .ref g1, .ref m1, .ref n1, .int 0, .long 0])), (d1, .inr (2, [.ref df0, .ref df1, .ref df2, .ref df3, .ref df4, .int 0, .int 0, .int 0]))] sz)) (va_Qi (S := Unit) (fun _ _ => False) (fun _ _ => True) (va_A [(h0, .inr (10, [.ref t1, .ref f1, .ref s1, .ref d1, .ref y1, .ref g1, .ref m1, .ref n1, .int 0, .long 0])), (d1, .inr (2, [.ref df0, .ref df1, .ref df2, .ref df3, .ref df4, .int 0, .int 0, .int 0]))] sz)) (vx_X (fun _ : Unit => True) (fun (E : String) (_ : Unit) (_ : State) => E = "java/util/NoSuchElementException") (va_A [(h0, .inr (10, [.ref t1, .ref f1, .ref s1, .ref d1, .ref y1, .ref g1, .ref m1, .ref n1, .int 0, .long 0])), (d1, .inr (2, [.ref df0, .ref df1, .ref df2, .ref df3, .ref df4, .int 0, .int 0, .int 0]))] sz)) 1 6 (va_A [(h0, .inr (10, [.ref t1, .ref f1, .ref s1, .ref d1, .ref y1, .ref g1, .ref m1, .ref n1, .int 0, .long 0])), (d1, .inr (2, [.ref df0, .ref df1, .ref df2, .ref df3, .ref df4, .int 0, .int 0, .int 0]))] sz) := by
  refine vx_ofW (cc := cX11_contextType) (maxL := 4) (ret := (some .int)) (by decide) rfl ?_
  intro p e s m args below meth c s₁ B hml hout0 hv
  obtain ⟨rfl, hsz, hP, hK, hD0, hE⟩ := hv
  have hx := B.exec
  have hb := B.bytes
  have hr := B.returns
  have hts := w0_tail B.pre
  have hown : s.vm.findClass RX11 = some m.cls := findClass_of_methodNamed B.named
  have hlocks := B.notSynchronized
  subst hsz
  have hD := hD0.self (sz := s.heap.size)
  generalize hAe : va_A [(h0, .inr (10, [.ref t1, .ref f1, .ref s1, .ref d1, .ref y1, .ref g1, .ref m1, .ref n1, .int 0, .long 0])), (d1, .inr (2, [.ref df0, .ref df1, .ref df2, .ref df3, .ref df4, .int 0, .int 0, .int 0]))] s.heap.size = A at hD hE ⊢
  have hA : ∀ q : Nat, s.heap.size ≤ q → A q := fun q h => by rw [← hAe]; exact Or.inr h
  have hS : va_S A s.heap s.heap [] := va_S.rf
  obtain ⟨H, hHe⟩ : ∃ H : Heap, H = s.heap := ⟨_, rfl⟩
  have hP : va_P (DG G) clP1 [(h0, .inr (10, [.ref t1, .ref f1, .ref s1, .ref d1, .ref y1, .ref g1, .ref m1, .ref n1, .int 0, .long 0])), (d1, .inr (2, [.ref df0, .ref df1, .ref df2, .ref df3, .ref df4, .int 0, .int 0, .int 0]))] H := by rw [hHe]; exact hP
  have hS : va_S A s.heap H [] := by rw [hHe]; exact hS
  have hl := lv_entry ([.ref h0, .int p0, .int p1]) (n := 4) (Nat.le_of_ble_eq_true rfl)
  rw [lg_entry_eq, ← hHe]
  generalize (lg_sl ([.ref h0, .int p0, .int p1]) ++ List.replicate (4 - (lg_sl ([.ref h0, .int p0, .int p1])).length) Slot.unset).toArray = ls at hl ⊢
  have hl : lv_has ls 4 [(0, .ref h0), (1, .int p0), (2, .int p1)] := hl
  refine lv_aload_n hx hb dX11_contextType_0 rfl (lv_at hl 0 rfl) ?_
  refine lv_iload_n hx hb dX11_contextType_1 rfl (lv_at hl 1 rfl) ?_
  have hFc := va_free (wc := [(h0, .inr (10, [.ref t1, .ref f1, .ref s1, .ref d1, .ref y1, .ref g1, .ref m1, .ref n1, .int 0, .long 0])), (d1, .inr (2, [.ref df0, .ref df1, .ref df2, .ref df3, .ref df4, .int 0, .int 0, .int 0]))]) hD hS hA [0, 1] rfl
  refine vx_callq (vx_runV (As := [.int p0]) (rest := []) ⟨hx, hb, hml, hown, hts⟩ (k_X11_goalAt l hfl G h0 p0 t1 f1 s1 d1 y1 g1 m1 n1 df0 df1 df2 df3 df4 H.size) (cwV 1 hts (gV wm966 wm968 ws_p12 wm1 wm969) rfl rfl rfl (by decide +kernel) ⟨Nat.le_of_ble_eq_true rfl, Nat.le_of_ble_eq_true rfl⟩) (pre_v (pre_s hK hP hD hS hE [0, 1] rfl rfl (by decide) hFc) (va_recv hK hP (ci := 10) (q0 := 0) rfl rfl)) rfl rfl hl.1 rfl (lv_room (Nat.le_of_ble_eq_true rfl)) dX11_contextType_2 ⟨Nat.le_of_ble_eq_true rfl, Nat.le_of_ble_eq_true rfl⟩) hS (fun q _ h => hFc q h) hFc (fun q _ h => hFc q h) (fun E ce q9 u t H locs ht hvm hpx hBX hz1 hk1 hS hce hv9 hcl => ?_) (fun ro u t H locs ht hvm hw hB hz1 hk1 hS => ?_)
  · have hBX : E = "java/util/NoSuchElementException" := hBX
    subst hBX
    exact vx_out (fun x hx => (hout0 x hx).elim) hlocks hce hv9 hcl (fun t2 ht2 _ => ⟨(), trivial, rfl, hS.F ht2⟩) hS.2.2 (Nat.le_of_ble_eq_true rfl) (Nat.le_of_ble_eq_true rfl)
  · exact hw.elim
set_option maxHeartbeats 4000000 in
set_option maxRecDepth 100000 in
theorem k_X11_openGoals (l : Launch) (hfl : l.stackTraces = false) (G : GC) (h0 : Nat) (p0 : Int32) (t1 : Nat) (f1 : Nat) (s1 : Nat) (d1 : Nat) (y1 : Nat) (g1 : Nat) (m1 : Nat) (n1 : Nat) (df0 : Nat) (df1 : Nat) (df2 : Nat) (df3 : Nat) (df4 : Nat) (sz : Nat) : vx_Met l yX11_openGoals (Cond.code yX11_openGoals cX11_openGoals 2 (some .int) :: W0) ({ frames := 7, cells := 1, slots := 6, locals := 104 }) (va_Pc [.ref h0, .int p0] (WD G [(h0, .inr (10, [.ref t1, .ref f1, .ref s1, .ref d1, .ref y1, .ref g1, .ref m1, .ref n1, .int 0, .long 0])), (d1, .inr (2, [.ref df0, .ref df1, .ref df2, .ref df3, .ref df4, .int 0, .int 0, .int 0]))] sz)) (va_Qi (S := Unit) (fun _ _ => False) (fun _ _ => True) (va_A [(h0, .inr (10, [.ref t1, .ref f1, .ref s1, .ref d1, .ref y1, .ref g1, .ref m1, .ref n1, .int 0, .long 0])), (d1, .inr (2, [.ref df0, .ref df1, .ref df2, .ref df3, .ref df4, .int 0, .int 0, .int 0]))] sz)) (vx_X (fun _ : Unit => True) (fun (E : String) (_ : Unit) (_ : State) => E = "java/util/NoSuchElementException") (va_A [(h0, .inr (10, [.ref t1, .ref f1, .ref s1, .ref d1, .ref y1, .ref g1, .ref m1, .ref n1, .int 0, .long 0])), (d1, .inr (2, [.ref df0, .ref df1, .ref df2, .ref df3, .ref df4, .int 0, .int 0, .int 0]))] sz)) 1 6 (va_A [(h0, .inr (10, [.ref t1, .ref f1, .ref s1, .ref d1, .ref y1, .ref g1, .ref m1, .ref n1, .int 0, .long 0])), (d1, .inr (2, [.ref df0, .ref df1, .ref df2, .ref df3, .ref df4, .int 0, .int 0, .int 0]))] sz) := by
  refine vx_ofW (cc := cX11_openGoals) (maxL := 2) (ret := (some .int)) (by decide) rfl ?_
  intro p e s m args below meth c s₁ B hml hout0 hv
  obtain ⟨rfl, hsz, hP, hK, hD0, hE⟩ := hv
  have hx := B.exec
  have hb := B.bytes
  have hr := B.returns
  have hts := w0_tail B.pre
  have hown : s.vm.findClass RX11 = some m.cls := findClass_of_methodNamed B.named
  have hlocks := B.notSynchronized
  subst hsz
  have hD := hD0.self (sz := s.heap.size)
  generalize hAe : va_A [(h0, .inr (10, [.ref t1, .ref f1, .ref s1, .ref d1, .ref y1, .ref g1, .ref m1, .ref n1, .int 0, .long 0])), (d1, .inr (2, [.ref df0, .ref df1, .ref df2, .ref df3, .ref df4, .int 0, .int 0, .int 0]))] s.heap.size = A at hD hE ⊢
  have hA : ∀ q : Nat, s.heap.size ≤ q → A q := fun q h => by rw [← hAe]; exact Or.inr h
  have hS : va_S A s.heap s.heap [] := va_S.rf
  obtain ⟨H, hHe⟩ : ∃ H : Heap, H = s.heap := ⟨_, rfl⟩
  have hP : va_P (DG G) clP1 [(h0, .inr (10, [.ref t1, .ref f1, .ref s1, .ref d1, .ref y1, .ref g1, .ref m1, .ref n1, .int 0, .long 0])), (d1, .inr (2, [.ref df0, .ref df1, .ref df2, .ref df3, .ref df4, .int 0, .int 0, .int 0]))] H := by rw [hHe]; exact hP
  have hS : va_S A s.heap H [] := by rw [hHe]; exact hS
  have hl := lv_entry ([.ref h0, .int p0]) (n := 2) (Nat.le_of_ble_eq_true rfl)
  rw [lg_entry_eq, ← hHe]
  generalize (lg_sl ([.ref h0, .int p0]) ++ List.replicate (2 - (lg_sl ([.ref h0, .int p0])).length) Slot.unset).toArray = ls at hl ⊢
  have hl : lv_has ls 2 [(0, .ref h0), (1, .int p0)] := hl
  refine lv_aload_n hx hb dX11_openGoals_0 rfl (lv_at hl 0 rfl) ?_
  refine lv_iload_n hx hb dX11_openGoals_1 rfl (lv_at hl 1 rfl) ?_
  have hFc := va_free (wc := [(h0, .inr (10, [.ref t1, .ref f1, .ref s1, .ref d1, .ref y1, .ref g1, .ref m1, .ref n1, .int 0, .long 0])), (d1, .inr (2, [.ref df0, .ref df1, .ref df2, .ref df3, .ref df4, .int 0, .int 0, .int 0]))]) hD hS hA [0, 1] rfl
  refine vx_callq (vx_runV (As := [.int p0]) (rest := []) ⟨hx, hb, hml, hown, hts⟩ (k_X11_functionAt l hfl G h0 p0 t1 f1 s1 d1 y1 g1 m1 n1 df0 df1 df2 df3 df4 H.size) (cwV 1 hts (gV wm748 wm750 ws_p10 wm1 wm751) rfl rfl rfl (by decide +kernel) ⟨Nat.le_of_ble_eq_true rfl, Nat.le_of_ble_eq_true rfl⟩) (pre_v (pre_s hK hP hD hS hE [0, 1] rfl rfl (by decide) hFc) (va_recv hK hP (ci := 10) (q0 := 0) rfl rfl)) rfl rfl hl.1 rfl (lv_room (Nat.le_of_ble_eq_true rfl)) dX11_openGoals_2 ⟨Nat.le_of_ble_eq_true rfl, Nat.le_of_ble_eq_true rfl⟩) hS (fun q _ h => hFc q h) hFc (fun q _ h => hFc q h) (fun E ce q9 u t H locs ht hvm hpx hBX hz1 hk1 hS hce hv9 hcl => ?_) (fun ro u t H locs ht hvm hw hB hz1 hk1 hS => ?_)
  · have hBX : E = "java/util/NoSuchElementException" := hBX
    subst hBX
    exact vx_out (fun x hx => (hout0 x hx).elim) hlocks hce hv9 hcl (fun t2 ht2 _ => ⟨(), trivial, rfl, hS.F ht2⟩) hS.2.2 (Nat.le_of_ble_eq_true rfl) (Nat.le_of_ble_eq_true rfl)
  · exact hw.elim
set_option maxHeartbeats 4000000 in
set_option maxRecDepth 100000 in
theorem k_X11_accept (l : Launch) (hfl : l.stackTraces = false) (G : GC) (h0 : Nat) (p0 : Int32) (t1 : Nat) (f1 : Nat) (s1 : Nat) (d1 : Nat) (y1 : Nat) (g1 : Nat) (m1 : Nat) (n1 : Nat) (df0 : Nat) (df1 : Nat) (df2 : Nat) (df3 : Nat) (df4 : Nat) (sz : Nat) : vx_Met l yX11_accept (Cond.code yX11_accept cX11_accept 4 (some .int) :: W0) ({ frames := 7, cells := 1, slots := 6, locals := 104 }) (va_Pc [.ref h0, .int p0] (WD G [(h0, .inr (10, [.ref t1, .ref f1, .ref s1, .ref d1, .ref y1, .ref g1, .ref m1, .ref n1, .int 0, .long 0])), (d1, .inr (2, [.ref df0, .ref df1, .ref df2, .ref df3, .ref df4, .int 0, .int 0, .int 0]))] sz)) (va_Qi (S := Unit) (fun _ _ => False) (fun _ _ => True) (va_A [(h0, .inr (10, [.ref t1, .ref f1, .ref s1, .ref d1, .ref y1, .ref g1, .ref m1, .ref n1, .int 0, .long 0])), (d1, .inr (2, [.ref df0, .ref df1, .ref df2, .ref df3, .ref df4, .int 0, .int 0, .int 0]))] sz)) (vx_X (fun _ : Unit => True) (fun (E : String) (_ : Unit) (_ : State) => E = "java/util/NoSuchElementException") (va_A [(h0, .inr (10, [.ref t1, .ref f1, .ref s1, .ref d1, .ref y1, .ref g1, .ref m1, .ref n1, .int 0, .long 0])), (d1, .inr (2, [.ref df0, .ref df1, .ref df2, .ref df3, .ref df4, .int 0, .int 0, .int 0]))] sz)) 1 6 (va_A [(h0, .inr (10, [.ref t1, .ref f1, .ref s1, .ref d1, .ref y1, .ref g1, .ref m1, .ref n1, .int 0, .long 0])), (d1, .inr (2, [.ref df0, .ref df1, .ref df2, .ref df3, .ref df4, .int 0, .int 0, .int 0]))] sz) := by
  refine vx_ofW (cc := cX11_accept) (maxL := 4) (ret := (some .int)) (by decide) rfl ?_
  intro p e s m args below meth c s₁ B hml hout0 hv
  obtain ⟨rfl, hsz, hP, hK, hD0, hE⟩ := hv
  have hx := B.exec
  have hb := B.bytes
  have hr := B.returns
  have hts := w0_tail B.pre
  have hown : s.vm.findClass RX11 = some m.cls := findClass_of_methodNamed B.named
  have hlocks := B.notSynchronized
  subst hsz
  have hD := hD0.self (sz := s.heap.size)
  generalize hAe : va_A [(h0, .inr (10, [.ref t1, .ref f1, .ref s1, .ref d1, .ref y1, .ref g1, .ref m1, .ref n1, .int 0, .long 0])), (d1, .inr (2, [.ref df0, .ref df1, .ref df2, .ref df3, .ref df4, .int 0, .int 0, .int 0]))] s.heap.size = A at hD hE ⊢
  have hA : ∀ q : Nat, s.heap.size ≤ q → A q := fun q h => by rw [← hAe]; exact Or.inr h
  have hS : va_S A s.heap s.heap [] := va_S.rf
  obtain ⟨H, hHe⟩ : ∃ H : Heap, H = s.heap := ⟨_, rfl⟩
  have hP : va_P (DG G) clP1 [(h0, .inr (10, [.ref t1, .ref f1, .ref s1, .ref d1, .ref y1, .ref g1, .ref m1, .ref n1, .int 0, .long 0])), (d1, .inr (2, [.ref df0, .ref df1, .ref df2, .ref df3, .ref df4, .int 0, .int 0, .int 0]))] H := by rw [hHe]; exact hP
  have hS : va_S A s.heap H [] := by rw [hHe]; exact hS
  have hl := lv_entry ([.ref h0, .int p0]) (n := 4) (Nat.le_of_ble_eq_true rfl)
  rw [lg_entry_eq, ← hHe]
  generalize (lg_sl ([.ref h0, .int p0]) ++ List.replicate (4 - (lg_sl ([.ref h0, .int p0])).length) Slot.unset).toArray = ls at hl ⊢
  have hl : lv_has ls 4 [(0, .ref h0), (1, .int p0)] := hl
  refine lv_aload_n hx hb dX11_accept_0 rfl (lv_at hl 0 rfl) ?_
  refine lv_iload_n hx hb dX11_accept_1 rfl (lv_at hl 1 rfl) ?_
  have hFc := va_free (wc := [(h0, .inr (10, [.ref t1, .ref f1, .ref s1, .ref d1, .ref y1, .ref g1, .ref m1, .ref n1, .int 0, .long 0])), (d1, .inr (2, [.ref df0, .ref df1, .ref df2, .ref df3, .ref df4, .int 0, .int 0, .int 0]))]) hD hS hA [0, 1] rfl
  refine vx_callq (vx_runV (As := [.int p0]) (rest := []) ⟨hx, hb, hml, hown, hts⟩ (k_X11_functionAt l hfl G h0 p0 t1 f1 s1 d1 y1 g1 m1 n1 df0 df1 df2 df3 df4 H.size) (cwV 1 hts (gV wm748 wm750 ws_p10 wm1 wm751) rfl rfl rfl (by decide +kernel) ⟨Nat.le_of_ble_eq_true rfl, Nat.le_of_ble_eq_true rfl⟩) (pre_v (pre_s hK hP hD hS hE [0, 1] rfl rfl (by decide) hFc) (va_recv hK hP (ci := 10) (q0 := 0) rfl rfl)) rfl rfl hl.1 rfl (lv_room (Nat.le_of_ble_eq_true rfl)) dX11_accept_2 ⟨Nat.le_of_ble_eq_true rfl, Nat.le_of_ble_eq_true rfl⟩) hS (fun q _ h => hFc q h) hFc (fun q _ h => hFc q h) (fun E ce q9 u t H locs ht hvm hpx hBX hz1 hk1 hS hce hv9 hcl => ?_) (fun ro u t H locs ht hvm hw hB hz1 hk1 hS => ?_)
  · have hBX : E = "java/util/NoSuchElementException" := hBX
    subst hBX
    exact vx_out (fun x hx => (hout0 x hx).elim) hlocks hce hv9 hcl (fun t2 ht2 _ => ⟨(), trivial, rfl, hS.F ht2⟩) hS.2.2 (Nat.le_of_ble_eq_true rfl) (Nat.le_of_ble_eq_true rfl)
  · exact hw.elim
set_option maxHeartbeats 4000000 in
set_option maxRecDepth 100000 in
theorem k_X11_isAccepted (l : Launch) (hfl : l.stackTraces = false) (G : GC) (h0 : Nat) (p0 : Int32) (t1 : Nat) (f1 : Nat) (s1 : Nat) (d1 : Nat) (y1 : Nat) (g1 : Nat) (m1 : Nat) (n1 : Nat) (df0 : Nat) (df1 : Nat) (df2 : Nat) (df3 : Nat) (df4 : Nat) (sz : Nat) : vx_Met l yX11_isAccepted (Cond.code yX11_isAccepted cX11_isAccepted 2 (some .boolean) :: W0) ({ frames := 7, cells := 1, slots := 6, locals := 104 }) (va_Pc [.ref h0, .int p0] (WD G [(h0, .inr (10, [.ref t1, .ref f1, .ref s1, .ref d1, .ref y1, .ref g1, .ref m1, .ref n1, .int 0, .long 0])), (d1, .inr (2, [.ref df0, .ref df1, .ref df2, .ref df3, .ref df4, .int 0, .int 0, .int 0]))] sz)) (va_Qi (S := Unit) (fun _ _ => False) (fun _ _ => True) (va_A [(h0, .inr (10, [.ref t1, .ref f1, .ref s1, .ref d1, .ref y1, .ref g1, .ref m1, .ref n1, .int 0, .long 0])), (d1, .inr (2, [.ref df0, .ref df1, .ref df2, .ref df3, .ref df4, .int 0, .int 0, .int 0]))] sz)) (vx_X (fun _ : Unit => True) (fun (E : String) (_ : Unit) (_ : State) => E = "java/util/NoSuchElementException") (va_A [(h0, .inr (10, [.ref t1, .ref f1, .ref s1, .ref d1, .ref y1, .ref g1, .ref m1, .ref n1, .int 0, .long 0])), (d1, .inr (2, [.ref df0, .ref df1, .ref df2, .ref df3, .ref df4, .int 0, .int 0, .int 0]))] sz)) 1 6 (va_A [(h0, .inr (10, [.ref t1, .ref f1, .ref s1, .ref d1, .ref y1, .ref g1, .ref m1, .ref n1, .int 0, .long 0])), (d1, .inr (2, [.ref df0, .ref df1, .ref df2, .ref df3, .ref df4, .int 0, .int 0, .int 0]))] sz) := by
  refine vx_ofW (cc := cX11_isAccepted) (maxL := 2) (ret := (some .boolean)) (by decide) rfl ?_
  intro p e s m args below meth c s₁ B hml hout0 hv
  obtain ⟨rfl, hsz, hP, hK, hD0, hE⟩ := hv
  have hx := B.exec
  have hb := B.bytes
  have hr := B.returns
  have hts := w0_tail B.pre
  have hown : s.vm.findClass RX11 = some m.cls := findClass_of_methodNamed B.named
  have hlocks := B.notSynchronized
  subst hsz
  have hD := hD0.self (sz := s.heap.size)
  generalize hAe : va_A [(h0, .inr (10, [.ref t1, .ref f1, .ref s1, .ref d1, .ref y1, .ref g1, .ref m1, .ref n1, .int 0, .long 0])), (d1, .inr (2, [.ref df0, .ref df1, .ref df2, .ref df3, .ref df4, .int 0, .int 0, .int 0]))] s.heap.size = A at hD hE ⊢
  have hA : ∀ q : Nat, s.heap.size ≤ q → A q := fun q h => by rw [← hAe]; exact Or.inr h
  have hS : va_S A s.heap s.heap [] := va_S.rf
  obtain ⟨H, hHe⟩ : ∃ H : Heap, H = s.heap := ⟨_, rfl⟩
  have hP : va_P (DG G) clP1 [(h0, .inr (10, [.ref t1, .ref f1, .ref s1, .ref d1, .ref y1, .ref g1, .ref m1, .ref n1, .int 0, .long 0])), (d1, .inr (2, [.ref df0, .ref df1, .ref df2, .ref df3, .ref df4, .int 0, .int 0, .int 0]))] H := by rw [hHe]; exact hP
  have hS : va_S A s.heap H [] := by rw [hHe]; exact hS
  have hl := lv_entry ([.ref h0, .int p0]) (n := 2) (Nat.le_of_ble_eq_true rfl)
  rw [lg_entry_eq, ← hHe]
  generalize (lg_sl ([.ref h0, .int p0]) ++ List.replicate (2 - (lg_sl ([.ref h0, .int p0])).length) Slot.unset).toArray = ls at hl ⊢
  have hl : lv_has ls 2 [(0, .ref h0), (1, .int p0)] := hl
  refine lv_aload_n hx hb dX11_isAccepted_0 rfl (lv_at hl 0 rfl) ?_
  refine lv_iload_n hx hb dX11_isAccepted_1 rfl (lv_at hl 1 rfl) ?_
  have hFc := va_free (wc := [(h0, .inr (10, [.ref t1, .ref f1, .ref s1, .ref d1, .ref y1, .ref g1, .ref m1, .ref n1, .int 0, .long 0])), (d1, .inr (2, [.ref df0, .ref df1, .ref df2, .ref df3, .ref df4, .int 0, .int 0, .int 0]))]) hD hS hA [0, 1] rfl
  refine vx_callq (vx_runV (As := [.int p0]) (rest := []) ⟨hx, hb, hml, hown, hts⟩ (k_X11_functionAt l hfl G h0 p0 t1 f1 s1 d1 y1 g1 m1 n1 df0 df1 df2 df3 df4 H.size) (cwV 1 hts (gV wm748 wm750 ws_p10 wm1 wm751) rfl rfl rfl (by decide +kernel) ⟨Nat.le_of_ble_eq_true rfl, Nat.le_of_ble_eq_true rfl⟩) (pre_v (pre_s hK hP hD hS hE [0, 1] rfl rfl (by decide) hFc) (va_recv hK hP (ci := 10) (q0 := 0) rfl rfl)) rfl rfl hl.1 rfl (lv_room (Nat.le_of_ble_eq_true rfl)) dX11_isAccepted_2 ⟨Nat.le_of_ble_eq_true rfl, Nat.le_of_ble_eq_true rfl⟩) hS (fun q _ h => hFc q h) hFc (fun q _ h => hFc q h) (fun E ce q9 u t H locs ht hvm hpx hBX hz1 hk1 hS hce hv9 hcl => ?_) (fun ro u t H locs ht hvm hw hB hz1 hk1 hS => ?_)
  · have hBX : E = "java/util/NoSuchElementException" := hBX
    subst hBX
    exact vx_out (fun x hx => (hout0 x hx).elim) hlocks hce hv9 hcl (fun t2 ht2 _ => ⟨(), trivial, rfl, hS.F ht2⟩) hS.2.2 (Nat.le_of_ble_eq_true rfl) (Nat.le_of_ble_eq_true rfl)
  · exact hw.elim
set_option maxHeartbeats 4000000 in
set_option maxRecDepth 100000 in
theorem k_X11_run (l : Launch) (hfl : l.stackTraces = false) (G : GC) (h0 : Nat) (p0 : Int32) (t1 : Nat) (f1 : Nat) (s1 : Nat) (d1 : Nat) (y1 : Nat) (g1 : Nat) (m1 : Nat) (n1 : Nat) (sz : Nat) : vx_Met l yX11_run (Cond.code yX11_run cX11_run 6 (some .int) :: W0) ({ frames := 7, cells := 1, slots := 6, locals := 103 }) (va_Pc [.ref h0, .int p0] (WD G [(h0, .inr (10, [.ref t1, .ref f1, .ref s1, .ref d1, .ref y1, .ref g1, .ref m1, .ref n1, .int 0, .long 0]))] sz)) (va_Qi (S := Unit) (fun _ _ => False) (fun _ _ => True) (va_A [(h0, .inr (10, [.ref t1, .ref f1, .ref s1, .ref d1, .ref y1, .ref g1, .ref m1, .ref n1, .int 0, .long 0]))] sz)) (vx_X (fun _ : Unit => True) (fun (E : String) (_ : Unit) (_ : State) => E = "java/lang/IndexOutOfBoundsException") (va_A [(h0, .inr (10, [.ref t1, .ref f1, .ref s1, .ref d1, .ref y1, .ref g1, .ref m1, .ref n1, .int 0, .long 0]))] sz)) 1 6 (va_A [(h0, .inr (10, [.ref t1, .ref f1, .ref s1, .ref d1, .ref y1, .ref g1, .ref m1, .ref n1, .int 0, .long 0]))] sz) := by
  refine vx_ofW (cc := cX11_run) (maxL := 6) (ret := (some .int)) (by decide) rfl ?_
  intro p e s m args below meth c s₁ B hml hout0 hv
  obtain ⟨rfl, hsz, hP, hK, hD0, hE⟩ := hv
  have hx := B.exec
  have hb := B.bytes
  have hr := B.returns
  have hts := w0_tail B.pre
  have hown : s.vm.findClass RX11 = some m.cls := findClass_of_methodNamed B.named
  have hlocks := B.notSynchronized
  subst hsz
  have hD := hD0.self (sz := s.heap.size)
  generalize hAe : va_A [(h0, .inr (10, [.ref t1, .ref f1, .ref s1, .ref d1, .ref y1, .ref g1, .ref m1, .ref n1, .int 0, .long 0]))] s.heap.size = A at hD hE ⊢
  have hA : ∀ q : Nat, s.heap.size ≤ q → A q := fun q h => by rw [← hAe]; exact Or.inr h
  have hS : va_S A s.heap s.heap [] := va_S.rf
  obtain ⟨H, hHe⟩ : ∃ H : Heap, H = s.heap := ⟨_, rfl⟩
  have hP : va_P (DG G) clP1 [(h0, .inr (10, [.ref t1, .ref f1, .ref s1, .ref d1, .ref y1, .ref g1, .ref m1, .ref n1, .int 0, .long 0]))] H := by rw [hHe]; exact hP
  have hS : va_S A s.heap H [] := by rw [hHe]; exact hS
  have hl := lv_entry ([.ref h0, .int p0]) (n := 6) (Nat.le_of_ble_eq_true rfl)
  rw [lg_entry_eq, ← hHe]
  generalize (lg_sl ([.ref h0, .int p0]) ++ List.replicate (6 - (lg_sl ([.ref h0, .int p0])).length) Slot.unset).toArray = ls at hl ⊢
  have hl : lv_has ls 6 [(0, .ref h0), (1, .int p0)] := hl
  refine lv_aload_n hx hb dX11_run_0 rfl (lv_at hl 0 rfl) ?_
  refine lv_iload_n hx hb dX11_run_1 rfl (lv_at hl 1 rfl) ?_
  have hFc := va_free (wc := [(h0, .inr (10, [.ref t1, .ref f1, .ref s1, .ref d1, .ref y1, .ref g1, .ref m1, .ref n1, .int 0, .long 0]))]) hD hS hA [0] rfl
  refine vx_calli (vx_runV (As := [.int p0]) (rest := []) ⟨hx, hb, hml, hown, hts⟩ (k_X11_termAt l hfl G h0 p0 t1 f1 s1 d1 y1 g1 m1 n1 H.size) (cwV 1 hts (gV wm670 wm672 ws_p9 wm1 wm673) rfl rfl rfl (by decide +kernel) ⟨Nat.le_of_ble_eq_true rfl, Nat.le_of_ble_eq_true rfl⟩) (pre_v (pre_s hK hP hD hS hE [0] rfl rfl (by decide) hFc) (va_recv hK hP (ci := 10) (q0 := 0) rfl rfl)) rfl rfl hl.1 rfl (lv_room (Nat.le_of_ble_eq_true rfl)) dX11_run_2 ⟨Nat.le_of_ble_eq_true rfl, Nat.le_of_ble_eq_true rfl⟩) hS (fun q _ h => hFc q h) hFc (fun q _ h => hFc q h) (fun E ce q9 u t H locs ht hvm hpx hBX hz1 hk1 hS hce hv9 hcl => ?_) (fun r u t H locs ht hvm hw hB hz1 hk1 hS => ?_)
  · have hBX : E = "java/lang/IndexOutOfBoundsException" := hBX
    subst hBX
    exact vx_out (fun x hx => (hout0 x hx).elim) hlocks hce hv9 hcl (fun t2 ht2 _ => ⟨(), trivial, rfl, hS.F ht2⟩) hS.2.2 (Nat.le_of_ble_eq_true rfl) (Nat.le_of_ble_eq_true rfl)
  · exact hw.elim
set_option maxHeartbeats 4000000 in
set_option maxRecDepth 100000 in
theorem k_X11_runByClauses (l : Launch) (hfl : l.stackTraces = false) (G : GC) (h0 : Nat) (p0 : Int32) (t1 : Nat) (f1 : Nat) (s1 : Nat) (d1 : Nat) (y1 : Nat) (g1 : Nat) (m1 : Nat) (n1 : Nat) (sz : Nat) : vx_Met l yX11_runByClauses (Cond.code yX11_runByClauses cX11_runByClauses 5 (some .int) :: W0) ({ frames := 7, cells := 1, slots := 6, locals := 103 }) (va_Pc [.ref h0, .int p0] (WD G [(h0, .inr (10, [.ref t1, .ref f1, .ref s1, .ref d1, .ref y1, .ref g1, .ref m1, .ref n1, .int 0, .long 0]))] sz)) (va_Qi (S := Unit) (fun _ _ => False) (fun _ _ => True) (va_A [(h0, .inr (10, [.ref t1, .ref f1, .ref s1, .ref d1, .ref y1, .ref g1, .ref m1, .ref n1, .int 0, .long 0]))] sz)) (vx_X (fun _ : Unit => True) (fun (E : String) (_ : Unit) (_ : State) => E = "java/lang/IndexOutOfBoundsException") (va_A [(h0, .inr (10, [.ref t1, .ref f1, .ref s1, .ref d1, .ref y1, .ref g1, .ref m1, .ref n1, .int 0, .long 0]))] sz)) 1 6 (va_A [(h0, .inr (10, [.ref t1, .ref f1, .ref s1, .ref d1, .ref y1, .ref g1, .ref m1, .ref n1, .int 0, .long 0]))] sz) := by
  refine vx_ofW (cc := cX11_runByClauses) (maxL := 5) (ret := (some .int)) (by decide) rfl ?_
  intro p e s m args below meth c s₁ B hml hout0 hv
  obtain ⟨rfl, hsz, hP, hK, hD0, hE⟩ := hv
  have hx := B.exec
  have hb := B.bytes
  have hr := B.returns
  have hts := w0_tail B.pre
  have hown : s.vm.findClass RX11 = some m.cls := findClass_of_methodNamed B.named
  have hlocks := B.notSynchronized
  subst hsz
  have hD := hD0.self (sz := s.heap.size)
  generalize hAe : va_A [(h0, .inr (10, [.ref t1, .ref f1, .ref s1, .ref d1, .ref y1, .ref g1, .ref m1, .ref n1, .int 0, .long 0]))] s.heap.size = A at hD hE ⊢
  have hA : ∀ q : Nat, s.heap.size ≤ q → A q := fun q h => by rw [← hAe]; exact Or.inr h
  have hS : va_S A s.heap s.heap [] := va_S.rf
  obtain ⟨H, hHe⟩ : ∃ H : Heap, H = s.heap := ⟨_, rfl⟩
  have hP : va_P (DG G) clP1 [(h0, .inr (10, [.ref t1, .ref f1, .ref s1, .ref d1, .ref y1, .ref g1, .ref m1, .ref n1, .int 0, .long 0]))] H := by rw [hHe]; exact hP
  have hS : va_S A s.heap H [] := by rw [hHe]; exact hS
  have hl := lv_entry ([.ref h0, .int p0]) (n := 5) (Nat.le_of_ble_eq_true rfl)
  rw [lg_entry_eq, ← hHe]
  generalize (lg_sl ([.ref h0, .int p0]) ++ List.replicate (5 - (lg_sl ([.ref h0, .int p0])).length) Slot.unset).toArray = ls at hl ⊢
  have hl : lv_has ls 5 [(0, .ref h0), (1, .int p0)] := hl
  refine lv_aload_n hx hb dX11_runByClauses_0 rfl (lv_at hl 0 rfl) ?_
  refine lv_iload_n hx hb dX11_runByClauses_1 rfl (lv_at hl 1 rfl) ?_
  have hFc := va_free (wc := [(h0, .inr (10, [.ref t1, .ref f1, .ref s1, .ref d1, .ref y1, .ref g1, .ref m1, .ref n1, .int 0, .long 0]))]) hD hS hA [0] rfl
  refine vx_calli (vx_runV (As := [.int p0]) (rest := []) ⟨hx, hb, hml, hown, hts⟩ (k_X11_termAt l hfl G h0 p0 t1 f1 s1 d1 y1 g1 m1 n1 H.size) (cwV 1 hts (gV wm670 wm672 ws_p9 wm1 wm673) rfl rfl rfl (by decide +kernel) ⟨Nat.le_of_ble_eq_true rfl, Nat.le_of_ble_eq_true rfl⟩) (pre_v (pre_s hK hP hD hS hE [0] rfl rfl (by decide) hFc) (va_recv hK hP (ci := 10) (q0 := 0) rfl rfl)) rfl rfl hl.1 rfl (lv_room (Nat.le_of_ble_eq_true rfl)) dX11_runByClauses_2 ⟨Nat.le_of_ble_eq_true rfl, Nat.le_of_ble_eq_true rfl⟩) hS (fun q _ h => hFc q h) hFc (fun q _ h => hFc q h) (fun E ce q9 u t H locs ht hvm hpx hBX hz1 hk1 hS hce hv9 hcl => ?_) (fun r u t H locs ht hvm hw hB hz1 hk1 hS => ?_)
  · have hBX : E = "java/lang/IndexOutOfBoundsException" := hBX
    subst hBX
    exact vx_out (fun x hx => (hout0 x hx).elim) hlocks hce hv9 hcl (fun t2 ht2 _ => ⟨(), trivial, rfl, hS.F ht2⟩) hS.2.2 (Nat.le_of_ble_eq_true rfl) (Nat.le_of_ble_eq_true rfl)
  · exact hw.elim
set_option maxHeartbeats 4000000 in
set_option maxRecDepth 100000 in
theorem k_X11_steps (l : Launch) (hfl : l.stackTraces = false) (G : GC) (h0 : Nat) (p0 : Int32) (t1 : Nat) (f1 : Nat) (s1 : Nat) (d1 : Nat) (y1 : Nat) (g1 : Nat) (m1 : Nat) (n1 : Nat) (sz : Nat) : vx_Met l yX11_steps (Cond.code yX11_steps cX11_steps 5 (some .int) :: W0) ({ frames := 7, cells := 1, slots := 6, locals := 103 }) (va_Pc [.ref h0, .int p0] (WD G [(h0, .inr (10, [.ref t1, .ref f1, .ref s1, .ref d1, .ref y1, .ref g1, .ref m1, .ref n1, .int 0, .long 0]))] sz)) (va_Qi (S := Unit) (fun _ _ => False) (fun _ _ => True) (va_A [(h0, .inr (10, [.ref t1, .ref f1, .ref s1, .ref d1, .ref y1, .ref g1, .ref m1, .ref n1, .int 0, .long 0]))] sz)) (vx_X (fun _ : Unit => True) (fun (E : String) (_ : Unit) (_ : State) => E = "java/lang/IndexOutOfBoundsException") (va_A [(h0, .inr (10, [.ref t1, .ref f1, .ref s1, .ref d1, .ref y1, .ref g1, .ref m1, .ref n1, .int 0, .long 0]))] sz)) 1 6 (va_A [(h0, .inr (10, [.ref t1, .ref f1, .ref s1, .ref d1, .ref y1, .ref g1, .ref m1, .ref n1, .int 0, .long 0]))] sz) := by
  refine vx_ofW (cc := cX11_steps) (maxL := 5) (ret := (some .int)) (by decide) rfl ?_
  intro p e s m args below meth c s₁ B hml hout0 hv
  obtain ⟨rfl, hsz, hP, hK, hD0, hE⟩ := hv
  have hx := B.exec
  have hb := B.bytes
  have hr := B.returns
  have hts := w0_tail B.pre
  have hown : s.vm.findClass RX11 = some m.cls := findClass_of_methodNamed B.named
  have hlocks := B.notSynchronized
  subst hsz
  have hD := hD0.self (sz := s.heap.size)
  generalize hAe : va_A [(h0, .inr (10, [.ref t1, .ref f1, .ref s1, .ref d1, .ref y1, .ref g1, .ref m1, .ref n1, .int 0, .long 0]))] s.heap.size = A at hD hE ⊢
  have hA : ∀ q : Nat, s.heap.size ≤ q → A q := fun q h => by rw [← hAe]; exact Or.inr h
  have hS : va_S A s.heap s.heap [] := va_S.rf
  obtain ⟨H, hHe⟩ : ∃ H : Heap, H = s.heap := ⟨_, rfl⟩
  have hP : va_P (DG G) clP1 [(h0, .inr (10, [.ref t1, .ref f1, .ref s1, .ref d1, .ref y1, .ref g1, .ref m1, .ref n1, .int 0, .long 0]))] H := by rw [hHe]; exact hP
  have hS : va_S A s.heap H [] := by rw [hHe]; exact hS
  have hl := lv_entry ([.ref h0, .int p0]) (n := 5) (Nat.le_of_ble_eq_true rfl)
  rw [lg_entry_eq, ← hHe]
  generalize (lg_sl ([.ref h0, .int p0]) ++ List.replicate (5 - (lg_sl ([.ref h0, .int p0])).length) Slot.unset).toArray = ls at hl ⊢
  have hl : lv_has ls 5 [(0, .ref h0), (1, .int p0)] := hl
  refine lv_aload_n hx hb dX11_steps_0 rfl (lv_at hl 0 rfl) ?_
  refine lv_iload_n hx hb dX11_steps_1 rfl (lv_at hl 1 rfl) ?_
  have hFc := va_free (wc := [(h0, .inr (10, [.ref t1, .ref f1, .ref s1, .ref d1, .ref y1, .ref g1, .ref m1, .ref n1, .int 0, .long 0]))]) hD hS hA [0] rfl
  refine vx_calli (vx_runV (As := [.int p0]) (rest := []) ⟨hx, hb, hml, hown, hts⟩ (k_X11_termAt l hfl G h0 p0 t1 f1 s1 d1 y1 g1 m1 n1 H.size) (cwV 1 hts (gV wm670 wm672 ws_p9 wm1 wm673) rfl rfl rfl (by decide +kernel) ⟨Nat.le_of_ble_eq_true rfl, Nat.le_of_ble_eq_true rfl⟩) (pre_v (pre_s hK hP hD hS hE [0] rfl rfl (by decide) hFc) (va_recv hK hP (ci := 10) (q0 := 0) rfl rfl)) rfl rfl hl.1 rfl (lv_room (Nat.le_of_ble_eq_true rfl)) dX11_steps_2 ⟨Nat.le_of_ble_eq_true rfl, Nat.le_of_ble_eq_true rfl⟩) hS (fun q _ h => hFc q h) hFc (fun q _ h => hFc q h) (fun E ce q9 u t H locs ht hvm hpx hBX hz1 hk1 hS hce hv9 hcl => ?_) (fun r u t H locs ht hvm hw hB hz1 hk1 hS => ?_)
  · have hBX : E = "java/lang/IndexOutOfBoundsException" := hBX
    subst hBX
    exact vx_out (fun x hx => (hout0 x hx).elim) hlocks hce hv9 hcl (fun t2 ht2 _ => ⟨(), trivial, rfl, hS.F ht2⟩) hS.2.2 (Nat.le_of_ble_eq_true rfl) (Nat.le_of_ble_eq_true rfl)
  · exact hw.elim
set_option maxHeartbeats 4000000 in
set_option maxRecDepth 100000 in
theorem k_X11_valueSize (l : Launch) (hfl : l.stackTraces = false) (G : GC) (h0 : Nat) (p0 : Int32) (t1 : Nat) (f1 : Nat) (s1 : Nat) (d1 : Nat) (y1 : Nat) (g1 : Nat) (m1 : Nat) (n1 : Nat) (sz : Nat) : vx_Met l yX11_valueSize (Cond.code yX11_valueSize cX11_valueSize 6 (some .int) :: W0) ({ frames := 7, cells := 1, slots := 6, locals := 103 }) (va_Pc [.ref h0, .int p0] (WD G [(h0, .inr (10, [.ref t1, .ref f1, .ref s1, .ref d1, .ref y1, .ref g1, .ref m1, .ref n1, .int 0, .long 0]))] sz)) (va_Qi (S := Unit) (fun _ _ => False) (fun _ _ => True) (va_A [(h0, .inr (10, [.ref t1, .ref f1, .ref s1, .ref d1, .ref y1, .ref g1, .ref m1, .ref n1, .int 0, .long 0]))] sz)) (vx_X (fun _ : Unit => True) (fun (E : String) (_ : Unit) (_ : State) => E = "java/lang/IndexOutOfBoundsException") (va_A [(h0, .inr (10, [.ref t1, .ref f1, .ref s1, .ref d1, .ref y1, .ref g1, .ref m1, .ref n1, .int 0, .long 0]))] sz)) 1 6 (va_A [(h0, .inr (10, [.ref t1, .ref f1, .ref s1, .ref d1, .ref y1, .ref g1, .ref m1, .ref n1, .int 0, .long 0]))] sz) := by
  refine vx_ofW (cc := cX11_valueSize) (maxL := 6) (ret := (some .int)) (by decide) rfl ?_
  intro p e s m args below meth c s₁ B hml hout0 hv
  obtain ⟨rfl, hsz, hP, hK, hD0, hE⟩ := hv
  have hx := B.exec
  have hb := B.bytes
  have hr := B.returns
  have hts := w0_tail B.pre
  have hown : s.vm.findClass RX11 = some m.cls := findClass_of_methodNamed B.named
  have hlocks := B.notSynchronized
  subst hsz
  have hD := hD0.self (sz := s.heap.size)
  generalize hAe : va_A [(h0, .inr (10, [.ref t1, .ref f1, .ref s1, .ref d1, .ref y1, .ref g1, .ref m1, .ref n1, .int 0, .long 0]))] s.heap.size = A at hD hE ⊢
  have hA : ∀ q : Nat, s.heap.size ≤ q → A q := fun q h => by rw [← hAe]; exact Or.inr h
  have hS : va_S A s.heap s.heap [] := va_S.rf
  obtain ⟨H, hHe⟩ : ∃ H : Heap, H = s.heap := ⟨_, rfl⟩
  have hP : va_P (DG G) clP1 [(h0, .inr (10, [.ref t1, .ref f1, .ref s1, .ref d1, .ref y1, .ref g1, .ref m1, .ref n1, .int 0, .long 0]))] H := by rw [hHe]; exact hP
  have hS : va_S A s.heap H [] := by rw [hHe]; exact hS
  have hl := lv_entry ([.ref h0, .int p0]) (n := 6) (Nat.le_of_ble_eq_true rfl)
  rw [lg_entry_eq, ← hHe]
  generalize (lg_sl ([.ref h0, .int p0]) ++ List.replicate (6 - (lg_sl ([.ref h0, .int p0])).length) Slot.unset).toArray = ls at hl ⊢
  have hl : lv_has ls 6 [(0, .ref h0), (1, .int p0)] := hl
  refine lv_aload_n hx hb dX11_valueSize_0 rfl (lv_at hl 0 rfl) ?_
  refine lv_iload_n hx hb dX11_valueSize_1 rfl (lv_at hl 1 rfl) ?_
  have hFc := va_free (wc := [(h0, .inr (10, [.ref t1, .ref f1, .ref s1, .ref d1, .ref y1, .ref g1, .ref m1, .ref n1, .int 0, .long 0]))]) hD hS hA [0] rfl
  refine vx_calli (vx_runV (As := [.int p0]) (rest := []) ⟨hx, hb, hml, hown, hts⟩ (k_X11_termAt l hfl G h0 p0 t1 f1 s1 d1 y1 g1 m1 n1 H.size) (cwV 1 hts (gV wm670 wm672 ws_p9 wm1 wm673) rfl rfl rfl (by decide +kernel) ⟨Nat.le_of_ble_eq_true rfl, Nat.le_of_ble_eq_true rfl⟩) (pre_v (pre_s hK hP hD hS hE [0] rfl rfl (by decide) hFc) (va_recv hK hP (ci := 10) (q0 := 0) rfl rfl)) rfl rfl hl.1 rfl (lv_room (Nat.le_of_ble_eq_true rfl)) dX11_valueSize_2 ⟨Nat.le_of_ble_eq_true rfl, Nat.le_of_ble_eq_true rfl⟩) hS (fun q _ h => hFc q h) hFc (fun q _ h => hFc q h) (fun E ce q9 u t H locs ht hvm hpx hBX hz1 hk1 hS hce hv9 hcl => ?_) (fun r u t H locs ht hvm hw hB hz1 hk1 hS => ?_)
  · have hBX : E = "java/lang/IndexOutOfBoundsException" := hBX
    subst hBX
    exact vx_out (fun x hx => (hout0 x hx).elim) hlocks hce hv9 hcl (fun t2 ht2 _ => ⟨(), trivial, rfl, hS.F ht2⟩) hS.2.2 (Nat.le_of_ble_eq_true rfl) (Nat.le_of_ble_eq_true rfl)
  · exact hw.elim
set_option maxHeartbeats 4000000 in
set_option maxRecDepth 100000 in
theorem k_X11_allSteps (l : Launch) (hfl : l.stackTraces = false) (G : GC) (h0 : Nat) (t1 : Nat) (f1 : Nat) (s1 : Nat) (d1 : Nat) (y1 : Nat) (g1 : Nat) (m1 : Nat) (n1 : Nat) (sz : Nat) : Met l yX11_allSteps (Cond.code yX11_allSteps cX11_allSteps 1 (some .long) :: W0) ({ frames := 0, cells := 0, slots := 0, locals := 0 }) (va_Pc [.ref h0] (WD G [(h0, .inr (10, [.ref t1, .ref f1, .ref s1, .ref d1, .ref y1, .ref g1, .ref m1, .ref n1, .int 0, .long 0]))] sz)) (va_Ql (fun (r : Int64) (_ : Unit) => r = 0) (fun _ t => PW G (va_A [(h0, .inr (10, [.ref t1, .ref f1, .ref s1, .ref d1, .ref y1, .ref g1, .ref m1, .ref n1, .int 0, .long 0]))] sz) [] t) (va_A [(h0, .inr (10, [.ref t1, .ref f1, .ref s1, .ref d1, .ref y1, .ref g1, .ref m1, .ref n1, .int 0, .long 0]))] sz)) 0 0 (va_A [(h0, .inr (10, [.ref t1, .ref f1, .ref s1, .ref d1, .ref y1, .ref g1, .ref m1, .ref n1, .int 0, .long 0]))] sz) := by
  refine Met.ofW (cc := cX11_allSteps) (maxL := 1) (ret := (some .long)) (by decide) rfl ?_
  intro p e s m args below meth c s₁ B hml hv
  obtain ⟨rfl, hsz, hP, hK, hD0, hE⟩ := hv
  have hx := B.exec
  have hb := B.bytes
  have hr := B.returns
  have hts := w0_tail B.pre
  have hown : s.vm.findClass RX11 = some m.cls := findClass_of_methodNamed B.named
  have hlocks := B.notSynchronized
  subst hsz
  have hD := hD0.self (sz := s.heap.size)
  generalize hAe : va_A [(h0, .inr (10, [.ref t1, .ref f1, .ref s1, .ref d1, .ref y1, .ref g1, .ref m1, .ref n1, .int 0, .long 0]))] s.heap.size = A at hD hE ⊢
  have hA : ∀ q : Nat, s.heap.size ≤ q → A q := fun q h => by rw [← hAe]; exact Or.inr h
  have hS : va_S A s.heap s.heap [] := va_S.rf
  obtain ⟨H, hHe⟩ : ∃ H : Heap, H = s.heap := ⟨_, rfl⟩
  have hP : va_P (DG G) clP1 [(h0, .inr (10, [.ref t1, .ref f1, .ref s1, .ref d1, .ref y1, .ref g1, .ref m1, .ref n1, .int 0, .long 0]))] H := by rw [hHe]; exact hP
  have hS : va_S A s.heap H [] := by rw [hHe]; exact hS
  have hl := lv_entry ([.ref h0]) (n := 1) (Nat.le_of_ble_eq_true rfl)
  rw [lg_entry_eq, ← hHe]
  generalize (lg_sl ([.ref h0]) ++ List.replicate (1 - (lg_sl ([.ref h0])).length) Slot.unset).toArray = ls at hl ⊢
  have hl : lv_has ls 1 [(0, .ref h0)] := hl
  refine lv_aload_n hx hb dX11_allSteps_0 rfl (lv_at hl 0 rfl) ?_
  refine va_get (D := DG G) (ci := 10) (v := .long 0) (C := RX11) (T := TX11) (N := 10) hx hb hts inW_X11 hown hK hP 0 rfl rfl 9 (by decide) (hts _ wm308) (fun _ h9 => h9) rfl dX11_allSteps_1 ?_
  have hP9 := hP.sub (ws' := []) [] rfl
  have hD9 := hD.sub (ws' := []) [] (by decide) rfl
  refine W.widen (k := 0) (n := 0) (Nat.le_of_ble_eq_true rfl) (Nat.le_of_ble_eq_true rfl) ?_
  exact W.lret (v := 0) hx hb hr (fun t ht hW => ⟨⟨0, (), rfl, rfl, ⟨by rw [ht]; exact hP9, hD9⟩⟩, hS.F ht⟩) hS.2.2 dX11_allSteps_4 hlocks
