set_option maxHeartbeats 4000000 in
set_option maxRecDepth 100000 in
theorem k_L_universe (l : Launch) (hfl : l.stackTraces = false) (G : GC) (h0 : Nat) (p0 : Int32) (o1 : Nat) (t1 : Nat) (f1 : Nat) (s1 : Nat) (d1 : Nat) (y1 : Nat) (g1 : Nat) (m1 : Nat) (n1 : Nat) (ta0 : Nat) (ta1 : Nat) (ta2 : Nat) (ta3 : Nat) (ta4 : Nat) (ta5 : Nat) (ta6 : Nat) (ta7 : Nat) (ta8 : Nat) (tf0 : Nat → Int32) (tf1 : Nat → Int32) (tf2 : Nat → Int32) (tf3 : Nat → Int32) (tf4 : Nat → Int32) (tf5 : Nat → Int32) (tf6 : Nat → Int32) (tf7 : Nat → Int32) (nf : Nat → Int32) (sz : Nat) : vx_Met l yL_universe (Cond.codeWith yL_universe cL_universe 4 (some .int) [(0, 9, 12, 13), (0, 9, 15, 15)] :: W0) ({ frames := 7, cells := 1, slots := 6, locals := 103 }) (va_Pc [.ref h0, .int p0, .ref o1] (WD G [(h0, .inr (10, [.ref t1, .ref f1, .ref s1, .ref d1, .ref y1, .ref g1, .ref m1, .ref n1, .int 0, .long 0])), (t1, .inr (8, [.ref ta0, .ref ta1, .ref ta2, .ref ta3, .ref ta4, .ref ta5, .ref ta6, .ref ta7, .ref ta8, .int 0])), (ta0, .inl (cyA G 0, 32768, .inl (tf0))), (ta1, .inl (cyA G 0, 32768, .inl (tf1))), (ta2, .inl (cyA G 0, 32768, .inl (tf2))), (ta3, .inl (cyA G 0, 32768, .inl (tf3))), (ta4, .inl (cyA G 0, 32768, .inl (tf4))), (ta5, .inl (cyA G 0, 32768, .inl (tf5))), (ta6, .inl (cyA G 0, 32768, .inl (tf6))), (ta7, .inl (cyA G 1, 32768, .inl (tf7))), (n1, .inl (cyA G 0, 250, .inl (nf))), (o1, .inl (cyA G 2, 1, .inr (.inl (fun _ => 0))))] sz)) (va_Qi (fun (r : Int32) (u : Nat) => (u = 0 ∧ r = 1 ∧ (p0.toInt ≤ (-1) ∨ 4 ≤ p0.toInt)) ∨ (u = 1 ∧ r = 0 ∧ ((0 ≤ p0.toInt ∧ p0.toInt ≤ 3)))) (fun (u : Nat) t => (u = 0 → PW G (va_A [(h0, .inr (10, [.ref t1, .ref f1, .ref s1, .ref d1, .ref y1, .ref g1, .ref m1, .ref n1, .int 0, .long 0])), (t1, .inr (8, [.ref ta0, .ref ta1, .ref ta2, .ref ta3, .ref ta4, .ref ta5, .ref ta6, .ref ta7, .ref ta8, .int 0])), (ta0, .inl (cyA G 0, 32768, .inl (tf0))), (ta1, .inl (cyA G 0, 32768, .inl (tf1))), (ta2, .inl (cyA G 0, 32768, .inl (tf2))), (ta3, .inl (cyA G 0, 32768, .inl (tf3))), (ta4, .inl (cyA G 0, 32768, .inl (tf4))), (ta5, .inl (cyA G 0, 32768, .inl (tf5))), (ta6, .inl (cyA G 0, 32768, .inl (tf6))), (ta7, .inl (cyA G 1, 32768, .inl (tf7))), (n1, .inl (cyA G 0, 250, .inl (nf))), (o1, .inl (cyA G 2, 1, .inr (.inl (fun _ => 0))))] sz) [(o1, .inl (cyA G 2, 1, .inr (.inl (fun _ => 0))))] t) ∧ (u = 1 → PW G (va_A [(h0, .inr (10, [.ref t1, .ref f1, .ref s1, .ref d1, .ref y1, .ref g1, .ref m1, .ref n1, .int 0, .long 0])), (t1, .inr (8, [.ref ta0, .ref ta1, .ref ta2, .ref ta3, .ref ta4, .ref ta5, .ref ta6, .ref ta7, .ref ta8, .int 0])), (ta0, .inl (cyA G 0, 32768, .inl (tf0))), (ta1, .inl (cyA G 0, 32768, .inl (tf1))), (ta2, .inl (cyA G 0, 32768, .inl (tf2))), (ta3, .inl (cyA G 0, 32768, .inl (tf3))), (ta4, .inl (cyA G 0, 32768, .inl (tf4))), (ta5, .inl (cyA G 0, 32768, .inl (tf5))), (ta6, .inl (cyA G 0, 32768, .inl (tf6))), (ta7, .inl (cyA G 1, 32768, .inl (tf7))), (n1, .inl (cyA G 0, 250, .inl (nf))), (o1, .inl (cyA G 2, 1, .inr (.inl (fun _ => 0))))] sz) [(o1, .inl (cyA G 2, 1, .inr (.inl (vp_updL (fun _ => 0) (Int32.toNatClampNeg 0) 0))))] t)) (va_A [(h0, .inr (10, [.ref t1, .ref f1, .ref s1, .ref d1, .ref y1, .ref g1, .ref m1, .ref n1, .int 0, .long 0])), (t1, .inr (8, [.ref ta0, .ref ta1, .ref ta2, .ref ta3, .ref ta4, .ref ta5, .ref ta6, .ref ta7, .ref ta8, .int 0])), (ta0, .inl (cyA G 0, 32768, .inl (tf0))), (ta1, .inl (cyA G 0, 32768, .inl (tf1))), (ta2, .inl (cyA G 0, 32768, .inl (tf2))), (ta3, .inl (cyA G 0, 32768, .inl (tf3))), (ta4, .inl (cyA G 0, 32768, .inl (tf4))), (ta5, .inl (cyA G 0, 32768, .inl (tf5))), (ta6, .inl (cyA G 0, 32768, .inl (tf6))), (ta7, .inl (cyA G 1, 32768, .inl (tf7))), (n1, .inl (cyA G 0, 250, .inl (nf))), (o1, .inl (cyA G 2, 1, .inr (.inl (fun _ => 0))))] sz)) (vx_X (fun _ : Unit => False) (fun (_ : String) (_ : Unit) (_ : State) => True) (va_A [(h0, .inr (10, [.ref t1, .ref f1, .ref s1, .ref d1, .ref y1, .ref g1, .ref m1, .ref n1, .int 0, .long 0])), (t1, .inr (8, [.ref ta0, .ref ta1, .ref ta2, .ref ta3, .ref ta4, .ref ta5, .ref ta6, .ref ta7, .ref ta8, .int 0])), (ta0, .inl (cyA G 0, 32768, .inl (tf0))), (ta1, .inl (cyA G 0, 32768, .inl (tf1))), (ta2, .inl (cyA G 0, 32768, .inl (tf2))), (ta3, .inl (cyA G 0, 32768, .inl (tf3))), (ta4, .inl (cyA G 0, 32768, .inl (tf4))), (ta5, .inl (cyA G 0, 32768, .inl (tf5))), (ta6, .inl (cyA G 0, 32768, .inl (tf6))), (ta7, .inl (cyA G 1, 32768, .inl (tf7))), (n1, .inl (cyA G 0, 250, .inl (nf))), (o1, .inl (cyA G 2, 1, .inr (.inl (fun _ => 0))))] sz)) 1 6 (va_A [(h0, .inr (10, [.ref t1, .ref f1, .ref s1, .ref d1, .ref y1, .ref g1, .ref m1, .ref n1, .int 0, .long 0])), (t1, .inr (8, [.ref ta0, .ref ta1, .ref ta2, .ref ta3, .ref ta4, .ref ta5, .ref ta6, .ref ta7, .ref ta8, .int 0])), (ta0, .inl (cyA G 0, 32768, .inl (tf0))), (ta1, .inl (cyA G 0, 32768, .inl (tf1))), (ta2, .inl (cyA G 0, 32768, .inl (tf2))), (ta3, .inl (cyA G 0, 32768, .inl (tf3))), (ta4, .inl (cyA G 0, 32768, .inl (tf4))), (ta5, .inl (cyA G 0, 32768, .inl (tf5))), (ta6, .inl (cyA G 0, 32768, .inl (tf6))), (ta7, .inl (cyA G 1, 32768, .inl (tf7))), (n1, .inl (cyA G 0, 250, .inl (nf))), (o1, .inl (cyA G 2, 1, .inr (.inl (fun _ => 0))))] sz) := by
  refine vx_ofWH (cc := cL_universe) (maxL := 4) (ret := (some .int)) (hh := [(0, 9, 12, 13), (0, 9, 15, 15)]) (by decide) rfl ?_
  intro p e s m args below meth c s₁ B hml hv
  obtain ⟨rfl, hsz, hP, hK, hD0, hE⟩ := hv
  have hx := B.exec
  have hb := B.bytes
  have hr := B.returns
  have hts := w0_tail B.pre
  have hown : s.vm.findClass RL = some m.cls := findClass_of_methodNamed B.named
  have hlocks := B.notSynchronized
  have htab := vx_table (x := yL_universe) B (hts _ wm527)
  subst hsz
  have hD := hD0.self (sz := s.heap.size)
  generalize hAe : va_A [(h0, .inr (10, [.ref t1, .ref f1, .ref s1, .ref d1, .ref y1, .ref g1, .ref m1, .ref n1, .int 0, .long 0])), (t1, .inr (8, [.ref ta0, .ref ta1, .ref ta2, .ref ta3, .ref ta4, .ref ta5, .ref ta6, .ref ta7, .ref ta8, .int 0])), (ta0, .inl (cyA G 0, 32768, .inl (tf0))), (ta1, .inl (cyA G 0, 32768, .inl (tf1))), (ta2, .inl (cyA G 0, 32768, .inl (tf2))), (ta3, .inl (cyA G 0, 32768, .inl (tf3))), (ta4, .inl (cyA G 0, 32768, .inl (tf4))), (ta5, .inl (cyA G 0, 32768, .inl (tf5))), (ta6, .inl (cyA G 0, 32768, .inl (tf6))), (ta7, .inl (cyA G 1, 32768, .inl (tf7))), (n1, .inl (cyA G 0, 250, .inl (nf))), (o1, .inl (cyA G 2, 1, .inr (.inl (fun _ => 0))))] s.heap.size = A at hD hE ⊢
  have hA : ∀ q : Nat, s.heap.size ≤ q → A q := fun q h => by rw [← hAe]; exact Or.inr h
  have hS : va_S A s.heap s.heap [] := va_S.rf
  obtain ⟨H, hHe⟩ : ∃ H : Heap, H = s.heap := ⟨_, rfl⟩
  have hP : va_P (DG G) clP1 [(h0, .inr (10, [.ref t1, .ref f1, .ref s1, .ref d1, .ref y1, .ref g1, .ref m1, .ref n1, .int 0, .long 0])), (t1, .inr (8, [.ref ta0, .ref ta1, .ref ta2, .ref ta3, .ref ta4, .ref ta5, .ref ta6, .ref ta7, .ref ta8, .int 0])), (ta0, .inl (cyA G 0, 32768, .inl (tf0))), (ta1, .inl (cyA G 0, 32768, .inl (tf1))), (ta2, .inl (cyA G 0, 32768, .inl (tf2))), (ta3, .inl (cyA G 0, 32768, .inl (tf3))), (ta4, .inl (cyA G 0, 32768, .inl (tf4))), (ta5, .inl (cyA G 0, 32768, .inl (tf5))), (ta6, .inl (cyA G 0, 32768, .inl (tf6))), (ta7, .inl (cyA G 1, 32768, .inl (tf7))), (n1, .inl (cyA G 0, 250, .inl (nf))), (o1, .inl (cyA G 2, 1, .inr (.inl (fun _ => 0))))] H := by rw [hHe]; exact hP
  have hS : va_S A s.heap H [] := by rw [hHe]; exact hS
  have hl := lv_entry ([.ref h0, .int p0, .ref o1]) (n := 4) (Nat.le_of_ble_eq_true rfl)
  rw [lg_entry_eq, ← hHe]
  generalize (lg_sl ([.ref h0, .int p0, .ref o1]) ++ List.replicate (4 - (lg_sl ([.ref h0, .int p0, .ref o1])).length) Slot.unset).toArray = ls at hl ⊢
  have hl : lv_has ls 4 [(0, .ref h0), (1, .int p0), (2, .ref o1)] := hl
  refine lv_aload_n hx hb dL_universe_0 rfl (lv_at hl 2 rfl) ?_
  refine lv_iconst (v := 0) hx hb dL_universe_1 (by decide) ?_
  refine lv_aload_n hx hb dL_universe_2 rfl (lv_at hl 0 rfl) ?_
  refine lv_iload_n hx hb dL_universe_3 rfl (lv_at hl 1 rfl) ?_
  have hFc := va_free (wc := [(h0, .inr (10, [.ref t1, .ref f1, .ref s1, .ref d1, .ref y1, .ref g1, .ref m1, .ref n1, .int 0, .long 0])), (t1, .inr (8, [.ref ta0, .ref ta1, .ref ta2, .ref ta3, .ref ta4, .ref ta5, .ref ta6, .ref ta7, .ref ta8, .int 0])), (ta0, .inl (cyA G 0, 32768, .inl (tf0))), (ta1, .inl (cyA G 0, 32768, .inl (tf1))), (ta2, .inl (cyA G 0, 32768, .inl (tf2))), (ta3, .inl (cyA G 0, 32768, .inl (tf3))), (ta4, .inl (cyA G 0, 32768, .inl (tf4))), (ta5, .inl (cyA G 0, 32768, .inl (tf5))), (ta6, .inl (cyA G 0, 32768, .inl (tf6))), (ta7, .inl (cyA G 1, 32768, .inl (tf7))), (n1, .inl (cyA G 0, 250, .inl (nf)))]) hD hS hA [0, 1, 2, 3, 4, 5, 6, 7, 8, 9, 10] rfl
  refine vx_calli (vx_runV (As := [.int p0]) (rest := [.int 0, .ref o1]) ⟨hx, hb, hml, hown, hts⟩ (k_X11_universe l hfl G h0 p0 t1 f1 s1 d1 y1 g1 m1 n1 ta0 ta1 ta2 ta3 ta4 ta5 ta6 ta7 ta8 tf0 tf1 tf2 tf3 tf4 tf5 tf6 tf7 nf H.size) (cwV 1 hts (gV wm530 wm531 wm532 wm1 wm533) rfl rfl rfl (by decide +kernel) ⟨Nat.le_of_ble_eq_true rfl, Nat.le_of_ble_eq_true rfl⟩) (pre_v (pre_s hK hP hD hS hE [0, 1, 2, 3, 4, 5, 6, 7, 8, 9, 10] rfl rfl (by decide) hFc) (va_recv hK hP (ci := 10) (q0 := 0) rfl rfl)) rfl rfl hl.1 rfl (lv_room (Nat.le_of_ble_eq_true rfl)) dL_universe_4 ⟨Nat.le_of_ble_eq_true rfl, Nat.le_of_ble_eq_true rfl⟩) hS (fun q _ h => hFc q h) hFc (fun q _ h => hFc q h) (fun E ce q9 u t H locs ht hvm hpx hBX hz1 hk1 hS hce hv9 hcl => ?_) (fun r u t H locs ht hvm hw hB hz1 hk1 hS => ?_)
  · obtain ⟨rfl, tx0⟩ := hBX
    obtain ⟨hP, hD⟩ := va_join (wr := [(o1, .inl (cyA G 2, 1, .inr (.inl (fun _ => 0))))]) (w1 := []) hP hD [0, 1, 2, 3, 4, 5, 6, 7, 8, 9, 10] [11] rfl rfl (by decide) (by decide) hk1 hFc nilP nilD
    refine vx_widen (k := 1) (n := 6) (Nat.le_of_ble_eq_true rfl) (Nat.le_of_ble_eq_true rfl) ?_
    refine vx_catch hown (tableOf []) ⟨0, 9, 12, 13⟩ (tableOf [(0, 9, 15, 15)]) (htab.trans rfl) xP0 (by decide) (by decide) (hts _ wm528) (va_Nw.use rfl (hE.1 _ nw536)) hce hv9 hcl ?_
    refine W.eq (g2 := F0 m 12 ls [.ref q9]) rfl ?_
    have hP : va_P (DG G) clP1 [(o1, .inl (cyA G 2, 1, .inr (.inl (fun _ => 0))))] H := hP
    have hD : va_D A [(o1, .inl (cyA G 2, 1, .inr (.inl (fun _ => 0))))] := hD
    refine lv_astore_n (lv' := [(3, .ref q9), (0, .ref h0), (1, .int p0), (2, .ref o1)]) hx hb dL_universe_12 rfl hl (by decide) rfl (fun ls hl => ?_)
    refine lv_iconst (v := 1) hx hb dL_universe_13 (by decide) ?_
    have hP9 := hP.sub (ws' := [(o1, .inl (cyA G 2, 1, .inr (.inl (fun _ => 0))))]) [0] rfl
    have hD9 := hD.sub (ws' := [(o1, .inl (cyA G 2, 1, .inr (.inl (fun _ => 0))))]) [0] (by decide) rfl
    refine W.widen (k := 1) (n := 6) (Nat.le_of_ble_eq_true rfl) (Nat.le_of_ble_eq_true rfl) ?_
    exact vx_ret (W.iret (v := 1) hx hb hr (fun t ht hW => ⟨⟨1, 0, rfl, (Or.inl ⟨rfl, rfl, by omega⟩), ⟨fun _ => ⟨by rw [ht]; exact hP9, hD9⟩, fun h => absurd h (by decide)⟩⟩, hS.F ht⟩) hS.2.2 dL_universe_14 hlocks)
  · rcases hw with ⟨rfl, rfl, t1_0⟩
    · obtain ⟨hP1, hD1⟩ := hB rfl
      rw [ht] at hP1
      obtain ⟨hP, hD⟩ := va_join (wr := [(o1, .inl (cyA G 2, 1, .inr (.inl (fun _ => 0))))]) (w1 := []) hP hD [0, 1, 2, 3, 4, 5, 6, 7, 8, 9, 10] [11] rfl rfl (by decide) (by decide) hk1 hFc hP1 hD1
      have hP : va_P (DG G) clP1 [(o1, .inl (cyA G 2, 1, .inr (.inl (fun _ => 0))))] H := hP
      have hD : va_D A [(o1, .inl (cyA G 2, 1, .inr (.inl (fun _ => 0))))] := hD
      refine W.widen (k := 1) (n := 6) (Nat.le_of_ble_eq_true rfl) (Nat.le_of_ble_eq_true rfl) ?_
      refine lv_i2l (v := 0) hx hb dL_universe_7 (by decide) ?_
      refine va_last hx hb hK hP hD hS 0 2 rfl rfl (show ¬ ((0 : Int32) < 0 ∨ 1 ≤ Int32.toNatClampNeg 0) from by decide) dL_universe_8 (fun H locs hP hD hS => ?_)
      have hP : va_P (DG G) clP1 [(o1, .inl (cyA G 2, 1, .inr (.inl (vp_updL (fun _ => 0) (Int32.toNatClampNeg 0) 0))))] H := hP
      have hD : va_D A [(o1, .inl (cyA G 2, 1, .inr (.inl (vp_updL (fun _ => 0) (Int32.toNatClampNeg 0) 0))))] := hD
      refine lv_goto (tgt := 18) hx hb dL_universe_9 (by decide) ?_
      refine lv_iconst (v := 0) hx hb dL_universe_18 (by decide) ?_
      have hP9 := hP.sub (ws' := [(o1, .inl (cyA G 2, 1, .inr (.inl (vp_updL (fun _ => 0) (Int32.toNatClampNeg 0) 0))))]) [0] rfl
      have hD9 := hD.sub (ws' := [(o1, .inl (cyA G 2, 1, .inr (.inl (vp_updL (fun _ => 0) (Int32.toNatClampNeg 0) 0))))]) [0] (by decide) rfl
      refine W.widen (k := 1) (n := 6) (Nat.le_of_ble_eq_true rfl) (Nat.le_of_ble_eq_true rfl) ?_
      exact vx_ret (W.iret (v := 0) hx hb hr (fun t ht hW => ⟨⟨0, 1, rfl, (Or.inr ⟨rfl, rfl, by omega⟩), ⟨fun h => absurd h (by decide), fun _ => ⟨by rw [ht]; exact hP9, hD9⟩⟩⟩, hS.F ht⟩) hS.2.2 dL_universe_19 hlocks)
set_option maxHeartbeats 4000000 in
set_option maxRecDepth 100000 in
theorem k_L_variable (l : Launch) (hfl : l.stackTraces = false) (G : GC) (h0 : Nat) (p0 : Int32) (o1 : Nat) (t1 : Nat) (f1 : Nat) (s1 : Nat) (d1 : Nat) (y1 : Nat) (g1 : Nat) (m1 : Nat) (n1 : Nat) (ta0 : Nat) (ta1 : Nat) (ta2 : Nat) (ta3 : Nat) (ta4 : Nat) (ta5 : Nat) (ta6 : Nat) (ta7 : Nat) (ta8 : Nat) (tf0 : Nat → Int32) (tf1 : Nat → Int32) (tf2 : Nat → Int32) (tf3 : Nat → Int32) (tf4 : Nat → Int32) (tf5 : Nat → Int32) (tf6 : Nat → Int32) (tf7 : Nat → Int32) (nf : Nat → Int32) (sz : Nat) : vx_Met l yL_variable (Cond.codeWith yL_variable cL_variable 4 (some .int) [(0, 9, 12, 13), (0, 9, 15, 15)] :: W0) ({ frames := 7, cells := 1, slots := 6, locals := 103 }) (va_Pc [.ref h0, .int p0, .ref o1] (WD G [(h0, .inr (10, [.ref t1, .ref f1, .ref s1, .ref d1, .ref y1, .ref g1, .ref m1, .ref n1, .int 0, .long 0])), (t1, .inr (8, [.ref ta0, .ref ta1, .ref ta2, .ref ta3, .ref ta4, .ref ta5, .ref ta6, .ref ta7, .ref ta8, .int 0])), (ta0, .inl (cyA G 0, 32768, .inl (tf0))), (ta1, .inl (cyA G 0, 32768, .inl (tf1))), (ta2, .inl (cyA G 0, 32768, .inl (tf2))), (ta3, .inl (cyA G 0, 32768, .inl (tf3))), (ta4, .inl (cyA G 0, 32768, .inl (tf4))), (ta5, .inl (cyA G 0, 32768, .inl (tf5))), (ta6, .inl (cyA G 0, 32768, .inl (tf6))), (ta7, .inl (cyA G 1, 32768, .inl (tf7))), (n1, .inl (cyA G 0, 250, .inl (nf))), (o1, .inl (cyA G 2, 1, .inr (.inl (fun _ => 0))))] sz)) (va_Qi (fun (r : Int32) (u : Nat) => (u = 0 ∧ r = 1 ∧ (p0.toInt ≤ (-1) ∨ 16 ≤ p0.toInt)) ∨ (u = 1 ∧ r = 0 ∧ ((0 ≤ p0.toInt ∧ p0.toInt ≤ 15)))) (fun (u : Nat) t => (u = 0 → PW G (va_A [(h0, .inr (10, [.ref t1, .ref f1, .ref s1, .ref d1, .ref y1, .ref g1, .ref m1, .ref n1, .int 0, .long 0])), (t1, .inr (8, [.ref ta0, .ref ta1, .ref ta2, .ref ta3, .ref ta4, .ref ta5, .ref ta6, .ref ta7, .ref ta8, .int 0])), (ta0, .inl (cyA G 0, 32768, .inl (tf0))), (ta1, .inl (cyA G 0, 32768, .inl (tf1))), (ta2, .inl (cyA G 0, 32768, .inl (tf2))), (ta3, .inl (cyA G 0, 32768, .inl (tf3))), (ta4, .inl (cyA G 0, 32768, .inl (tf4))), (ta5, .inl (cyA G 0, 32768, .inl (tf5))), (ta6, .inl (cyA G 0, 32768, .inl (tf6))), (ta7, .inl (cyA G 1, 32768, .inl (tf7))), (n1, .inl (cyA G 0, 250, .inl (nf))), (o1, .inl (cyA G 2, 1, .inr (.inl (fun _ => 0))))] sz) [(o1, .inl (cyA G 2, 1, .inr (.inl (fun _ => 0))))] t) ∧ (u = 1 → PW G (va_A [(h0, .inr (10, [.ref t1, .ref f1, .ref s1, .ref d1, .ref y1, .ref g1, .ref m1, .ref n1, .int 0, .long 0])), (t1, .inr (8, [.ref ta0, .ref ta1, .ref ta2, .ref ta3, .ref ta4, .ref ta5, .ref ta6, .ref ta7, .ref ta8, .int 0])), (ta0, .inl (cyA G 0, 32768, .inl (tf0))), (ta1, .inl (cyA G 0, 32768, .inl (tf1))), (ta2, .inl (cyA G 0, 32768, .inl (tf2))), (ta3, .inl (cyA G 0, 32768, .inl (tf3))), (ta4, .inl (cyA G 0, 32768, .inl (tf4))), (ta5, .inl (cyA G 0, 32768, .inl (tf5))), (ta6, .inl (cyA G 0, 32768, .inl (tf6))), (ta7, .inl (cyA G 1, 32768, .inl (tf7))), (n1, .inl (cyA G 0, 250, .inl (nf))), (o1, .inl (cyA G 2, 1, .inr (.inl (fun _ => 0))))] sz) [(o1, .inl (cyA G 2, 1, .inr (.inl (vp_updL (fun _ => 0) (Int32.toNatClampNeg 0) 0))))] t)) (va_A [(h0, .inr (10, [.ref t1, .ref f1, .ref s1, .ref d1, .ref y1, .ref g1, .ref m1, .ref n1, .int 0, .long 0])), (t1, .inr (8, [.ref ta0, .ref ta1, .ref ta2, .ref ta3, .ref ta4, .ref ta5, .ref ta6, .ref ta7, .ref ta8, .int 0])), (ta0, .inl (cyA G 0, 32768, .inl (tf0))), (ta1, .inl (cyA G 0, 32768, .inl (tf1))), (ta2, .inl (cyA G 0, 32768, .inl (tf2))), (ta3, .inl (cyA G 0, 32768, .inl (tf3))), (ta4, .inl (cyA G 0, 32768, .inl (tf4))), (ta5, .inl (cyA G 0, 32768, .inl (tf5))), (ta6, .inl (cyA G 0, 32768, .inl (tf6))), (ta7, .inl (cyA G 1, 32768, .inl (tf7))), (n1, .inl (cyA G 0, 250, .inl (nf))), (o1, .inl (cyA G 2, 1, .inr (.inl (fun _ => 0))))] sz)) (vx_X (fun _ : Unit => False) (fun (_ : String) (_ : Unit) (_ : State) => True) (va_A [(h0, .inr (10, [.ref t1, .ref f1, .ref s1, .ref d1, .ref y1, .ref g1, .ref m1, .ref n1, .int 0, .long 0])), (t1, .inr (8, [.ref ta0, .ref ta1, .ref ta2, .ref ta3, .ref ta4, .ref ta5, .ref ta6, .ref ta7, .ref ta8, .int 0])), (ta0, .inl (cyA G 0, 32768, .inl (tf0))), (ta1, .inl (cyA G 0, 32768, .inl (tf1))), (ta2, .inl (cyA G 0, 32768, .inl (tf2))), (ta3, .inl (cyA G 0, 32768, .inl (tf3))), (ta4, .inl (cyA G 0, 32768, .inl (tf4))), (ta5, .inl (cyA G 0, 32768, .inl (tf5))), (ta6, .inl (cyA G 0, 32768, .inl (tf6))), (ta7, .inl (cyA G 1, 32768, .inl (tf7))), (n1, .inl (cyA G 0, 250, .inl (nf))), (o1, .inl (cyA G 2, 1, .inr (.inl (fun _ => 0))))] sz)) 1 6 (va_A [(h0, .inr (10, [.ref t1, .ref f1, .ref s1, .ref d1, .ref y1, .ref g1, .ref m1, .ref n1, .int 0, .long 0])), (t1, .inr (8, [.ref ta0, .ref ta1, .ref ta2, .ref ta3, .ref ta4, .ref ta5, .ref ta6, .ref ta7, .ref ta8, .int 0])), (ta0, .inl (cyA G 0, 32768, .inl (tf0))), (ta1, .inl (cyA G 0, 32768, .inl (tf1))), (ta2, .inl (cyA G 0, 32768, .inl (tf2))), (ta3, .inl (cyA G 0, 32768, .inl (tf3))), (ta4, .inl (cyA G 0, 32768, .inl (tf4))), (ta5, .inl (cyA G 0, 32768, .inl (tf5))), (ta6, .inl (cyA G 0, 32768, .inl (tf6))), (ta7, .inl (cyA G 1, 32768, .inl (tf7))), (n1, .inl (cyA G 0, 250, .inl (nf))), (o1, .inl (cyA G 2, 1, .inr (.inl (fun _ => 0))))] sz) := by
  refine vx_ofWH (cc := cL_variable) (maxL := 4) (ret := (some .int)) (hh := [(0, 9, 12, 13), (0, 9, 15, 15)]) (by decide) rfl ?_
  intro p e s m args below meth c s₁ B hml hv
  obtain ⟨rfl, hsz, hP, hK, hD0, hE⟩ := hv
  have hx := B.exec
  have hb := B.bytes
  have hr := B.returns
  have hts := w0_tail B.pre
  have hown : s.vm.findClass RL = some m.cls := findClass_of_methodNamed B.named
  have hlocks := B.notSynchronized
  have htab := vx_table (x := yL_variable) B (hts _ wm629)
  subst hsz
  have hD := hD0.self (sz := s.heap.size)
  generalize hAe : va_A [(h0, .inr (10, [.ref t1, .ref f1, .ref s1, .ref d1, .ref y1, .ref g1, .ref m1, .ref n1, .int 0, .long 0])), (t1, .inr (8, [.ref ta0, .ref ta1, .ref ta2, .ref ta3, .ref ta4, .ref ta5, .ref ta6, .ref ta7, .ref ta8, .int 0])), (ta0, .inl (cyA G 0, 32768, .inl (tf0))), (ta1, .inl (cyA G 0, 32768, .inl (tf1))), (ta2, .inl (cyA G 0, 32768, .inl (tf2))), (ta3, .inl (cyA G 0, 32768, .inl (tf3))), (ta4, .inl (cyA G 0, 32768, .inl (tf4))), (ta5, .inl (cyA G 0, 32768, .inl (tf5))), (ta6, .inl (cyA G 0, 32768, .inl (tf6))), (ta7, .inl (cyA G 1, 32768, .inl (tf7))), (n1, .inl (cyA G 0, 250, .inl (nf))), (o1, .inl (cyA G 2, 1, .inr (.inl (fun _ => 0))))] s.heap.size = A at hD hE ⊢
  have hA : ∀ q : Nat, s.heap.size ≤ q → A q := fun q h => by rw [← hAe]; exact Or.inr h
  have hS : va_S A s.heap s.heap [] := va_S.rf
  obtain ⟨H, hHe⟩ : ∃ H : Heap, H = s.heap := ⟨_, rfl⟩
  have hP : va_P (DG G) clP1 [(h0, .inr (10, [.ref t1, .ref f1, .ref s1, .ref d1, .ref y1, .ref g1, .ref m1, .ref n1, .int 0, .long 0])), (t1, .inr (8, [.ref ta0, .ref ta1, .ref ta2, .ref ta3, .ref ta4, .ref ta5, .ref ta6, .ref ta7, .ref ta8, .int 0])), (ta0, .inl (cyA G 0, 32768, .inl (tf0))), (ta1, .inl (cyA G 0, 32768, .inl (tf1))), (ta2, .inl (cyA G 0, 32768, .inl (tf2))), (ta3, .inl (cyA G 0, 32768, .inl (tf3))), (ta4, .inl (cyA G 0, 32768, .inl (tf4))), (ta5, .inl (cyA G 0, 32768, .inl (tf5))), (ta6, .inl (cyA G 0, 32768, .inl (tf6))), (ta7, .inl (cyA G 1, 32768, .inl (tf7))), (n1, .inl (cyA G 0, 250, .inl (nf))), (o1, .inl (cyA G 2, 1, .inr (.inl (fun _ => 0))))] H := by rw [hHe]; exact hP
  have hS : va_S A s.heap H [] := by rw [hHe]; exact hS
  have hl := lv_entry ([.ref h0, .int p0, .ref o1]) (n := 4) (Nat.le_of_ble_eq_true rfl)
  rw [lg_entry_eq, ← hHe]
  generalize (lg_sl ([.ref h0, .int p0, .ref o1]) ++ List.replicate (4 - (lg_sl ([.ref h0, .int p0, .ref o1])).length) Slot.unset).toArray = ls at hl ⊢
  have hl : lv_has ls 4 [(0, .ref h0), (1, .int p0), (2, .ref o1)] := hl
  refine lv_aload_n hx hb dL_variable_0 rfl (lv_at hl 2 rfl) ?_
  refine lv_iconst (v := 0) hx hb dL_variable_1 (by decide) ?_
  refine lv_aload_n hx hb dL_variable_2 rfl (lv_at hl 0 rfl) ?_
  refine lv_iload_n hx hb dL_variable_3 rfl (lv_at hl 1 rfl) ?_
  have hFc := va_free (wc := [(h0, .inr (10, [.ref t1, .ref f1, .ref s1, .ref d1, .ref y1, .ref g1, .ref m1, .ref n1, .int 0, .long 0])), (t1, .inr (8, [.ref ta0, .ref ta1, .ref ta2, .ref ta3, .ref ta4, .ref ta5, .ref ta6, .ref ta7, .ref ta8, .int 0])), (ta0, .inl (cyA G 0, 32768, .inl (tf0))), (ta1, .inl (cyA G 0, 32768, .inl (tf1))), (ta2, .inl (cyA G 0, 32768, .inl (tf2))), (ta3, .inl (cyA G 0, 32768, .inl (tf3))), (ta4, .inl (cyA G 0, 32768, .inl (tf4))), (ta5, .inl (cyA G 0, 32768, .inl (tf5))), (ta6, .inl (cyA G 0, 32768, .inl (tf6))), (ta7, .inl (cyA G 1, 32768, .inl (tf7))), (n1, .inl (cyA G 0, 250, .inl (nf)))]) hD hS hA [0, 1, 2, 3, 4, 5, 6, 7, 8, 9, 10] rfl
  refine vx_calli (vx_runV (As := [.int p0]) (rest := [.int 0, .ref o1]) ⟨hx, hb, hml, hown, hts⟩ (k_X11_variable l hfl G h0 p0 t1 f1 s1 d1 y1 g1 m1 n1 ta0 ta1 ta2 ta3 ta4 ta5 ta6 ta7 ta8 tf0 tf1 tf2 tf3 tf4 tf5 tf6 tf7 nf H.size) (cwV 1 hts (gV wm630 wm631 wm632 wm1 wm633) rfl rfl rfl (by decide +kernel) ⟨Nat.le_of_ble_eq_true rfl, Nat.le_of_ble_eq_true rfl⟩) (pre_v (pre_s hK hP hD hS hE [0, 1, 2, 3, 4, 5, 6, 7, 8, 9, 10] rfl rfl (by decide) hFc) (va_recv hK hP (ci := 10) (q0 := 0) rfl rfl)) rfl rfl hl.1 rfl (lv_room (Nat.le_of_ble_eq_true rfl)) dL_variable_4 ⟨Nat.le_of_ble_eq_true rfl, Nat.le_of_ble_eq_true rfl⟩) hS (fun q _ h => hFc q h) hFc (fun q _ h => hFc q h) (fun E ce q9 u t H locs ht hvm hpx hBX hz1 hk1 hS hce hv9 hcl => ?_) (fun r u t H locs ht hvm hw hB hz1 hk1 hS => ?_)
  · obtain ⟨rfl, tx0⟩ := hBX
    obtain ⟨hP, hD⟩ := va_join (wr := [(o1, .inl (cyA G 2, 1, .inr (.inl (fun _ => 0))))]) (w1 := []) hP hD [0, 1, 2, 3, 4, 5, 6, 7, 8, 9, 10] [11] rfl rfl (by decide) (by decide) hk1 hFc nilP nilD
    refine vx_widen (k := 1) (n := 6) (Nat.le_of_ble_eq_true rfl) (Nat.le_of_ble_eq_true rfl) ?_
    refine vx_catch hown (tableOf []) ⟨0, 9, 12, 13⟩ (tableOf [(0, 9, 15, 15)]) (htab.trans rfl) xP0 (by decide) (by decide) (hts _ wm528) (va_Nw.use rfl (hE.1 _ nw536)) hce hv9 hcl ?_
    refine W.eq (g2 := F0 m 12 ls [.ref q9]) rfl ?_
    have hP : va_P (DG G) clP1 [(o1, .inl (cyA G 2, 1, .inr (.inl (fun _ => 0))))] H := hP
    have hD : va_D A [(o1, .inl (cyA G 2, 1, .inr (.inl (fun _ => 0))))] := hD
    refine lv_astore_n (lv' := [(3, .ref q9), (0, .ref h0), (1, .int p0), (2, .ref o1)]) hx hb dL_variable_12 rfl hl (by decide) rfl (fun ls hl => ?_)
    refine lv_iconst (v := 1) hx hb dL_variable_13 (by decide) ?_
    have hP9 := hP.sub (ws' := [(o1, .inl (cyA G 2, 1, .inr (.inl (fun _ => 0))))]) [0] rfl
    have hD9 := hD.sub (ws' := [(o1, .inl (cyA G 2, 1, .inr (.inl (fun _ => 0))))]) [0] (by decide) rfl
    refine W.widen (k := 1) (n := 6) (Nat.le_of_ble_eq_true rfl) (Nat.le_of_ble_eq_true rfl) ?_
    exact vx_ret (W.iret (v := 1) hx hb hr (fun t ht hW => ⟨⟨1, 0, rfl, (Or.inl ⟨rfl, rfl, by omega⟩), ⟨fun _ => ⟨by rw [ht]; exact hP9, hD9⟩, fun h => absurd h (by decide)⟩⟩, hS.F ht⟩) hS.2.2 dL_variable_14 hlocks)
  · rcases hw with ⟨rfl, rfl, t1_0⟩
    · obtain ⟨hP1, hD1⟩ := hB rfl
      rw [ht] at hP1
      obtain ⟨hP, hD⟩ := va_join (wr := [(o1, .inl (cyA G 2, 1, .inr (.inl (fun _ => 0))))]) (w1 := []) hP hD [0, 1, 2, 3, 4, 5, 6, 7, 8, 9, 10] [11] rfl rfl (by decide) (by decide) hk1 hFc hP1 hD1
      have hP : va_P (DG G) clP1 [(o1, .inl (cyA G 2, 1, .inr (.inl (fun _ => 0))))] H := hP
      have hD : va_D A [(o1, .inl (cyA G 2, 1, .inr (.inl (fun _ => 0))))] := hD
      refine W.widen (k := 1) (n := 6) (Nat.le_of_ble_eq_true rfl) (Nat.le_of_ble_eq_true rfl) ?_
      refine lv_i2l (v := 0) hx hb dL_variable_7 (by decide) ?_
      refine va_last hx hb hK hP hD hS 0 2 rfl rfl (show ¬ ((0 : Int32) < 0 ∨ 1 ≤ Int32.toNatClampNeg 0) from by decide) dL_variable_8 (fun H locs hP hD hS => ?_)
      have hP : va_P (DG G) clP1 [(o1, .inl (cyA G 2, 1, .inr (.inl (vp_updL (fun _ => 0) (Int32.toNatClampNeg 0) 0))))] H := hP
      have hD : va_D A [(o1, .inl (cyA G 2, 1, .inr (.inl (vp_updL (fun _ => 0) (Int32.toNatClampNeg 0) 0))))] := hD
      refine lv_goto (tgt := 18) hx hb dL_variable_9 (by decide) ?_
      refine lv_iconst (v := 0) hx hb dL_variable_18 (by decide) ?_
      have hP9 := hP.sub (ws' := [(o1, .inl (cyA G 2, 1, .inr (.inl (vp_updL (fun _ => 0) (Int32.toNatClampNeg 0) 0))))]) [0] rfl
      have hD9 := hD.sub (ws' := [(o1, .inl (cyA G 2, 1, .inr (.inl (vp_updL (fun _ => 0) (Int32.toNatClampNeg 0) 0))))]) [0] (by decide) rfl
      refine W.widen (k := 1) (n := 6) (Nat.le_of_ble_eq_true rfl) (Nat.le_of_ble_eq_true rfl) ?_
      exact vx_ret (W.iret (v := 0) hx hb hr (fun t ht hW => ⟨⟨0, 1, rfl, (Or.inr ⟨rfl, rfl, by omega⟩), ⟨fun h => absurd h (by decide), fun _ => ⟨by rw [ht]; exact hP9, hD9⟩⟩⟩, hS.F ht⟩) hS.2.2 dL_variable_19 hlocks)
set_option maxHeartbeats 4000000 in
set_option maxRecDepth 100000 in
theorem k_L_functions (l : Launch) (hfl : l.stackTraces = false) (G : GC) (h0 : Nat) (p0 : Int32) (p1 : Int32) (o1 : Nat) (t1 : Nat) (f1 : Nat) (s1 : Nat) (d1 : Nat) (y1 : Nat) (g1 : Nat) (m1 : Nat) (n1 : Nat) (sz : Nat) : vx_Met l yL_functions (Cond.codeWith yL_functions cL_functions 5 (some .int) [(0, 10, 13, 24), (0, 10, 17, 15)] :: W0) ({ frames := 9, cells := 1, slots := 6, locals := 150 }) (va_Pc [.ref h0, .int p0, .int p1, .ref o1] (WD G [(h0, .inr (10, [.ref t1, .ref f1, .ref s1, .ref d1, .ref y1, .ref g1, .ref m1, .ref n1, .int 0, .long 0])), (o1, .inl (cyA G 2, 1, .inr (.inl (fun _ => 0))))] sz)) (va_Qi (fun (r : Int32) (_ : Unit) => r = 1) (fun _ t => PW G (va_A [(h0, .inr (10, [.ref t1, .ref f1, .ref s1, .ref d1, .ref y1, .ref g1, .ref m1, .ref n1, .int 0, .long 0])), (o1, .inl (cyA G 2, 1, .inr (.inl (fun _ => 0))))] sz) [(o1, .inl (cyA G 2, 1, .inr (.inl (fun _ => 0))))] t) (va_A [(h0, .inr (10, [.ref t1, .ref f1, .ref s1, .ref d1, .ref y1, .ref g1, .ref m1, .ref n1, .int 0, .long 0])), (o1, .inl (cyA G 2, 1, .inr (.inl (fun _ => 0))))] sz)) (vx_X (fun _ : Unit => False) (fun (_ : String) (_ : Unit) (_ : State) => True) (va_A [(h0, .inr (10, [.ref t1, .ref f1, .ref s1, .ref d1, .ref y1, .ref g1, .ref m1, .ref n1, .int 0, .long 0])), (o1, .inl (cyA G 2, 1, .inr (.inl (fun _ => 0))))] sz)) 1 6 (va_A [(h0, .inr (10, [.ref t1, .ref f1, .ref s1, .ref d1, .ref y1, .ref g1, .ref m1, .ref n1, .int 0, .long 0])), (o1, .inl (cyA G 2, 1, .inr (.inl (fun _ => 0))))] sz) := by
  refine vx_ofWH (cc := cL_functions) (maxL := 5) (ret := (some .int)) (hh := [(0, 10, 13, 24), (0, 10, 17, 15)]) (by decide) rfl ?_
  intro p e s m args below meth c s₁ B hml hv
  obtain ⟨rfl, hsz, hP, hK, hD0, hE⟩ := hv
  have hx := B.exec
  have hb := B.bytes
  have hr := B.returns
  have hts := w0_tail B.pre
  have hown : s.vm.findClass RL = some m.cls := findClass_of_methodNamed B.named
  have hlocks := B.notSynchronized
  have htab := vx_table (x := yL_functions) B (hts _ wm637)
  subst hsz
  have hD := hD0.self (sz := s.heap.size)
  generalize hAe : va_A [(h0, .inr (10, [.ref t1, .ref f1, .ref s1, .ref d1, .ref y1, .ref g1, .ref m1, .ref n1, .int 0, .long 0])), (o1, .inl (cyA G 2, 1, .inr (.inl (fun _ => 0))))] s.heap.size = A at hD hE ⊢
  have hA : ∀ q : Nat, s.heap.size ≤ q → A q := fun q h => by rw [← hAe]; exact Or.inr h
  have hS : va_S A s.heap s.heap [] := va_S.rf
  obtain ⟨H, hHe⟩ : ∃ H : Heap, H = s.heap := ⟨_, rfl⟩
  have hP : va_P (DG G) clP1 [(h0, .inr (10, [.ref t1, .ref f1, .ref s1, .ref d1, .ref y1, .ref g1, .ref m1, .ref n1, .int 0, .long 0])), (o1, .inl (cyA G 2, 1, .inr (.inl (fun _ => 0))))] H := by rw [hHe]; exact hP
  have hS : va_S A s.heap H [] := by rw [hHe]; exact hS
  have hl := lv_entry ([.ref h0, .int p0, .int p1, .ref o1]) (n := 5) (Nat.le_of_ble_eq_true rfl)
  rw [lg_entry_eq, ← hHe]
  generalize (lg_sl ([.ref h0, .int p0, .int p1, .ref o1]) ++ List.replicate (5 - (lg_sl ([.ref h0, .int p0, .int p1, .ref o1])).length) Slot.unset).toArray = ls at hl ⊢
  have hl : lv_has ls 5 [(0, .ref h0), (1, .int p0), (2, .int p1), (3, .ref o1)] := hl
  refine lv_aload_n hx hb dL_functions_0 rfl (lv_at hl 3 rfl) ?_
  refine lv_iconst (v := 0) hx hb dL_functions_1 (by decide) ?_
  refine lv_aload_n hx hb dL_functions_2 rfl (lv_at hl 0 rfl) ?_
  refine lv_iload_n hx hb dL_functions_3 rfl (lv_at hl 1 rfl) ?_
  refine lv_iload_n hx hb dL_functions_4 rfl (lv_at hl 2 rfl) ?_
  have hFc := va_free (wc := [(h0, .inr (10, [.ref t1, .ref f1, .ref s1, .ref d1, .ref y1, .ref g1, .ref m1, .ref n1, .int 0, .long 0]))]) hD hS hA [0] rfl
  refine vx_calli (vx_runV (As := [.int p0, .int p1]) (rest := [.int 0, .ref o1]) ⟨hx, hb, hml, hown, hts⟩ (k_X11_functions l hfl G h0 p0 p1 t1 f1 s1 d1 y1 g1 m1 n1 H.size) (cwV 2 hts (gV wm662 wm663 wm664 wm1 wm665) rfl rfl rfl (by decide +kernel) ⟨Nat.le_of_ble_eq_true rfl, Nat.le_of_ble_eq_true rfl⟩) (pre_v (pre_s hK hP hD hS hE [0] rfl rfl (by decide) hFc) (va_recv hK hP (ci := 10) (q0 := 0) rfl rfl)) rfl rfl hl.1 rfl (lv_room (Nat.le_of_ble_eq_true rfl)) dL_functions_5 ⟨Nat.le_of_ble_eq_true rfl, Nat.le_of_ble_eq_true rfl⟩) hS (fun q _ h => hFc q h) hFc (fun q _ h => hFc q h) (fun E ce q9 u t H locs ht hvm hpx hBX hz1 hk1 hS hce hv9 hcl => ?_) (fun r u t H locs ht hvm hw hB hz1 hk1 hS => ?_)
  · have hBX : E = "java/lang/IndexOutOfBoundsException" := hBX
    subst hBX
    obtain ⟨hP, hD⟩ := va_join (wr := [(o1, .inl (cyA G 2, 1, .inr (.inl (fun _ => 0))))]) (w1 := []) hP hD [0] [1] rfl rfl (by decide) (by decide) hk1 hFc nilP nilD
    refine vx_widen (k := 1) (n := 6) (Nat.le_of_ble_eq_true rfl) (Nat.le_of_ble_eq_true rfl) ?_
    refine vx_catch hown (tableOf []) ⟨0, 10, 13, 24⟩ (tableOf [(0, 10, 17, 15)]) (htab.trans rfl) xP0 (by decide) (by decide) (hts _ wm638) (va_Nw.use rfl (hE.1 _ nw676)) hce hv9 hcl ?_
    refine W.eq (g2 := F0 m 13 ls [.ref q9]) rfl ?_
    have hP : va_P (DG G) clP1 [(o1, .inl (cyA G 2, 1, .inr (.inl (fun _ => 0))))] H := hP
    have hD : va_D A [(o1, .inl (cyA G 2, 1, .inr (.inl (fun _ => 0))))] := hD
    refine lv_astore (lv' := [(4, .ref q9), (0, .ref h0), (1, .int p0), (2, .int p1), (3, .ref o1)]) hx hb dL_functions_13 hl (by decide) rfl (fun ls hl => ?_)
    refine lv_iconst (v := 1) hx hb dL_functions_15 (by decide) ?_
    have hP9 := hP.sub (ws' := [(o1, .inl (cyA G 2, 1, .inr (.inl (fun _ => 0))))]) [0] rfl
    have hD9 := hD.sub (ws' := [(o1, .inl (cyA G 2, 1, .inr (.inl (fun _ => 0))))]) [0] (by decide) rfl
    refine W.widen (k := 1) (n := 6) (Nat.le_of_ble_eq_true rfl) (Nat.le_of_ble_eq_true rfl) ?_
    exact vx_ret (W.iret (v := 1) hx hb hr (fun t ht hW => ⟨⟨1, (), rfl, rfl, ⟨by rw [ht]; exact hP9, hD9⟩⟩, hS.F ht⟩) hS.2.2 dL_functions_16 hlocks)
  · exact hw.elim
set_option maxHeartbeats 4000000 in
set_option maxRecDepth 100000 in
theorem k_L_lambda (l : Launch) (hfl : l.stackTraces = false) (G : GC) (h0 : Nat) (p0 : Int32) (p1 : Int32) (o1 : Nat) (t1 : Nat) (f1 : Nat) (s1 : Nat) (d1 : Nat) (y1 : Nat) (g1 : Nat) (m1 : Nat) (n1 : Nat) (sz : Nat) : vx_Met l yL_lambda (Cond.codeWith yL_lambda cL_lambda 5 (some .int) [(0, 10, 13, 24), (0, 10, 17, 15)] :: W0) ({ frames := 9, cells := 1, slots := 6, locals := 150 }) (va_Pc [.ref h0, .int p0, .int p1, .ref o1] (WD G [(h0, .inr (10, [.ref t1, .ref f1, .ref s1, .ref d1, .ref y1, .ref g1, .ref m1, .ref n1, .int 0, .long 0])), (o1, .inl (cyA G 2, 1, .inr (.inl (fun _ => 0))))] sz)) (va_Qi (fun (r : Int32) (_ : Unit) => r = 1) (fun _ t => PW G (va_A [(h0, .inr (10, [.ref t1, .ref f1, .ref s1, .ref d1, .ref y1, .ref g1, .ref m1, .ref n1, .int 0, .long 0])), (o1, .inl (cyA G 2, 1, .inr (.inl (fun _ => 0))))] sz) [(o1, .inl (cyA G 2, 1, .inr (.inl (fun _ => 0))))] t) (va_A [(h0, .inr (10, [.ref t1, .ref f1, .ref s1, .ref d1, .ref y1, .ref g1, .ref m1, .ref n1, .int 0, .long 0])), (o1, .inl (cyA G 2, 1, .inr (.inl (fun _ => 0))))] sz)) (vx_X (fun _ : Unit => False) (fun (_ : String) (_ : Unit) (_ : State) => True) (va_A [(h0, .inr (10, [.ref t1, .ref f1, .ref s1, .ref d1, .ref y1, .ref g1, .ref m1, .ref n1, .int 0, .long 0])), (o1, .inl (cyA G 2, 1, .inr (.inl (fun _ => 0))))] sz)) 1 6 (va_A [(h0, .inr (10, [.ref t1, .ref f1, .ref s1, .ref d1, .ref y1, .ref g1, .ref m1, .ref n1, .int 0, .long 0])), (o1, .inl (cyA G 2, 1, .inr (.inl (fun _ => 0))))] sz) := by
  refine vx_ofWH (cc := cL_lambda) (maxL := 5) (ret := (some .int)) (hh := [(0, 10, 13, 24), (0, 10, 17, 15)]) (by decide) rfl ?_
  intro p e s m args below meth c s₁ B hml hv
  obtain ⟨rfl, hsz, hP, hK, hD0, hE⟩ := hv
  have hx := B.exec
  have hb := B.bytes
  have hr := B.returns
  have hts := w0_tail B.pre
  have hown : s.vm.findClass RL = some m.cls := findClass_of_methodNamed B.named
  have hlocks := B.notSynchronized
  have htab := vx_table (x := yL_lambda) B (hts _ wm692)
  subst hsz
  have hD := hD0.self (sz := s.heap.size)
  generalize hAe : va_A [(h0, .inr (10, [.ref t1, .ref f1, .ref s1, .ref d1, .ref y1, .ref g1, .ref m1, .ref n1, .int 0, .long 0])), (o1, .inl (cyA G 2, 1, .inr (.inl (fun _ => 0))))] s.heap.size = A at hD hE ⊢
  have hA : ∀ q : Nat, s.heap.size ≤ q → A q := fun q h => by rw [← hAe]; exact Or.inr h
  have hS : va_S A s.heap s.heap [] := va_S.rf
  obtain ⟨H, hHe⟩ : ∃ H : Heap, H = s.heap := ⟨_, rfl⟩
  have hP : va_P (DG G) clP1 [(h0, .inr (10, [.ref t1, .ref f1, .ref s1, .ref d1, .ref y1, .ref g1, .ref m1, .ref n1, .int 0, .long 0])), (o1, .inl (cyA G 2, 1, .inr (.inl (fun _ => 0))))] H := by rw [hHe]; exact hP
  have hS : va_S A s.heap H [] := by rw [hHe]; exact hS
  have hl := lv_entry ([.ref h0, .int p0, .int p1, .ref o1]) (n := 5) (Nat.le_of_ble_eq_true rfl)
  rw [lg_entry_eq, ← hHe]
  generalize (lg_sl ([.ref h0, .int p0, .int p1, .ref o1]) ++ List.replicate (5 - (lg_sl ([.ref h0, .int p0, .int p1, .ref o1])).length) Slot.unset).toArray = ls at hl ⊢
  have hl : lv_has ls 5 [(0, .ref h0), (1, .int p0), (2, .int p1), (3, .ref o1)] := hl
  refine lv_aload_n hx hb dL_lambda_0 rfl (lv_at hl 3 rfl) ?_
  refine lv_iconst (v := 0) hx hb dL_lambda_1 (by decide) ?_
  refine lv_aload_n hx hb dL_lambda_2 rfl (lv_at hl 0 rfl) ?_
  refine lv_iload_n hx hb dL_lambda_3 rfl (lv_at hl 1 rfl) ?_
  refine lv_iload_n hx hb dL_lambda_4 rfl (lv_at hl 2 rfl) ?_
  have hFc := va_free (wc := [(h0, .inr (10, [.ref t1, .ref f1, .ref s1, .ref d1, .ref y1, .ref g1, .ref m1, .ref n1, .int 0, .long 0]))]) hD hS hA [0] rfl
  refine vx_calli (vx_runV (As := [.int p0, .int p1]) (rest := [.int 0, .ref o1]) ⟨hx, hb, hml, hown, hts⟩ (k_X11_lambda l hfl G h0 p0 p1 t1 f1 s1 d1 y1 g1 m1 n1 H.size) (cwV 2 hts (gV wm693 wm694 wm695 wm1 wm696) rfl rfl rfl (by decide +kernel) ⟨Nat.le_of_ble_eq_true rfl, Nat.le_of_ble_eq_true rfl⟩) (pre_v (pre_s hK hP hD hS hE [0] rfl rfl (by decide) hFc) (va_recv hK hP (ci := 10) (q0 := 0) rfl rfl)) rfl rfl hl.1 rfl (lv_room (Nat.le_of_ble_eq_true rfl)) dL_lambda_5 ⟨Nat.le_of_ble_eq_true rfl, Nat.le_of_ble_eq_true rfl⟩) hS (fun q _ h => hFc q h) hFc (fun q _ h => hFc q h) (fun E ce q9 u t H locs ht hvm hpx hBX hz1 hk1 hS hce hv9 hcl => ?_) (fun r u t H locs ht hvm hw hB hz1 hk1 hS => ?_)
  · have hBX : E = "java/lang/IndexOutOfBoundsException" := hBX
    subst hBX
    obtain ⟨hP, hD⟩ := va_join (wr := [(o1, .inl (cyA G 2, 1, .inr (.inl (fun _ => 0))))]) (w1 := []) hP hD [0] [1] rfl rfl (by decide) (by decide) hk1 hFc nilP nilD
    refine vx_widen (k := 1) (n := 6) (Nat.le_of_ble_eq_true rfl) (Nat.le_of_ble_eq_true rfl) ?_
    refine vx_catch hown (tableOf []) ⟨0, 10, 13, 24⟩ (tableOf [(0, 10, 17, 15)]) (htab.trans rfl) xP0 (by decide) (by decide) (hts _ wm638) (va_Nw.use rfl (hE.1 _ nw676)) hce hv9 hcl ?_
    refine W.eq (g2 := F0 m 13 ls [.ref q9]) rfl ?_
    have hP : va_P (DG G) clP1 [(o1, .inl (cyA G 2, 1, .inr (.inl (fun _ => 0))))] H := hP
    have hD : va_D A [(o1, .inl (cyA G 2, 1, .inr (.inl (fun _ => 0))))] := hD
    refine lv_astore (lv' := [(4, .ref q9), (0, .ref h0), (1, .int p0), (2, .int p1), (3, .ref o1)]) hx hb dL_lambda_13 hl (by decide) rfl (fun ls hl => ?_)
    refine lv_iconst (v := 1) hx hb dL_lambda_15 (by decide) ?_
    have hP9 := hP.sub (ws' := [(o1, .inl (cyA G 2, 1, .inr (.inl (fun _ => 0))))]) [0] rfl
    have hD9 := hD.sub (ws' := [(o1, .inl (cyA G 2, 1, .inr (.inl (fun _ => 0))))]) [0] (by decide) rfl
    refine W.widen (k := 1) (n := 6) (Nat.le_of_ble_eq_true rfl) (Nat.le_of_ble_eq_true rfl) ?_
    exact vx_ret (W.iret (v := 1) hx hb hr (fun t ht hW => ⟨⟨1, (), rfl, rfl, ⟨by rw [ht]; exact hP9, hD9⟩⟩, hS.F ht⟩) hS.2.2 dL_lambda_16 hlocks)
  · exact hw.elim
set_option maxHeartbeats 4000000 in
set_option maxRecDepth 100000 in
theorem k_L_apply (l : Launch) (hfl : l.stackTraces = false) (G : GC) (h0 : Nat) (p0 : Int32) (p1 : Int32) (o1 : Nat) (t1 : Nat) (f1 : Nat) (s1 : Nat) (d1 : Nat) (y1 : Nat) (g1 : Nat) (m1 : Nat) (n1 : Nat) (sz : Nat) : vx_Met l yL_apply (Cond.codeWith yL_apply cL_apply 5 (some .int) [(0, 10, 13, 24), (0, 10, 17, 15)] :: W0) ({ frames := 9, cells := 1, slots := 6, locals := 150 }) (va_Pc [.ref h0, .int p0, .int p1, .ref o1] (WD G [(h0, .inr (10, [.ref t1, .ref f1, .ref s1, .ref d1, .ref y1, .ref g1, .ref m1, .ref n1, .int 0, .long 0])), (o1, .inl (cyA G 2, 1, .inr (.inl (fun _ => 0))))] sz)) (va_Qi (fun (r : Int32) (_ : Unit) => r = 1) (fun _ t => PW G (va_A [(h0, .inr (10, [.ref t1, .ref f1, .ref s1, .ref d1, .ref y1, .ref g1, .ref m1, .ref n1, .int 0, .long 0])), (o1, .inl (cyA G 2, 1, .inr (.inl (fun _ => 0))))] sz) [(o1, .inl (cyA G 2, 1, .inr (.inl (fun _ => 0))))] t) (va_A [(h0, .inr (10, [.ref t1, .ref f1, .ref s1, .ref d1, .ref y1, .ref g1, .ref m1, .ref n1, .int 0, .long 0])), (o1, .inl (cyA G 2, 1, .inr (.inl (fun _ => 0))))] sz)) (vx_X (fun _ : Unit => False) (fun (_ : String) (_ : Unit) (_ : State) => True) (va_A [(h0, .inr (10, [.ref t1, .ref f1, .ref s1, .ref d1, .ref y1, .ref g1, .ref m1, .ref n1, .int 0, .long 0])), (o1, .inl (cyA G 2, 1, .inr (.inl (fun _ => 0))))] sz)) 1 6 (va_A [(h0, .inr (10, [.ref t1, .ref f1, .ref s1, .ref d1, .ref y1, .ref g1, .ref m1, .ref n1, .int 0, .long 0])), (o1, .inl (cyA G 2, 1, .inr (.inl (fun _ => 0))))] sz) := by
  refine vx_ofWH (cc := cL_apply) (maxL := 5) (ret := (some .int)) (hh := [(0, 10, 13, 24), (0, 10, 17, 15)]) (by decide) rfl ?_
  intro p e s m args below meth c s₁ B hml hv
  obtain ⟨rfl, hsz, hP, hK, hD0, hE⟩ := hv
  have hx := B.exec
  have hb := B.bytes
  have hr := B.returns
  have hts := w0_tail B.pre
  have hown : s.vm.findClass RL = some m.cls := findClass_of_methodNamed B.named
  have hlocks := B.notSynchronized
  have htab := vx_table (x := yL_apply) B (hts _ wm699)
  subst hsz
  have hD := hD0.self (sz := s.heap.size)
  generalize hAe : va_A [(h0, .inr (10, [.ref t1, .ref f1, .ref s1, .ref d1, .ref y1, .ref g1, .ref m1, .ref n1, .int 0, .long 0])), (o1, .inl (cyA G 2, 1, .inr (.inl (fun _ => 0))))] s.heap.size = A at hD hE ⊢
  have hA : ∀ q : Nat, s.heap.size ≤ q → A q := fun q h => by rw [← hAe]; exact Or.inr h
  have hS : va_S A s.heap s.heap [] := va_S.rf
  obtain ⟨H, hHe⟩ : ∃ H : Heap, H = s.heap := ⟨_, rfl⟩
  have hP : va_P (DG G) clP1 [(h0, .inr (10, [.ref t1, .ref f1, .ref s1, .ref d1, .ref y1, .ref g1, .ref m1, .ref n1, .int 0, .long 0])), (o1, .inl (cyA G 2, 1, .inr (.inl (fun _ => 0))))] H := by rw [hHe]; exact hP
  have hS : va_S A s.heap H [] := by rw [hHe]; exact hS
  have hl := lv_entry ([.ref h0, .int p0, .int p1, .ref o1]) (n := 5) (Nat.le_of_ble_eq_true rfl)
  rw [lg_entry_eq, ← hHe]
  generalize (lg_sl ([.ref h0, .int p0, .int p1, .ref o1]) ++ List.replicate (5 - (lg_sl ([.ref h0, .int p0, .int p1, .ref o1])).length) Slot.unset).toArray = ls at hl ⊢
  have hl : lv_has ls 5 [(0, .ref h0), (1, .int p0), (2, .int p1), (3, .ref o1)] := hl
  refine lv_aload_n hx hb dL_apply_0 rfl (lv_at hl 3 rfl) ?_
  refine lv_iconst (v := 0) hx hb dL_apply_1 (by decide) ?_
  refine lv_aload_n hx hb dL_apply_2 rfl (lv_at hl 0 rfl) ?_
  refine lv_iload_n hx hb dL_apply_3 rfl (lv_at hl 1 rfl) ?_
  refine lv_iload_n hx hb dL_apply_4 rfl (lv_at hl 2 rfl) ?_
  have hFc := va_free (wc := [(h0, .inr (10, [.ref t1, .ref f1, .ref s1, .ref d1, .ref y1, .ref g1, .ref m1, .ref n1, .int 0, .long 0]))]) hD hS hA [0] rfl
  refine vx_calli (vx_runV (As := [.int p0, .int p1]) (rest := [.int 0, .ref o1]) ⟨hx, hb, hml, hown, hts⟩ (k_X11_apply l hfl G h0 p0 p1 t1 f1 s1 d1 y1 g1 m1 n1 H.size) (cwV 2 hts (gV wm700 wm701 wm702 wm1 wm703) rfl rfl rfl (by decide +kernel) ⟨Nat.le_of_ble_eq_true rfl, Nat.le_of_ble_eq_true rfl⟩) (pre_v (pre_s hK hP hD hS hE [0] rfl rfl (by decide) hFc) (va_recv hK hP (ci := 10) (q0 := 0) rfl rfl)) rfl rfl hl.1 rfl (lv_room (Nat.le_of_ble_eq_true rfl)) dL_apply_5 ⟨Nat.le_of_ble_eq_true rfl, Nat.le_of_ble_eq_true rfl⟩) hS (fun q _ h => hFc q h) hFc (fun q _ h => hFc q h) (fun E ce q9 u t H locs ht hvm hpx hBX hz1 hk1 hS hce hv9 hcl => ?_) (fun r u t H locs ht hvm hw hB hz1 hk1 hS => ?_)
  · have hBX : E = "java/lang/IndexOutOfBoundsException" := hBX
    subst hBX
    obtain ⟨hP, hD⟩ := va_join (wr := [(o1, .inl (cyA G 2, 1, .inr (.inl (fun _ => 0))))]) (w1 := []) hP hD [0] [1] rfl rfl (by decide) (by decide) hk1 hFc nilP nilD
    refine vx_widen (k := 1) (n := 6) (Nat.le_of_ble_eq_true rfl) (Nat.le_of_ble_eq_true rfl) ?_
    refine vx_catch hown (tableOf []) ⟨0, 10, 13, 24⟩ (tableOf [(0, 10, 17, 15)]) (htab.trans rfl) xP0 (by decide) (by decide) (hts _ wm638) (va_Nw.use rfl (hE.1 _ nw676)) hce hv9 hcl ?_
    refine W.eq (g2 := F0 m 13 ls [.ref q9]) rfl ?_
    have hP : va_P (DG G) clP1 [(o1, .inl (cyA G 2, 1, .inr (.inl (fun _ => 0))))] H := hP
    have hD : va_D A [(o1, .inl (cyA G 2, 1, .inr (.inl (fun _ => 0))))] := hD
    refine lv_astore (lv' := [(4, .ref q9), (0, .ref h0), (1, .int p0), (2, .int p1), (3, .ref o1)]) hx hb dL_apply_13 hl (by decide) rfl (fun ls hl => ?_)
    refine lv_iconst (v := 1) hx hb dL_apply_15 (by decide) ?_
    have hP9 := hP.sub (ws' := [(o1, .inl (cyA G 2, 1, .inr (.inl (fun _ => 0))))]) [0] rfl
    have hD9 := hD.sub (ws' := [(o1, .inl (cyA G 2, 1, .inr (.inl (fun _ => 0))))]) [0] (by decide) rfl
    refine W.widen (k := 1) (n := 6) (Nat.le_of_ble_eq_true rfl) (Nat.le_of_ble_eq_true rfl) ?_
    exact vx_ret (W.iret (v := 1) hx hb hr (fun t ht hW => ⟨⟨1, (), rfl, rfl, ⟨by rw [ht]; exact hP9, hD9⟩⟩, hS.F ht⟩) hS.2.2 dL_apply_16 hlocks)
  · exact hw.elim
set_option maxHeartbeats 4000000 in
set_option maxRecDepth 100000 in
theorem k_L_dataNode (l : Launch) (hfl : l.stackTraces = false) (G : GC) (h0 : Nat) (p0 : Int32) (o1 : Nat) (t1 : Nat) (f1 : Nat) (s1 : Nat) (d1 : Nat) (y1 : Nat) (g1 : Nat) (m1 : Nat) (n1 : Nat) (sf0 : Nat) (sf1 : Nat) (sf2 : Nat) (sf3 : Nat) (sf4 : Nat) (sf5 : Nat) (sf6 : Nat) (sf7 : Nat) (sz : Nat) : vx_Met l yL_dataNode (Cond.codeWith yL_dataNode cL_dataNode 4 (some .int) [(0, 9, 12, 35), (0, 9, 15, 15)] :: W0) ({ frames := 7, cells := 1, slots := 6, locals := 103 }) (va_Pc [.ref h0, .int p0, .ref o1] (WD G [(h0, .inr (10, [.ref t1, .ref f1, .ref s1, .ref d1, .ref y1, .ref g1, .ref m1, .ref n1, .int 0, .long 0])), (s1, .inr (6, [.ref sf0, .ref sf1, .ref sf2, .ref sf3, .ref sf4, .ref sf5, .ref sf6, .ref sf7, .int 0, .int 0])), (o1, .inl (cyA G 2, 1, .inr (.inl (fun _ => 0))))] sz)) (va_Qi (fun (r : Int32) (_ : Unit) => r = 1) (fun _ t => PW G (va_A [(h0, .inr (10, [.ref t1, .ref f1, .ref s1, .ref d1, .ref y1, .ref g1, .ref m1, .ref n1, .int 0, .long 0])), (s1, .inr (6, [.ref sf0, .ref sf1, .ref sf2, .ref sf3, .ref sf4, .ref sf5, .ref sf6, .ref sf7, .int 0, .int 0])), (o1, .inl (cyA G 2, 1, .inr (.inl (fun _ => 0))))] sz) [(o1, .inl (cyA G 2, 1, .inr (.inl (fun _ => 0))))] t) (va_A [(h0, .inr (10, [.ref t1, .ref f1, .ref s1, .ref d1, .ref y1, .ref g1, .ref m1, .ref n1, .int 0, .long 0])), (s1, .inr (6, [.ref sf0, .ref sf1, .ref sf2, .ref sf3, .ref sf4, .ref sf5, .ref sf6, .ref sf7, .int 0, .int 0])), (o1, .inl (cyA G 2, 1, .inr (.inl (fun _ => 0))))] sz)) (vx_X (fun _ : Unit => False) (fun (_ : String) (_ : Unit) (_ : State) => True) (va_A [(h0, .inr (10, [.ref t1, .ref f1, .ref s1, .ref d1, .ref y1, .ref g1, .ref m1, .ref n1, .int 0, .long 0])), (s1, .inr (6, [.ref sf0, .ref sf1, .ref sf2, .ref sf3, .ref sf4, .ref sf5, .ref sf6, .ref sf7, .int 0, .int 0])), (o1, .inl (cyA G 2, 1, .inr (.inl (fun _ => 0))))] sz)) 1 6 (va_A [(h0, .inr (10, [.ref t1, .ref f1, .ref s1, .ref d1, .ref y1, .ref g1, .ref m1, .ref n1, .int 0, .long 0])), (s1, .inr (6, [.ref sf0, .ref sf1, .ref sf2, .ref sf3, .ref sf4, .ref sf5, .ref sf6, .ref sf7, .int 0, .int 0])), (o1, .inl (cyA G 2, 1, .inr (.inl (fun _ => 0))))] sz) := by
  refine vx_ofWH (cc := cL_dataNode) (maxL := 4) (ret := (some .int)) (hh := [(0, 9, 12, 35), (0, 9, 15, 15)]) (by decide) rfl ?_
  intro p e s m args below meth c s₁ B hml hv
  obtain ⟨rfl, hsz, hP, hK, hD0, hE⟩ := hv
  have hx := B.exec
  have hb := B.bytes
  have hr := B.returns
  have hts := w0_tail B.pre
  have hown : s.vm.findClass RL = some m.cls := findClass_of_methodNamed B.named
  have hlocks := B.notSynchronized
  have htab := vx_table (x := yL_dataNode) B (hts _ wm706)
  subst hsz
  have hD := hD0.self (sz := s.heap.size)
  generalize hAe : va_A [(h0, .inr (10, [.ref t1, .ref f1, .ref s1, .ref d1, .ref y1, .ref g1, .ref m1, .ref n1, .int 0, .long 0])), (s1, .inr (6, [.ref sf0, .ref sf1, .ref sf2, .ref sf3, .ref sf4, .ref sf5, .ref sf6, .ref sf7, .int 0, .int 0])), (o1, .inl (cyA G 2, 1, .inr (.inl (fun _ => 0))))] s.heap.size = A at hD hE ⊢
  have hA : ∀ q : Nat, s.heap.size ≤ q → A q := fun q h => by rw [← hAe]; exact Or.inr h
  have hS : va_S A s.heap s.heap [] := va_S.rf
  obtain ⟨H, hHe⟩ : ∃ H : Heap, H = s.heap := ⟨_, rfl⟩
  have hP : va_P (DG G) clP1 [(h0, .inr (10, [.ref t1, .ref f1, .ref s1, .ref d1, .ref y1, .ref g1, .ref m1, .ref n1, .int 0, .long 0])), (s1, .inr (6, [.ref sf0, .ref sf1, .ref sf2, .ref sf3, .ref sf4, .ref sf5, .ref sf6, .ref sf7, .int 0, .int 0])), (o1, .inl (cyA G 2, 1, .inr (.inl (fun _ => 0))))] H := by rw [hHe]; exact hP
  have hS : va_S A s.heap H [] := by rw [hHe]; exact hS
  have hl := lv_entry ([.ref h0, .int p0, .ref o1]) (n := 4) (Nat.le_of_ble_eq_true rfl)
  rw [lg_entry_eq, ← hHe]
  generalize (lg_sl ([.ref h0, .int p0, .ref o1]) ++ List.replicate (4 - (lg_sl ([.ref h0, .int p0, .ref o1])).length) Slot.unset).toArray = ls at hl ⊢
  have hl : lv_has ls 4 [(0, .ref h0), (1, .int p0), (2, .ref o1)] := hl
  refine lv_aload_n hx hb dL_dataNode_0 rfl (lv_at hl 2 rfl) ?_
  refine lv_iconst (v := 0) hx hb dL_dataNode_1 (by decide) ?_
  refine lv_aload_n hx hb dL_dataNode_2 rfl (lv_at hl 0 rfl) ?_
  refine lv_iload_n hx hb dL_dataNode_3 rfl (lv_at hl 1 rfl) ?_
  have hFc := va_free (wc := [(h0, .inr (10, [.ref t1, .ref f1, .ref s1, .ref d1, .ref y1, .ref g1, .ref m1, .ref n1, .int 0, .long 0])), (s1, .inr (6, [.ref sf0, .ref sf1, .ref sf2, .ref sf3, .ref sf4, .ref sf5, .ref sf6, .ref sf7, .int 0, .int 0]))]) hD hS hA [0, 1] rfl
  refine vx_calli (vx_runV (As := [.int p0]) (rest := [.int 0, .ref o1]) ⟨hx, hb, hml, hown, hts⟩ (k_X11_dataNode l hfl G h0 p0 t1 f1 s1 d1 y1 g1 m1 n1 sf0 sf1 sf2 sf3 sf4 sf5 sf6 sf7 H.size) (cwV 1 hts (gV wm708 wm709 wm710 wm1 wm711) rfl rfl rfl (by decide +kernel) ⟨Nat.le_of_ble_eq_true rfl, Nat.le_of_ble_eq_true rfl⟩) (pre_v (pre_s hK hP hD hS hE [0, 1] rfl rfl (by decide) hFc) (va_recv hK hP (ci := 10) (q0 := 0) rfl rfl)) rfl rfl hl.1 rfl (lv_room (Nat.le_of_ble_eq_true rfl)) dL_dataNode_4 ⟨Nat.le_of_ble_eq_true rfl, Nat.le_of_ble_eq_true rfl⟩) hS (fun q _ h => hFc q h) hFc (fun q _ h => hFc q h) (fun E ce q9 u t H locs ht hvm hpx hBX hz1 hk1 hS hce hv9 hcl => ?_) (fun r u t H locs ht hvm hw hB hz1 hk1 hS => ?_)
  · have hBX : E = "java/util/NoSuchElementException" := hBX
    subst hBX
    obtain ⟨hP, hD⟩ := va_join (wr := [(o1, .inl (cyA G 2, 1, .inr (.inl (fun _ => 0))))]) (w1 := []) hP hD [0, 1] [2] rfl rfl (by decide) (by decide) hk1 hFc nilP nilD
    refine vx_widen (k := 1) (n := 6) (Nat.le_of_ble_eq_true rfl) (Nat.le_of_ble_eq_true rfl) ?_
    refine vx_catch hown (tableOf []) ⟨0, 9, 12, 35⟩ (tableOf [(0, 9, 15, 15)]) (htab.trans rfl) xP0 (by decide) (by decide) (hts _ wm707) (va_Nw.use rfl (hE.1 _ nw718)) hce hv9 hcl ?_
    refine W.eq (g2 := F0 m 12 ls [.ref q9]) rfl ?_
    have hP : va_P (DG G) clP1 [(o1, .inl (cyA G 2, 1, .inr (.inl (fun _ => 0))))] H := hP
    have hD : va_D A [(o1, .inl (cyA G 2, 1, .inr (.inl (fun _ => 0))))] := hD
    refine lv_astore_n (lv' := [(3, .ref q9), (0, .ref h0), (1, .int p0), (2, .ref o1)]) hx hb dL_dataNode_12 rfl hl (by decide) rfl (fun ls hl => ?_)
    refine lv_iconst (v := 1) hx hb dL_dataNode_13 (by decide) ?_
    have hP9 := hP.sub (ws' := [(o1, .inl (cyA G 2, 1, .inr (.inl (fun _ => 0))))]) [0] rfl
    have hD9 := hD.sub (ws' := [(o1, .inl (cyA G 2, 1, .inr (.inl (fun _ => 0))))]) [0] (by decide) rfl
    refine W.widen (k := 1) (n := 6) (Nat.le_of_ble_eq_true rfl) (Nat.le_of_ble_eq_true rfl) ?_
    exact vx_ret (W.iret (v := 1) hx hb hr (fun t ht hW => ⟨⟨1, (), rfl, rfl, ⟨by rw [ht]; exact hP9, hD9⟩⟩, hS.F ht⟩) hS.2.2 dL_dataNode_14 hlocks)
  · exact hw.elim
set_option maxHeartbeats 4000000 in
set_option maxRecDepth 100000 in
theorem k_L_constructorNode (l : Launch) (hfl : l.stackTraces = false) (G : GC) (h0 : Nat) (p0 : Int32) (o1 : Nat) (t1 : Nat) (f1 : Nat) (s1 : Nat) (d1 : Nat) (y1 : Nat) (g1 : Nat) (m1 : Nat) (n1 : Nat) (sf0 : Nat) (sf1 : Nat) (sf2 : Nat) (sf3 : Nat) (sf4 : Nat) (sf5 : Nat) (sf6 : Nat) (sf7 : Nat) (sz : Nat) : vx_Met l yL_constructorNode (Cond.codeWith yL_constructorNode cL_constructorNode 4 (some .int) [(0, 9, 12, 35), (0, 9, 15, 15)] :: W0) ({ frames := 7, cells := 1, slots := 6, locals := 103 }) (va_Pc [.ref h0, .int p0, .ref o1] (WD G [(h0, .inr (10, [.ref t1, .ref f1, .ref s1, .ref d1, .ref y1, .ref g1, .ref m1, .ref n1, .int 0, .long 0])), (s1, .inr (6, [.ref sf0, .ref sf1, .ref sf2, .ref sf3, .ref sf4, .ref sf5, .ref sf6, .ref sf7, .int 0, .int 0])), (o1, .inl (cyA G 2, 1, .inr (.inl (fun _ => 0))))] sz)) (va_Qi (fun (r : Int32) (_ : Unit) => r = 1) (fun _ t => PW G (va_A [(h0, .inr (10, [.ref t1, .ref f1, .ref s1, .ref d1, .ref y1, .ref g1, .ref m1, .ref n1, .int 0, .long 0])), (s1, .inr (6, [.ref sf0, .ref sf1, .ref sf2, .ref sf3, .ref sf4, .ref sf5, .ref sf6, .ref sf7, .int 0, .int 0])), (o1, .inl (cyA G 2, 1, .inr (.inl (fun _ => 0))))] sz) [(o1, .inl (cyA G 2, 1, .inr (.inl (fun _ => 0))))] t) (va_A [(h0, .inr (10, [.ref t1, .ref f1, .ref s1, .ref d1, .ref y1, .ref g1, .ref m1, .ref n1, .int 0, .long 0])), (s1, .inr (6, [.ref sf0, .ref sf1, .ref sf2, .ref sf3, .ref sf4, .ref sf5, .ref sf6, .ref sf7, .int 0, .int 0])), (o1, .inl (cyA G 2, 1, .inr (.inl (fun _ => 0))))] sz)) (vx_X (fun _ : Unit => False) (fun (_ : String) (_ : Unit) (_ : State) => True) (va_A [(h0, .inr (10, [.ref t1, .ref f1, .ref s1, .ref d1, .ref y1, .ref g1, .ref m1, .ref n1, .int 0, .long 0])), (s1, .inr (6, [.ref sf0, .ref sf1, .ref sf2, .ref sf3, .ref sf4, .ref sf5, .ref sf6, .ref sf7, .int 0, .int 0])), (o1, .inl (cyA G 2, 1, .inr (.inl (fun _ => 0))))] sz)) 1 6 (va_A [(h0, .inr (10, [.ref t1, .ref f1, .ref s1, .ref d1, .ref y1, .ref g1, .ref m1, .ref n1, .int 0, .long 0])), (s1, .inr (6, [.ref sf0, .ref sf1, .ref sf2, .ref sf3, .ref sf4, .ref sf5, .ref sf6, .ref sf7, .int 0, .int 0])), (o1, .inl (cyA G 2, 1, .inr (.inl (fun _ => 0))))] sz) := by
  refine vx_ofWH (cc := cL_constructorNode) (maxL := 4) (ret := (some .int)) (hh := [(0, 9, 12, 35), (0, 9, 15, 15)]) (by decide) rfl ?_
  intro p e s m args below meth c s₁ B hml hv
  obtain ⟨rfl, hsz, hP, hK, hD0, hE⟩ := hv
  have hx := B.exec
  have hb := B.bytes
  have hr := B.returns
  have hts := w0_tail B.pre
  have hown : s.vm.findClass RL = some m.cls := findClass_of_methodNamed B.named
  have hlocks := B.notSynchronized
  have htab := vx_table (x := yL_constructorNode) B (hts _ wm734)
  subst hsz
  have hD := hD0.self (sz := s.heap.size)
  generalize hAe : va_A [(h0, .inr (10, [.ref t1, .ref f1, .ref s1, .ref d1, .ref y1, .ref g1, .ref m1, .ref n1, .int 0, .long 0])), (s1, .inr (6, [.ref sf0, .ref sf1, .ref sf2, .ref sf3, .ref sf4, .ref sf5, .ref sf6, .ref sf7, .int 0, .int 0])), (o1, .inl (cyA G 2, 1, .inr (.inl (fun _ => 0))))] s.heap.size = A at hD hE ⊢
  have hA : ∀ q : Nat, s.heap.size ≤ q → A q := fun q h => by rw [← hAe]; exact Or.inr h
  have hS : va_S A s.heap s.heap [] := va_S.rf
  obtain ⟨H, hHe⟩ : ∃ H : Heap, H = s.heap := ⟨_, rfl⟩
  have hP : va_P (DG G) clP1 [(h0, .inr (10, [.ref t1, .ref f1, .ref s1, .ref d1, .ref y1, .ref g1, .ref m1, .ref n1, .int 0, .long 0])), (s1, .inr (6, [.ref sf0, .ref sf1, .ref sf2, .ref sf3, .ref sf4, .ref sf5, .ref sf6, .ref sf7, .int 0, .int 0])), (o1, .inl (cyA G 2, 1, .inr (.inl (fun _ => 0))))] H := by rw [hHe]; exact hP
  have hS : va_S A s.heap H [] := by rw [hHe]; exact hS
  have hl := lv_entry ([.ref h0, .int p0, .ref o1]) (n := 4) (Nat.le_of_ble_eq_true rfl)
  rw [lg_entry_eq, ← hHe]
  generalize (lg_sl ([.ref h0, .int p0, .ref o1]) ++ List.replicate (4 - (lg_sl ([.ref h0, .int p0, .ref o1])).length) Slot.unset).toArray = ls at hl ⊢
  have hl : lv_has ls 4 [(0, .ref h0), (1, .int p0), (2, .ref o1)] := hl
  refine lv_aload_n hx hb dL_constructorNode_0 rfl (lv_at hl 2 rfl) ?_
  refine lv_iconst (v := 0) hx hb dL_constructorNode_1 (by decide) ?_
  refine lv_aload_n hx hb dL_constructorNode_2 rfl (lv_at hl 0 rfl) ?_
  refine lv_iload_n hx hb dL_constructorNode_3 rfl (lv_at hl 1 rfl) ?_
  have hFc := va_free (wc := [(h0, .inr (10, [.ref t1, .ref f1, .ref s1, .ref d1, .ref y1, .ref g1, .ref m1, .ref n1, .int 0, .long 0])), (s1, .inr (6, [.ref sf0, .ref sf1, .ref sf2, .ref sf3, .ref sf4, .ref sf5, .ref sf6, .ref sf7, .int 0, .int 0]))]) hD hS hA [0, 1] rfl
  refine vx_calli (vx_runV (As := [.int p0]) (rest := [.int 0, .ref o1]) ⟨hx, hb, hml, hown, hts⟩ (k_X11_constructorNode l hfl G h0 p0 t1 f1 s1 d1 y1 g1 m1 n1 sf0 sf1 sf2 sf3 sf4 sf5 sf6 sf7 H.size) (cwV 1 hts (gV wm735 wm736 wm737 wm1 wm738) rfl rfl rfl (by decide +kernel) ⟨Nat.le_of_ble_eq_true rfl, Nat.le_of_ble_eq_true rfl⟩) (pre_v (pre_s hK hP hD hS hE [0, 1] rfl rfl (by decide) hFc) (va_recv hK hP (ci := 10) (q0 := 0) rfl rfl)) rfl rfl hl.1 rfl (lv_room (Nat.le_of_ble_eq_true rfl)) dL_constructorNode_4 ⟨Nat.le_of_ble_eq_true rfl, Nat.le_of_ble_eq_true rfl⟩) hS (fun q _ h => hFc q h) hFc (fun q _ h => hFc q h) (fun E ce q9 u t H locs ht hvm hpx hBX hz1 hk1 hS hce hv9 hcl => ?_) (fun r u t H locs ht hvm hw hB hz1 hk1 hS => ?_)
  · have hBX : E = "java/util/NoSuchElementException" := hBX
    subst hBX
    obtain ⟨hP, hD⟩ := va_join (wr := [(o1, .inl (cyA G 2, 1, .inr (.inl (fun _ => 0))))]) (w1 := []) hP hD [0, 1] [2] rfl rfl (by decide) (by decide) hk1 hFc nilP nilD
    refine vx_widen (k := 1) (n := 6) (Nat.le_of_ble_eq_true rfl) (Nat.le_of_ble_eq_true rfl) ?_
    refine vx_catch hown (tableOf []) ⟨0, 9, 12, 35⟩ (tableOf [(0, 9, 15, 15)]) (htab.trans rfl) xP0 (by decide) (by decide) (hts _ wm707) (va_Nw.use rfl (hE.1 _ nw718)) hce hv9 hcl ?_
    refine W.eq (g2 := F0 m 12 ls [.ref q9]) rfl ?_
    have hP : va_P (DG G) clP1 [(o1, .inl (cyA G 2, 1, .inr (.inl (fun _ => 0))))] H := hP
    have hD : va_D A [(o1, .inl (cyA G 2, 1, .inr (.inl (fun _ => 0))))] := hD
    refine lv_astore_n (lv' := [(3, .ref q9), (0, .ref h0), (1, .int p0), (2, .ref o1)]) hx hb dL_constructorNode_12 rfl hl (by decide) rfl (fun ls hl => ?_)
    refine lv_iconst (v := 1) hx hb dL_constructorNode_13 (by decide) ?_
    have hP9 := hP.sub (ws' := [(o1, .inl (cyA G 2, 1, .inr (.inl (fun _ => 0))))]) [0] rfl
    have hD9 := hD.sub (ws' := [(o1, .inl (cyA G 2, 1, .inr (.inl (fun _ => 0))))]) [0] (by decide) rfl
    refine W.widen (k := 1) (n := 6) (Nat.le_of_ble_eq_true rfl) (Nat.le_of_ble_eq_true rfl) ?_
    exact vx_ret (W.iret (v := 1) hx hb hr (fun t ht hW => ⟨⟨1, (), rfl, rfl, ⟨by rw [ht]; exact hP9, hD9⟩⟩, hS.F ht⟩) hS.2.2 dL_constructorNode_14 hlocks)
  · exact hw.elim
set_option maxHeartbeats 4000000 in
set_option maxRecDepth 100000 in
theorem k_L_functionNode (l : Launch) (hfl : l.stackTraces = false) (G : GC) (h0 : Nat) (p0 : Int32) (o1 : Nat) (t1 : Nat) (f1 : Nat) (s1 : Nat) (d1 : Nat) (y1 : Nat) (g1 : Nat) (m1 : Nat) (n1 : Nat) (df0 : Nat) (df1 : Nat) (df2 : Nat) (df3 : Nat) (df4 : Nat) (sz : Nat) : vx_Met l yL_functionNode (Cond.codeWith yL_functionNode cL_functionNode 4 (some .int) [(0, 9, 12, 35), (0, 9, 15, 15)] :: W0) ({ frames := 8, cells := 1, slots := 6, locals := 125 }) (va_Pc [.ref h0, .int p0, .ref o1] (WD G [(h0, .inr (10, [.ref t1, .ref f1, .ref s1, .ref d1, .ref y1, .ref g1, .ref m1, .ref n1, .int 0, .long 0])), (d1, .inr (2, [.ref df0, .ref df1, .ref df2, .ref df3, .ref df4, .int 0, .int 0, .int 0])), (o1, .inl (cyA G 2, 1, .inr (.inl (fun _ => 0))))] sz)) (va_Qi (fun (r : Int32) (_ : Unit) => r = 1) (fun _ t => PW G (va_A [(h0, .inr (10, [.ref t1, .ref f1, .ref s1, .ref d1, .ref y1, .ref g1, .ref m1, .ref n1, .int 0, .long 0])), (d1, .inr (2, [.ref df0, .ref df1, .ref df2, .ref df3, .ref df4, .int 0, .int 0, .int 0])), (o1, .inl (cyA G 2, 1, .inr (.inl (fun _ => 0))))] sz) [(o1, .inl (cyA G 2, 1, .inr (.inl (fun _ => 0))))] t) (va_A [(h0, .inr (10, [.ref t1, .ref f1, .ref s1, .ref d1, .ref y1, .ref g1, .ref m1, .ref n1, .int 0, .long 0])), (d1, .inr (2, [.ref df0, .ref df1, .ref df2, .ref df3, .ref df4, .int 0, .int 0, .int 0])), (o1, .inl (cyA G 2, 1, .inr (.inl (fun _ => 0))))] sz)) (vx_X (fun _ : Unit => False) (fun (_ : String) (_ : Unit) (_ : State) => True) (va_A [(h0, .inr (10, [.ref t1, .ref f1, .ref s1, .ref d1, .ref y1, .ref g1, .ref m1, .ref n1, .int 0, .long 0])), (d1, .inr (2, [.ref df0, .ref df1, .ref df2, .ref df3, .ref df4, .int 0, .int 0, .int 0])), (o1, .inl (cyA G 2, 1, .inr (.inl (fun _ => 0))))] sz)) 1 6 (va_A [(h0, .inr (10, [.ref t1, .ref f1, .ref s1, .ref d1, .ref y1, .ref g1, .ref m1, .ref n1, .int 0, .long 0])), (d1, .inr (2, [.ref df0, .ref df1, .ref df2, .ref df3, .ref df4, .int 0, .int 0, .int 0])), (o1, .inl (cyA G 2, 1, .inr (.inl (fun _ => 0))))] sz) := by
  refine vx_ofWH (cc := cL_functionNode) (maxL := 4) (ret := (some .int)) (hh := [(0, 9, 12, 35), (0, 9, 15, 15)]) (by decide) rfl ?_
  intro p e s m args below meth c s₁ B hml hv
  obtain ⟨rfl, hsz, hP, hK, hD0, hE⟩ := hv
  have hx := B.exec
  have hb := B.bytes
  have hr := B.returns
  have hts := w0_tail B.pre
  have hown : s.vm.findClass RL = some m.cls := findClass_of_methodNamed B.named
  have hlocks := B.notSynchronized
  have htab := vx_table (x := yL_functionNode) B (hts _ wm743)
  subst hsz
  have hD := hD0.self (sz := s.heap.size)
  generalize hAe : va_A [(h0, .inr (10, [.ref t1, .ref f1, .ref s1, .ref d1, .ref y1, .ref g1, .ref m1, .ref n1, .int 0, .long 0])), (d1, .inr (2, [.ref df0, .ref df1, .ref df2, .ref df3, .ref df4, .int 0, .int 0, .int 0])), (o1, .inl (cyA G 2, 1, .inr (.inl (fun _ => 0))))] s.heap.size = A at hD hE ⊢
  have hA : ∀ q : Nat, s.heap.size ≤ q → A q := fun q h => by rw [← hAe]; exact Or.inr h
  have hS : va_S A s.heap s.heap [] := va_S.rf
  obtain ⟨H, hHe⟩ : ∃ H : Heap, H = s.heap := ⟨_, rfl⟩
  have hP : va_P (DG G) clP1 [(h0, .inr (10, [.ref t1, .ref f1, .ref s1, .ref d1, .ref y1, .ref g1, .ref m1, .ref n1, .int 0, .long 0])), (d1, .inr (2, [.ref df0, .ref df1, .ref df2, .ref df3, .ref df4, .int 0, .int 0, .int 0])), (o1, .inl (cyA G 2, 1, .inr (.inl (fun _ => 0))))] H := by rw [hHe]; exact hP
  have hS : va_S A s.heap H [] := by rw [hHe]; exact hS
  have hl := lv_entry ([.ref h0, .int p0, .ref o1]) (n := 4) (Nat.le_of_ble_eq_true rfl)
  rw [lg_entry_eq, ← hHe]
  generalize (lg_sl ([.ref h0, .int p0, .ref o1]) ++ List.replicate (4 - (lg_sl ([.ref h0, .int p0, .ref o1])).length) Slot.unset).toArray = ls at hl ⊢
  have hl : lv_has ls 4 [(0, .ref h0), (1, .int p0), (2, .ref o1)] := hl
  refine lv_aload_n hx hb dL_functionNode_0 rfl (lv_at hl 2 rfl) ?_
  refine lv_iconst (v := 0) hx hb dL_functionNode_1 (by decide) ?_
  refine lv_aload_n hx hb dL_functionNode_2 rfl (lv_at hl 0 rfl) ?_
  refine lv_iload_n hx hb dL_functionNode_3 rfl (lv_at hl 1 rfl) ?_
  have hFc := va_free (wc := [(h0, .inr (10, [.ref t1, .ref f1, .ref s1, .ref d1, .ref y1, .ref g1, .ref m1, .ref n1, .int 0, .long 0])), (d1, .inr (2, [.ref df0, .ref df1, .ref df2, .ref df3, .ref df4, .int 0, .int 0, .int 0]))]) hD hS hA [0, 1] rfl
  refine vx_calli (vx_runV (As := [.int p0]) (rest := [.int 0, .ref o1]) ⟨hx, hb, hml, hown, hts⟩ (k_X11_functionNode l hfl G h0 p0 t1 f1 s1 d1 y1 g1 m1 n1 df0 df1 df2 df3 df4 H.size) (cwV 1 hts (gV wm744 wm745 wm746 wm1 wm747) rfl rfl rfl (by decide +kernel) ⟨Nat.le_of_ble_eq_true rfl, Nat.le_of_ble_eq_true rfl⟩) (pre_v (pre_s hK hP hD hS hE [0, 1] rfl rfl (by decide) hFc) (va_recv hK hP (ci := 10) (q0 := 0) rfl rfl)) rfl rfl hl.1 rfl (lv_room (Nat.le_of_ble_eq_true rfl)) dL_functionNode_4 ⟨Nat.le_of_ble_eq_true rfl, Nat.le_of_ble_eq_true rfl⟩) hS (fun q _ h => hFc q h) hFc (fun q _ h => hFc q h) (fun E ce q9 u t H locs ht hvm hpx hBX hz1 hk1 hS hce hv9 hcl => ?_) (fun r u t H locs ht hvm hw hB hz1 hk1 hS => ?_)
  · have hBX : E = "java/util/NoSuchElementException" := hBX
    subst hBX
    obtain ⟨hP, hD⟩ := va_join (wr := [(o1, .inl (cyA G 2, 1, .inr (.inl (fun _ => 0))))]) (w1 := []) hP hD [0, 1] [2] rfl rfl (by decide) (by decide) hk1 hFc nilP nilD
    refine vx_widen (k := 1) (n := 6) (Nat.le_of_ble_eq_true rfl) (Nat.le_of_ble_eq_true rfl) ?_
    refine vx_catch hown (tableOf []) ⟨0, 9, 12, 35⟩ (tableOf [(0, 9, 15, 15)]) (htab.trans rfl) xP0 (by decide) (by decide) (hts _ wm707) (va_Nw.use rfl (hE.1 _ nw718)) hce hv9 hcl ?_
    refine W.eq (g2 := F0 m 12 ls [.ref q9]) rfl ?_
    have hP : va_P (DG G) clP1 [(o1, .inl (cyA G 2, 1, .inr (.inl (fun _ => 0))))] H := hP
    have hD : va_D A [(o1, .inl (cyA G 2, 1, .inr (.inl (fun _ => 0))))] := hD
    refine lv_astore_n (lv' := [(3, .ref q9), (0, .ref h0), (1, .int p0), (2, .ref o1)]) hx hb dL_functionNode_12 rfl hl (by decide) rfl (fun ls hl => ?_)
    refine lv_iconst (v := 1) hx hb dL_functionNode_13 (by decide) ?_
    have hP9 := hP.sub (ws' := [(o1, .inl (cyA G 2, 1, .inr (.inl (fun _ => 0))))]) [0] rfl
    have hD9 := hD.sub (ws' := [(o1, .inl (cyA G 2, 1, .inr (.inl (fun _ => 0))))]) [0] (by decide) rfl
    refine W.widen (k := 1) (n := 6) (Nat.le_of_ble_eq_true rfl) (Nat.le_of_ble_eq_true rfl) ?_
    exact vx_ret (W.iret (v := 1) hx hb hr (fun t ht hW => ⟨⟨1, (), rfl, rfl, ⟨by rw [ht]; exact hP9, hD9⟩⟩, hS.F ht⟩) hS.2.2 dL_functionNode_14 hlocks)
  · exact hw.elim
set_option maxHeartbeats 4000000 in
set_option maxRecDepth 100000 in
theorem k_L_addData (l : Launch) (hfl : l.stackTraces = false) (G : GC) (h0 : Nat) (o1 : Nat) (t1 : Nat) (f1 : Nat) (s1 : Nat) (d1 : Nat) (y1 : Nat) (g1 : Nat) (m1 : Nat) (n1 : Nat) (sf0 : Nat) (sf1 : Nat) (sf2 : Nat) (sf3 : Nat) (sf4 : Nat) (sf5 : Nat) (sf6 : Nat) (sf7 : Nat) (sz : Nat) : vx_Met l yL_addData (Cond.codeWith yL_addData cL_addData 3 (some .int) [(0, 8, 11, 15)] :: W0) ({ frames := 2, cells := 0, slots := 0, locals := 40 }) (va_Pc [.ref h0, .ref o1] (WD G [(h0, .inr (10, [.ref t1, .ref f1, .ref s1, .ref d1, .ref y1, .ref g1, .ref m1, .ref n1, .int 0, .long 0])), (s1, .inr (6, [.ref sf0, .ref sf1, .ref sf2, .ref sf3, .ref sf4, .ref sf5, .ref sf6, .ref sf7, .int 0, .int 0])), (o1, .inl (cyA G 2, 1, .inr (.inl (fun _ => 0))))] sz)) (va_Qi (fun (r : Int32) (_ : Unit) => r = 0) (fun _ t => PW G (va_A [(h0, .inr (10, [.ref t1, .ref f1, .ref s1, .ref d1, .ref y1, .ref g1, .ref m1, .ref n1, .int 0, .long 0])), (s1, .inr (6, [.ref sf0, .ref sf1, .ref sf2, .ref sf3, .ref sf4, .ref sf5, .ref sf6, .ref sf7, .int 0, .int 0])), (o1, .inl (cyA G 2, 1, .inr (.inl (fun _ => 0))))] sz) [(o1, .inl (cyA G 2, 1, .inr (.inl (vp_updL (fun _ => 0) (Int32.toNatClampNeg 0) 0))))] t) (va_A [(h0, .inr (10, [.ref t1, .ref f1, .ref s1, .ref d1, .ref y1, .ref g1, .ref m1, .ref n1, .int 0, .long 0])), (s1, .inr (6, [.ref sf0, .ref sf1, .ref sf2, .ref sf3, .ref sf4, .ref sf5, .ref sf6, .ref sf7, .int 0, .int 0])), (o1, .inl (cyA G 2, 1, .inr (.inl (fun _ => 0))))] sz)) (vx_X (fun _ : Unit => False) (fun (_ : String) (_ : Unit) (_ : State) => True) (va_A [(h0, .inr (10, [.ref t1, .ref f1, .ref s1, .ref d1, .ref y1, .ref g1, .ref m1, .ref n1, .int 0, .long 0])), (s1, .inr (6, [.ref sf0, .ref sf1, .ref sf2, .ref sf3, .ref sf4, .ref sf5, .ref sf6, .ref sf7, .int 0, .int 0])), (o1, .inl (cyA G 2, 1, .inr (.inl (fun _ => 0))))] sz)) 0 0 (va_A [(h0, .inr (10, [.ref t1, .ref f1, .ref s1, .ref d1, .ref y1, .ref g1, .ref m1, .ref n1, .int 0, .long 0])), (s1, .inr (6, [.ref sf0, .ref sf1, .ref sf2, .ref sf3, .ref sf4, .ref sf5, .ref sf6, .ref sf7, .int 0, .int 0])), (o1, .inl (cyA G 2, 1, .inr (.inl (fun _ => 0))))] sz) := by
  refine vx_ofWH (cc := cL_addData) (maxL := 3) (ret := (some .int)) (hh := [(0, 8, 11, 15)]) (by decide) rfl ?_
  intro p e s m args below meth c s₁ B hml hv
  obtain ⟨rfl, hsz, hP, hK, hD0, hE⟩ := hv
  have hx := B.exec
  have hb := B.bytes
  have hr := B.returns
  have hts := w0_tail B.pre
  have hown : s.vm.findClass RL = some m.cls := findClass_of_methodNamed B.named
  have hlocks := B.notSynchronized
  have htab := vx_table (x := yL_addData) B (hts _ wm756)
  subst hsz
  have hD := hD0.self (sz := s.heap.size)
  generalize hAe : va_A [(h0, .inr (10, [.ref t1, .ref f1, .ref s1, .ref d1, .ref y1, .ref g1, .ref m1, .ref n1, .int 0, .long 0])), (s1, .inr (6, [.ref sf0, .ref sf1, .ref sf2, .ref sf3, .ref sf4, .ref sf5, .ref sf6, .ref sf7, .int 0, .int 0])), (o1, .inl (cyA G 2, 1, .inr (.inl (fun _ => 0))))] s.heap.size = A at hD hE ⊢
  have hA : ∀ q : Nat, s.heap.size ≤ q → A q := fun q h => by rw [← hAe]; exact Or.inr h
  have hS : va_S A s.heap s.heap [] := va_S.rf
  obtain ⟨H, hHe⟩ : ∃ H : Heap, H = s.heap := ⟨_, rfl⟩
  have hP : va_P (DG G) clP1 [(h0, .inr (10, [.ref t1, .ref f1, .ref s1, .ref d1, .ref y1, .ref g1, .ref m1, .ref n1, .int 0, .long 0])), (s1, .inr (6, [.ref sf0, .ref sf1, .ref sf2, .ref sf3, .ref sf4, .ref sf5, .ref sf6, .ref sf7, .int 0, .int 0])), (o1, .inl (cyA G 2, 1, .inr (.inl (fun _ => 0))))] H := by rw [hHe]; exact hP
  have hS : va_S A s.heap H [] := by rw [hHe]; exact hS
  have hl := lv_entry ([.ref h0, .ref o1]) (n := 3) (Nat.le_of_ble_eq_true rfl)
  rw [lg_entry_eq, ← hHe]
  generalize (lg_sl ([.ref h0, .ref o1]) ++ List.replicate (3 - (lg_sl ([.ref h0, .ref o1])).length) Slot.unset).toArray = ls at hl ⊢
  have hl : lv_has ls 3 [(0, .ref h0), (1, .ref o1)] := hl
  refine lv_aload_n hx hb dL_addData_0 rfl (lv_at hl 1 rfl) ?_
  refine lv_iconst (v := 0) hx hb dL_addData_1 (by decide) ?_
  refine lv_aload_n hx hb dL_addData_2 rfl (lv_at hl 0 rfl) ?_
  have hFc := va_free (wc := [(h0, .inr (10, [.ref t1, .ref f1, .ref s1, .ref d1, .ref y1, .ref g1, .ref m1, .ref n1, .int 0, .long 0])), (s1, .inr (6, [.ref sf0, .ref sf1, .ref sf2, .ref sf3, .ref sf4, .ref sf5, .ref sf6, .ref sf7, .int 0, .int 0]))]) hD hS hA [0, 1] rfl
  refine va_calli (va_runV (As := []) (rest := [.int 0, .ref o1]) ⟨hx, hb, hml, hown, hts⟩ (k_X11_addData l hfl G h0 t1 f1 s1 d1 y1 g1 m1 n1 sf0 sf1 sf2 sf3 sf4 sf5 sf6 sf7 H.size) (cwV 0 hts (gV wm757 wm758 wm759 wm1 wm760) rfl rfl rfl (by decide +kernel) ⟨Nat.le_of_ble_eq_true rfl, Nat.le_of_ble_eq_true rfl⟩) (pre_v (pre_s hK hP hD hS hE [0, 1] rfl rfl (by decide) hFc) (va_recv hK hP (ci := 10) (q0 := 0) rfl rfl)) rfl rfl hl.1 rfl (lv_room (Nat.le_of_ble_eq_true rfl)) dL_addData_3 ⟨Nat.le_of_ble_eq_true rfl, Nat.le_of_ble_eq_true rfl⟩) hS (fun q _ h => hFc q h) hFc (fun r u t H locs ht hvm hw hB hz1 hk1 hS => ?_)
  obtain rfl : r = 0 := hw
  obtain ⟨hP1, hD1⟩ := hB
  rw [ht] at hP1
  obtain ⟨hP, hD⟩ := va_join (wr := [(o1, .inl (cyA G 2, 1, .inr (.inl (fun _ => 0))))]) (w1 := []) hP hD [0, 1] [2] rfl rfl (by decide) (by decide) hk1 hFc hP1 hD1
  have hP : va_P (DG G) clP1 [(o1, .inl (cyA G 2, 1, .inr (.inl (fun _ => 0))))] H := hP
  have hD : va_D A [(o1, .inl (cyA G 2, 1, .inr (.inl (fun _ => 0))))] := hD
  refine W.widen (k := 0) (n := 0) (Nat.le_of_ble_eq_true rfl) (Nat.le_of_ble_eq_true rfl) ?_
  refine lv_i2l (v := 0) hx hb dL_addData_6 (by decide) ?_
  refine va_last hx hb hK hP hD hS 0 2 rfl rfl (show ¬ ((0 : Int32) < 0 ∨ 1 ≤ Int32.toNatClampNeg 0) from by decide) dL_addData_7 (fun H locs hP hD hS => ?_)
  have hP : va_P (DG G) clP1 [(o1, .inl (cyA G 2, 1, .inr (.inl (vp_updL (fun _ => 0) (Int32.toNatClampNeg 0) 0))))] H := hP
  have hD : va_D A [(o1, .inl (cyA G 2, 1, .inr (.inl (vp_updL (fun _ => 0) (Int32.toNatClampNeg 0) 0))))] := hD
  refine lv_goto (tgt := 14) hx hb dL_addData_8 (by decide) ?_
  refine lv_iconst (v := 0) hx hb dL_addData_14 (by decide) ?_
  have hP9 := hP.sub (ws' := [(o1, .inl (cyA G 2, 1, .inr (.inl (vp_updL (fun _ => 0) (Int32.toNatClampNeg 0) 0))))]) [0] rfl
  have hD9 := hD.sub (ws' := [(o1, .inl (cyA G 2, 1, .inr (.inl (vp_updL (fun _ => 0) (Int32.toNatClampNeg 0) 0))))]) [0] (by decide) rfl
  refine W.widen (k := 0) (n := 0) (Nat.le_of_ble_eq_true rfl) (Nat.le_of_ble_eq_true rfl) ?_
  exact vx_ret (W.iret (v := 0) hx hb hr (fun t ht hW => ⟨⟨0, (), rfl, rfl, ⟨by rw [ht]; exact hP9, hD9⟩⟩, hS.F ht⟩) hS.2.2 dL_addData_15 hlocks)
set_option maxHeartbeats 4000000 in
set_option maxRecDepth 100000 in
theorem k_L_addConstructor (l : Launch) (hfl : l.stackTraces = false) (G : GC) (h0 : Nat) (p0 : Int32) (p1 : Int32) (p2 : Int32) (p3 : Int32) (p4 : Int32) (o1 : Nat) (t1 : Nat) (f1 : Nat) (s1 : Nat) (d1 : Nat) (y1 : Nat) (g1 : Nat) (m1 : Nat) (n1 : Nat) (sf0 : Nat) (sf1 : Nat) (sf2 : Nat) (sf3 : Nat) (sf4 : Nat) (sf5 : Nat) (sf6 : Nat) (sf7 : Nat) (sz : Nat) : vx_Met l yL_addConstructor (Cond.codeWith yL_addConstructor cL_addConstructor 8 (some .int) [(0, 16, 19, 13), (0, 16, 23, 35), (0, 16, 27, 15)] :: W0) ({ frames := 7, cells := 1, slots := 6, locals := 108 }) (va_Pc [.ref h0, .int p0, .int p1, .int p2, .int p3, .int p4, .ref o1] (WD G [(h0, .inr (10, [.ref t1, .ref f1, .ref s1, .ref d1, .ref y1, .ref g1, .ref m1, .ref n1, .int 0, .long 0])), (s1, .inr (6, [.ref sf0, .ref sf1, .ref sf2, .ref sf3, .ref sf4, .ref sf5, .ref sf6, .ref sf7, .int 0, .int 0])), (o1, .inl (cyA G 2, 1, .inr (.inl (fun _ => 0))))] sz)) (va_Qi (fun (r : Int32) (u : Nat) => (u = 0 ∧ r = 1 ∧ (p1.toInt ≤ (-1) ∨ 4 ≤ p1.toInt)) ∨ (u = 1 ∧ r = 2 ∧ ((0 ≤ p1.toInt ∧ p1.toInt ≤ 3)))) (fun (u : Nat) t => (u = 0 → PW G (va_A [(h0, .inr (10, [.ref t1, .ref f1, .ref s1, .ref d1, .ref y1, .ref g1, .ref m1, .ref n1, .int 0, .long 0])), (s1, .inr (6, [.ref sf0, .ref sf1, .ref sf2, .ref sf3, .ref sf4, .ref sf5, .ref sf6, .ref sf7, .int 0, .int 0])), (o1, .inl (cyA G 2, 1, .inr (.inl (fun _ => 0))))] sz) [(o1, .inl (cyA G 2, 1, .inr (.inl (fun _ => 0))))] t) ∧ (u = 1 → PW G (va_A [(h0, .inr (10, [.ref t1, .ref f1, .ref s1, .ref d1, .ref y1, .ref g1, .ref m1, .ref n1, .int 0, .long 0])), (s1, .inr (6, [.ref sf0, .ref sf1, .ref sf2, .ref sf3, .ref sf4, .ref sf5, .ref sf6, .ref sf7, .int 0, .int 0])), (o1, .inl (cyA G 2, 1, .inr (.inl (fun _ => 0))))] sz) [(o1, .inl (cyA G 2, 1, .inr (.inl (fun _ => 0))))] t)) (va_A [(h0, .inr (10, [.ref t1, .ref f1, .ref s1, .ref d1, .ref y1, .ref g1, .ref m1, .ref n1, .int 0, .long 0])), (s1, .inr (6, [.ref sf0, .ref sf1, .ref sf2, .ref sf3, .ref sf4, .ref sf5, .ref sf6, .ref sf7, .int 0, .int 0])), (o1, .inl (cyA G 2, 1, .inr (.inl (fun _ => 0))))] sz)) (vx_X (fun _ : Unit => False) (fun (_ : String) (_ : Unit) (_ : State) => True) (va_A [(h0, .inr (10, [.ref t1, .ref f1, .ref s1, .ref d1, .ref y1, .ref g1, .ref m1, .ref n1, .int 0, .long 0])), (s1, .inr (6, [.ref sf0, .ref sf1, .ref sf2, .ref sf3, .ref sf4, .ref sf5, .ref sf6, .ref sf7, .int 0, .int 0])), (o1, .inl (cyA G 2, 1, .inr (.inl (fun _ => 0))))] sz)) 1 6 (va_A [(h0, .inr (10, [.ref t1, .ref f1, .ref s1, .ref d1, .ref y1, .ref g1, .ref m1, .ref n1, .int 0, .long 0])), (s1, .inr (6, [.ref sf0, .ref sf1, .ref sf2, .ref sf3, .ref sf4, .ref sf5, .ref sf6, .ref sf7, .int 0, .int 0])), (o1, .inl (cyA G 2, 1, .inr (.inl (fun _ => 0))))] sz) := by
  refine vx_ofWH (cc := cL_addConstructor) (maxL := 8) (ret := (some .int)) (hh := [(0, 16, 19, 13), (0, 16, 23, 35), (0, 16, 27, 15)]) (by decide) rfl ?_
  intro p e s m args below meth c s₁ B hml hv
  obtain ⟨rfl, hsz, hP, hK, hD0, hE⟩ := hv
  have hx := B.exec
  have hb := B.bytes
  have hr := B.returns
  have hts := w0_tail B.pre
  have hown : s.vm.findClass RL = some m.cls := findClass_of_methodNamed B.named
  have hlocks := B.notSynchronized
  have htab := vx_table (x := yL_addConstructor) B (hts _ wm768)
  subst hsz
  have hD := hD0.self (sz := s.heap.size)
  generalize hAe : va_A [(h0, .inr (10, [.ref t1, .ref f1, .ref s1, .ref d1, .ref y1, .ref g1, .ref m1, .ref n1, .int 0, .long 0])), (s1, .inr (6, [.ref sf0, .ref sf1, .ref sf2, .ref sf3, .ref sf4, .ref sf5, .ref sf6, .ref sf7, .int 0, .int 0])), (o1, .inl (cyA G 2, 1, .inr (.inl (fun _ => 0))))] s.heap.size = A at hD hE ⊢
  have hA : ∀ q : Nat, s.heap.size ≤ q → A q := fun q h => by rw [← hAe]; exact Or.inr h
  have hS : va_S A s.heap s.heap [] := va_S.rf
  obtain ⟨H, hHe⟩ : ∃ H : Heap, H = s.heap := ⟨_, rfl⟩
  have hP : va_P (DG G) clP1 [(h0, .inr (10, [.ref t1, .ref f1, .ref s1, .ref d1, .ref y1, .ref g1, .ref m1, .ref n1, .int 0, .long 0])), (s1, .inr (6, [.ref sf0, .ref sf1, .ref sf2, .ref sf3, .ref sf4, .ref sf5, .ref sf6, .ref sf7, .int 0, .int 0])), (o1, .inl (cyA G 2, 1, .inr (.inl (fun _ => 0))))] H := by rw [hHe]; exact hP
  have hS : va_S A s.heap H [] := by rw [hHe]; exact hS
  have hl := lv_entry ([.ref h0, .int p0, .int p1, .int p2, .int p3, .int p4, .ref o1]) (n := 8) (Nat.le_of_ble_eq_true rfl)
  rw [lg_entry_eq, ← hHe]
  generalize (lg_sl ([.ref h0, .int p0, .int p1, .int p2, .int p3, .int p4, .ref o1]) ++ List.replicate (8 - (lg_sl ([.ref h0, .int p0, .int p1, .int p2, .int p3, .int p4, .ref o1])).length) Slot.unset).toArray = ls at hl ⊢
  have hl : lv_has ls 8 [(0, .ref h0), (1, .int p0), (2, .int p1), (3, .int p2), (4, .int p3), (5, .int p4), (6, .ref o1)] := hl
  refine lv_aload hx hb dL_addConstructor_0 (lv_at hl 6 rfl) ?_
  refine lv_iconst (v := 0) hx hb dL_addConstructor_2 (by decide) ?_
  refine lv_aload_n hx hb dL_addConstructor_3 rfl (lv_at hl 0 rfl) ?_
  refine lv_iload_n hx hb dL_addConstructor_4 rfl (lv_at hl 1 rfl) ?_
  refine lv_iload_n hx hb dL_addConstructor_5 rfl (lv_at hl 2 rfl) ?_
  refine lv_iload_n hx hb dL_addConstructor_6 rfl (lv_at hl 3 rfl) ?_
  refine lv_iload hx hb dL_addConstructor_7 (lv_at hl 4 rfl) ?_
  refine lv_iload hx hb dL_addConstructor_9 (lv_at hl 5 rfl) ?_
  have hFc := va_free (wc := [(h0, .inr (10, [.ref t1, .ref f1, .ref s1, .ref d1, .ref y1, .ref g1, .ref m1, .ref n1, .int 0, .long 0])), (s1, .inr (6, [.ref sf0, .ref sf1, .ref sf2, .ref sf3, .ref sf4, .ref sf5, .ref sf6, .ref sf7, .int 0, .int 0]))]) hD hS hA [0, 1] rfl
  refine vx_calli (vx_runV (As := [.int p0, .int p1, .int p2, .int p3, .int p4]) (rest := [.int 0, .ref o1]) ⟨hx, hb, hml, hown, hts⟩ (k_X11_addConstructor l hfl G h0 p0 p1 p2 p3 p4 t1 f1 s1 d1 y1 g1 m1 n1 sf0 sf1 sf2 sf3 sf4 sf5 sf6 sf7 H.size) (cwV 5 hts (gV wm769 wm770 wm771 wm1 wm772) rfl rfl rfl (by decide +kernel) ⟨Nat.le_of_ble_eq_true rfl, Nat.le_of_ble_eq_true rfl⟩) (pre_v (pre_s hK hP hD hS hE [0, 1] rfl rfl (by decide) hFc) (va_recv hK hP (ci := 10) (q0 := 0) rfl rfl)) rfl rfl hl.1 rfl (lv_room (Nat.le_of_ble_eq_true rfl)) dL_addConstructor_11 ⟨Nat.le_of_ble_eq_true rfl, Nat.le_of_ble_eq_true rfl⟩) hS (fun q _ h => hFc q h) hFc (fun q _ h => hFc q h) (fun E ce q9 u t H locs ht hvm hpx hBX hz1 hk1 hS hce hv9 hcl => ?_) (fun r u t H locs ht hvm hw hB hz1 hk1 hS => ?_)
  · rcases hBX with ⟨rfl, tx0⟩ | ⟨rfl, tx0⟩
    · obtain ⟨hP, hD⟩ := va_join (wr := [(o1, .inl (cyA G 2, 1, .inr (.inl (fun _ => 0))))]) (w1 := []) hP hD [0, 1] [2] rfl rfl (by decide) (by decide) hk1 hFc nilP nilD
      refine vx_widen (k := 1) (n := 6) (Nat.le_of_ble_eq_true rfl) (Nat.le_of_ble_eq_true rfl) ?_
      refine vx_catch hown (tableOf []) ⟨0, 16, 19, 13⟩ (tableOf [(0, 16, 23, 35), (0, 16, 27, 15)]) (htab.trans rfl) xP0 (by decide) (by decide) (hts _ wm528) (va_Nw.use rfl (hE.1 _ nw536)) hce hv9 hcl ?_
      refine W.eq (g2 := F0 m 19 ls [.ref q9]) rfl ?_
      have hP : va_P (DG G) clP1 [(o1, .inl (cyA G 2, 1, .inr (.inl (fun _ => 0))))] H := hP
      have hD : va_D A [(o1, .inl (cyA G 2, 1, .inr (.inl (fun _ => 0))))] := hD
      refine lv_astore (lv' := [(7, .ref q9), (0, .ref h0), (1, .int p0), (2, .int p1), (3, .int p2), (4, .int p3), (5, .int p4), (6, .ref o1)]) hx hb dL_addConstructor_19 hl (by decide) rfl (fun ls hl => ?_)
      refine lv_iconst (v := 1) hx hb dL_addConstructor_21 (by decide) ?_
      have hP9 := hP.sub (ws' := [(o1, .inl (cyA G 2, 1, .inr (.inl (fun _ => 0))))]) [0] rfl
      have hD9 := hD.sub (ws' := [(o1, .inl (cyA G 2, 1, .inr (.inl (fun _ => 0))))]) [0] (by decide) rfl
      refine W.widen (k := 1) (n := 6) (Nat.le_of_ble_eq_true rfl) (Nat.le_of_ble_eq_true rfl) ?_
      exact vx_ret (W.iret (v := 1) hx hb hr (fun t ht hW => ⟨⟨1, 0, rfl, (Or.inl ⟨rfl, rfl, by omega⟩), ⟨fun _ => ⟨by rw [ht]; exact hP9, hD9⟩, fun h => absurd h (by decide)⟩⟩, hS.F ht⟩) hS.2.2 dL_addConstructor_22 hlocks)
    · obtain ⟨hP, hD⟩ := va_join (wr := [(o1, .inl (cyA G 2, 1, .inr (.inl (fun _ => 0))))]) (w1 := []) hP hD [0, 1] [2] rfl rfl (by decide) (by decide) hk1 hFc nilP nilD
      refine vx_widen (k := 1) (n := 6) (Nat.le_of_ble_eq_true rfl) (Nat.le_of_ble_eq_true rfl) ?_
      refine vx_catch hown (tableOf [(0, 16, 19, 13)]) ⟨0, 16, 23, 35⟩ (tableOf [(0, 16, 27, 15)]) (htab.trans rfl) (xPc (Or.inr ⟨by decide, _, hts _ wm528, hE.2.2.1 _ nc0⟩) xP0) (by decide) (by decide) (hts _ wm707) (va_Nw.use rfl (hE.1 _ nw718)) hce hv9 hcl ?_
      refine W.eq (g2 := F0 m 23 ls [.ref q9]) rfl ?_
      have hP : va_P (DG G) clP1 [(o1, .inl (cyA G 2, 1, .inr (.inl (fun _ => 0))))] H := hP
      have hD : va_D A [(o1, .inl (cyA G 2, 1, .inr (.inl (fun _ => 0))))] := hD
      refine lv_astore (lv' := [(7, .ref q9), (0, .ref h0), (1, .int p0), (2, .int p1), (3, .int p2), (4, .int p3), (5, .int p4), (6, .ref o1)]) hx hb dL_addConstructor_23 hl (by decide) rfl (fun ls hl => ?_)
      refine lv_iconst (v := 2) hx hb dL_addConstructor_25 (by decide) ?_
      have hP9 := hP.sub (ws' := [(o1, .inl (cyA G 2, 1, .inr (.inl (fun _ => 0))))]) [0] rfl
      have hD9 := hD.sub (ws' := [(o1, .inl (cyA G 2, 1, .inr (.inl (fun _ => 0))))]) [0] (by decide) rfl
      refine W.widen (k := 1) (n := 6) (Nat.le_of_ble_eq_true rfl) (Nat.le_of_ble_eq_true rfl) ?_
      exact vx_ret (W.iret (v := 2) hx hb hr (fun t ht hW => ⟨⟨2, 1, rfl, (Or.inr ⟨rfl, rfl, by omega⟩), ⟨fun h => absurd h (by decide), fun _ => ⟨by rw [ht]; exact hP9, hD9⟩⟩⟩, hS.F ht⟩) hS.2.2 dL_addConstructor_26 hlocks)
  · exact hw.elim
set_option maxHeartbeats 4000000 in
set_option maxRecDepth 100000 in
theorem k_L_size (l : Launch) (hfl : l.stackTraces = false) (G : GC) (h0 : Nat) (p0 : Int32) (o1 : Nat) (t1 : Nat) (f1 : Nat) (s1 : Nat) (d1 : Nat) (y1 : Nat) (g1 : Nat) (m1 : Nat) (n1 : Nat) (sz : Nat) : vx_Met l yL_size (Cond.codeWith yL_size cL_size 4 (some .int) [(0, 9, 12, 24)] :: W0) ({ frames := 8, cells := 1, slots := 6, locals := 124 }) (va_Pc [.ref h0, .int p0, .ref o1] (WD G [(h0, .inr (10, [.ref t1, .ref f1, .ref s1, .ref d1, .ref y1, .ref g1, .ref m1, .ref n1, .int 0, .long 0])), (o1, .inl (cyA G 2, 1, .inr (.inl (fun _ => 0))))] sz)) (va_Qi (fun (r : Int32) (_ : Unit) => r = 1) (fun _ t => PW G (va_A [(h0, .inr (10, [.ref t1, .ref f1, .ref s1, .ref d1, .ref y1, .ref g1, .ref m1, .ref n1, .int 0, .long 0])), (o1, .inl (cyA G 2, 1, .inr (.inl (fun _ => 0))))] sz) [(o1, .inl (cyA G 2, 1, .inr (.inl (fun _ => 0))))] t) (va_A [(h0, .inr (10, [.ref t1, .ref f1, .ref s1, .ref d1, .ref y1, .ref g1, .ref m1, .ref n1, .int 0, .long 0])), (o1, .inl (cyA G 2, 1, .inr (.inl (fun _ => 0))))] sz)) (vx_X (fun _ : Unit => False) (fun (_ : String) (_ : Unit) (_ : State) => True) (va_A [(h0, .inr (10, [.ref t1, .ref f1, .ref s1, .ref d1, .ref y1, .ref g1, .ref m1, .ref n1, .int 0, .long 0])), (o1, .inl (cyA G 2, 1, .inr (.inl (fun _ => 0))))] sz)) 1 6 (va_A [(h0, .inr (10, [.ref t1, .ref f1, .ref s1, .ref d1, .ref y1, .ref g1, .ref m1, .ref n1, .int 0, .long 0])), (o1, .inl (cyA G 2, 1, .inr (.inl (fun _ => 0))))] sz) := by
  refine vx_ofWH (cc := cL_size) (maxL := 4) (ret := (some .int)) (hh := [(0, 9, 12, 24)]) (by decide) rfl ?_
  intro p e s m args below meth c s₁ B hml hv
  obtain ⟨rfl, hsz, hP, hK, hD0, hE⟩ := hv
  have hx := B.exec
  have hb := B.bytes
  have hr := B.returns
  have hts := w0_tail B.pre
  have hown : s.vm.findClass RL = some m.cls := findClass_of_methodNamed B.named
  have hlocks := B.notSynchronized
  have htab := vx_table (x := yL_size) B (hts _ wm788)
  subst hsz
  have hD := hD0.self (sz := s.heap.size)
  generalize hAe : va_A [(h0, .inr (10, [.ref t1, .ref f1, .ref s1, .ref d1, .ref y1, .ref g1, .ref m1, .ref n1, .int 0, .long 0])), (o1, .inl (cyA G 2, 1, .inr (.inl (fun _ => 0))))] s.heap.size = A at hD hE ⊢
  have hA : ∀ q : Nat, s.heap.size ≤ q → A q := fun q h => by rw [← hAe]; exact Or.inr h
  have hS : va_S A s.heap s.heap [] := va_S.rf
  obtain ⟨H, hHe⟩ : ∃ H : Heap, H = s.heap := ⟨_, rfl⟩
  have hP : va_P (DG G) clP1 [(h0, .inr (10, [.ref t1, .ref f1, .ref s1, .ref d1, .ref y1, .ref g1, .ref m1, .ref n1, .int 0, .long 0])), (o1, .inl (cyA G 2, 1, .inr (.inl (fun _ => 0))))] H := by rw [hHe]; exact hP
  have hS : va_S A s.heap H [] := by rw [hHe]; exact hS
  have hl := lv_entry ([.ref h0, .int p0, .ref o1]) (n := 4) (Nat.le_of_ble_eq_true rfl)
  rw [lg_entry_eq, ← hHe]
  generalize (lg_sl ([.ref h0, .int p0, .ref o1]) ++ List.replicate (4 - (lg_sl ([.ref h0, .int p0, .ref o1])).length) Slot.unset).toArray = ls at hl ⊢
  have hl : lv_has ls 4 [(0, .ref h0), (1, .int p0), (2, .ref o1)] := hl
  refine lv_aload_n hx hb dL_size_0 rfl (lv_at hl 2 rfl) ?_
  refine lv_iconst (v := 0) hx hb dL_size_1 (by decide) ?_
  refine lv_aload_n hx hb dL_size_2 rfl (lv_at hl 0 rfl) ?_
  refine lv_iload_n hx hb dL_size_3 rfl (lv_at hl 1 rfl) ?_
  have hFc := va_free (wc := [(h0, .inr (10, [.ref t1, .ref f1, .ref s1, .ref d1, .ref y1, .ref g1, .ref m1, .ref n1, .int 0, .long 0]))]) hD hS hA [0] rfl
  refine vx_calli (vx_runV (As := [.int p0]) (rest := [.int 0, .ref o1]) ⟨hx, hb, hml, hown, hts⟩ (k_X11_size l hfl G h0 p0 t1 f1 s1 d1 y1 g1 m1 n1 H.size) (cwV 1 hts (gV wm789 wm790 wm791 wm1 wm792) rfl rfl rfl (by decide +kernel) ⟨Nat.le_of_ble_eq_true rfl, Nat.le_of_ble_eq_true rfl⟩) (pre_v (pre_s hK hP hD hS hE [0] rfl rfl (by decide) hFc) (va_recv hK hP (ci := 10) (q0 := 0) rfl rfl)) rfl rfl hl.1 rfl (lv_room (Nat.le_of_ble_eq_true rfl)) dL_size_4 ⟨Nat.le_of_ble_eq_true rfl, Nat.le_of_ble_eq_true rfl⟩) hS (fun q _ h => hFc q h) hFc (fun q _ h => hFc q h) (fun E ce q9 u t H locs ht hvm hpx hBX hz1 hk1 hS hce hv9 hcl => ?_) (fun r u t H locs ht hvm hw hB hz1 hk1 hS => ?_)
  · have hBX : E = "java/lang/IndexOutOfBoundsException" := hBX
    subst hBX
    obtain ⟨hP, hD⟩ := va_join (wr := [(o1, .inl (cyA G 2, 1, .inr (.inl (fun _ => 0))))]) (w1 := []) hP hD [0] [1] rfl rfl (by decide) (by decide) hk1 hFc nilP nilD
    refine vx_widen (k := 1) (n := 6) (Nat.le_of_ble_eq_true rfl) (Nat.le_of_ble_eq_true rfl) ?_
    refine vx_catch hown (tableOf []) ⟨0, 9, 12, 24⟩ (tableOf []) (htab.trans rfl) xP0 (by decide) (by decide) (hts _ wm638) (va_Nw.use rfl (hE.1 _ nw676)) hce hv9 hcl ?_
    refine W.eq (g2 := F0 m 12 ls [.ref q9]) rfl ?_
    have hP : va_P (DG G) clP1 [(o1, .inl (cyA G 2, 1, .inr (.inl (fun _ => 0))))] H := hP
    have hD : va_D A [(o1, .inl (cyA G 2, 1, .inr (.inl (fun _ => 0))))] := hD
    refine lv_astore_n (lv' := [(3, .ref q9), (0, .ref h0), (1, .int p0), (2, .ref o1)]) hx hb dL_size_12 rfl hl (by decide) rfl (fun ls hl => ?_)
    refine lv_iconst (v := 1) hx hb dL_size_13 (by decide) ?_
    have hP9 := hP.sub (ws' := [(o1, .inl (cyA G 2, 1, .inr (.inl (fun _ => 0))))]) [0] rfl
    have hD9 := hD.sub (ws' := [(o1, .inl (cyA G 2, 1, .inr (.inl (fun _ => 0))))]) [0] (by decide) rfl
    refine W.widen (k := 1) (n := 6) (Nat.le_of_ble_eq_true rfl) (Nat.le_of_ble_eq_true rfl) ?_
    exact vx_ret (W.iret (v := 1) hx hb hr (fun t ht hW => ⟨⟨1, (), rfl, rfl, ⟨by rw [ht]; exact hP9, hD9⟩⟩, hS.F ht⟩) hS.2.2 dL_size_14 hlocks)
  · exact hw.elim
set_option maxHeartbeats 4000000 in
set_option maxRecDepth 100000 in
theorem k_L_number (l : Launch) (hfl : l.stackTraces = false) (G : GC) (h0 : Nat) (p0 : Int32) (o1 : Nat) (t1 : Nat) (f1 : Nat) (s1 : Nat) (d1 : Nat) (y1 : Nat) (g1 : Nat) (m1 : Nat) (n1 : Nat) (sz : Nat) : vx_Met l yL_number (Cond.codeWith yL_number cL_number 4 (some .int) [(0, 9, 12, 24)] :: W0) ({ frames := 8, cells := 1, slots := 6, locals := 124 }) (va_Pc [.ref h0, .int p0, .ref o1] (WD G [(h0, .inr (10, [.ref t1, .ref f1, .ref s1, .ref d1, .ref y1, .ref g1, .ref m1, .ref n1, .int 0, .long 0])), (o1, .inl (cyA G 2, 1, .inr (.inl (fun _ => 0))))] sz)) (va_Qi (fun (r : Int32) (_ : Unit) => r = 1) (fun _ t => PW G (va_A [(h0, .inr (10, [.ref t1, .ref f1, .ref s1, .ref d1, .ref y1, .ref g1, .ref m1, .ref n1, .int 0, .long 0])), (o1, .inl (cyA G 2, 1, .inr (.inl (fun _ => 0))))] sz) [(o1, .inl (cyA G 2, 1, .inr (.inl (fun _ => 0))))] t) (va_A [(h0, .inr (10, [.ref t1, .ref f1, .ref s1, .ref d1, .ref y1, .ref g1, .ref m1, .ref n1, .int 0, .long 0])), (o1, .inl (cyA G 2, 1, .inr (.inl (fun _ => 0))))] sz)) (vx_X (fun _ : Unit => False) (fun (_ : String) (_ : Unit) (_ : State) => True) (va_A [(h0, .inr (10, [.ref t1, .ref f1, .ref s1, .ref d1, .ref y1, .ref g1, .ref m1, .ref n1, .int 0, .long 0])), (o1, .inl (cyA G 2, 1, .inr (.inl (fun _ => 0))))] sz)) 1 6 (va_A [(h0, .inr (10, [.ref t1, .ref f1, .ref s1, .ref d1, .ref y1, .ref g1, .ref m1, .ref n1, .int 0, .long 0])), (o1, .inl (cyA G 2, 1, .inr (.inl (fun _ => 0))))] sz) := by
  refine vx_ofWH (cc := cL_number) (maxL := 4) (ret := (some .int)) (hh := [(0, 9, 12, 24)]) (by decide) rfl ?_
  intro p e s m args below meth c s₁ B hml hv
  obtain ⟨rfl, hsz, hP, hK, hD0, hE⟩ := hv
  have hx := B.exec
  have hb := B.bytes
  have hr := B.returns
  have hts := w0_tail B.pre
  have hown : s.vm.findClass RL = some m.cls := findClass_of_methodNamed B.named
  have hlocks := B.notSynchronized
  have htab := vx_table (x := yL_number) B (hts _ wm795)
  subst hsz
  have hD := hD0.self (sz := s.heap.size)
  generalize hAe : va_A [(h0, .inr (10, [.ref t1, .ref f1, .ref s1, .ref d1, .ref y1, .ref g1, .ref m1, .ref n1, .int 0, .long 0])), (o1, .inl (cyA G 2, 1, .inr (.inl (fun _ => 0))))] s.heap.size = A at hD hE ⊢
  have hA : ∀ q : Nat, s.heap.size ≤ q → A q := fun q h => by rw [← hAe]; exact Or.inr h
  have hS : va_S A s.heap s.heap [] := va_S.rf
  obtain ⟨H, hHe⟩ : ∃ H : Heap, H = s.heap := ⟨_, rfl⟩
  have hP : va_P (DG G) clP1 [(h0, .inr (10, [.ref t1, .ref f1, .ref s1, .ref d1, .ref y1, .ref g1, .ref m1, .ref n1, .int 0, .long 0])), (o1, .inl (cyA G 2, 1, .inr (.inl (fun _ => 0))))] H := by rw [hHe]; exact hP
  have hS : va_S A s.heap H [] := by rw [hHe]; exact hS
  have hl := lv_entry ([.ref h0, .int p0, .ref o1]) (n := 4) (Nat.le_of_ble_eq_true rfl)
  rw [lg_entry_eq, ← hHe]
  generalize (lg_sl ([.ref h0, .int p0, .ref o1]) ++ List.replicate (4 - (lg_sl ([.ref h0, .int p0, .ref o1])).length) Slot.unset).toArray = ls at hl ⊢
  have hl : lv_has ls 4 [(0, .ref h0), (1, .int p0), (2, .ref o1)] := hl
  refine lv_aload_n hx hb dL_number_0 rfl (lv_at hl 2 rfl) ?_
  refine lv_iconst (v := 0) hx hb dL_number_1 (by decide) ?_
  refine lv_aload_n hx hb dL_number_2 rfl (lv_at hl 0 rfl) ?_
  refine lv_iload_n hx hb dL_number_3 rfl (lv_at hl 1 rfl) ?_
  have hFc := va_free (wc := [(h0, .inr (10, [.ref t1, .ref f1, .ref s1, .ref d1, .ref y1, .ref g1, .ref m1, .ref n1, .int 0, .long 0]))]) hD hS hA [0] rfl
  refine vx_calli (vx_runV (As := [.int p0]) (rest := [.int 0, .ref o1]) ⟨hx, hb, hml, hown, hts⟩ (k_X11_number l hfl G h0 p0 t1 f1 s1 d1 y1 g1 m1 n1 H.size) (cwV 1 hts (gV wm796 wm797 wm798 wm1 wm799) rfl rfl rfl (by decide +kernel) ⟨Nat.le_of_ble_eq_true rfl, Nat.le_of_ble_eq_true rfl⟩) (pre_v (pre_s hK hP hD hS hE [0] rfl rfl (by decide) hFc) (va_recv hK hP (ci := 10) (q0 := 0) rfl rfl)) rfl rfl hl.1 rfl (lv_room (Nat.le_of_ble_eq_true rfl)) dL_number_4 ⟨Nat.le_of_ble_eq_true rfl, Nat.le_of_ble_eq_true rfl⟩) hS (fun q _ h => hFc q h) hFc (fun q _ h => hFc q h) (fun E ce q9 u t H locs ht hvm hpx hBX hz1 hk1 hS hce hv9 hcl => ?_) (fun r u t H locs ht hvm hw hB hz1 hk1 hS => ?_)
  · have hBX : E = "java/lang/IndexOutOfBoundsException" := hBX
    subst hBX
    obtain ⟨hP, hD⟩ := va_join (wr := [(o1, .inl (cyA G 2, 1, .inr (.inl (fun _ => 0))))]) (w1 := []) hP hD [0] [1] rfl rfl (by decide) (by decide) hk1 hFc nilP nilD
    refine vx_widen (k := 1) (n := 6) (Nat.le_of_ble_eq_true rfl) (Nat.le_of_ble_eq_true rfl) ?_
    refine vx_catch hown (tableOf []) ⟨0, 9, 12, 24⟩ (tableOf []) (htab.trans rfl) xP0 (by decide) (by decide) (hts _ wm638) (va_Nw.use rfl (hE.1 _ nw676)) hce hv9 hcl ?_
    refine W.eq (g2 := F0 m 12 ls [.ref q9]) rfl ?_
    have hP : va_P (DG G) clP1 [(o1, .inl (cyA G 2, 1, .inr (.inl (fun _ => 0))))] H := hP
    have hD : va_D A [(o1, .inl (cyA G 2, 1, .inr (.inl (fun _ => 0))))] := hD
    refine lv_astore_n (lv' := [(3, .ref q9), (0, .ref h0), (1, .int p0), (2, .ref o1)]) hx hb dL_number_12 rfl hl (by decide) rfl (fun ls hl => ?_)
    refine lv_iconst (v := 1) hx hb dL_number_13 (by decide) ?_
    have hP9 := hP.sub (ws' := [(o1, .inl (cyA G 2, 1, .inr (.inl (fun _ => 0))))]) [0] rfl
    have hD9 := hD.sub (ws' := [(o1, .inl (cyA G 2, 1, .inr (.inl (fun _ => 0))))]) [0] (by decide) rfl
    refine W.widen (k := 1) (n := 6) (Nat.le_of_ble_eq_true rfl) (Nat.le_of_ble_eq_true rfl) ?_
    exact vx_ret (W.iret (v := 1) hx hb hr (fun t ht hW => ⟨⟨1, (), rfl, rfl, ⟨by rw [ht]; exact hP9, hD9⟩⟩, hS.F ht⟩) hS.2.2 dL_number_14 hlocks)
  · exact hw.elim
set_option maxHeartbeats 4000000 in
set_option maxRecDepth 100000 in
theorem k_L_normal (l : Launch) (hfl : l.stackTraces = false) (G : GC) (h0 : Nat) (p0 : Int32) (o1 : Nat) (t1 : Nat) (f1 : Nat) (s1 : Nat) (d1 : Nat) (y1 : Nat) (g1 : Nat) (m1 : Nat) (n1 : Nat) (sz : Nat) : vx_Met l yL_normal (Cond.codeWith yL_normal cL_normal 4 (some .int) [(0, 9, 12, 24), (0, 9, 15, 60)] :: W0) ({ frames := 8, cells := 1, slots := 6, locals := 126 }) (va_Pc [.ref h0, .int p0, .ref o1] (WD G [(h0, .inr (10, [.ref t1, .ref f1, .ref s1, .ref d1, .ref y1, .ref g1, .ref m1, .ref n1, .int 0, .long 0])), (o1, .inl (cyA G 2, 1, .inr (.inl (fun _ => 0))))] sz)) (va_Qi (fun (r : Int32) (_ : Unit) => r = 1) (fun _ t => PW G (va_A [(h0, .inr (10, [.ref t1, .ref f1, .ref s1, .ref d1, .ref y1, .ref g1, .ref m1, .ref n1, .int 0, .long 0])), (o1, .inl (cyA G 2, 1, .inr (.inl (fun _ => 0))))] sz) [(o1, .inl (cyA G 2, 1, .inr (.inl (fun _ => 0))))] t) (va_A [(h0, .inr (10, [.ref t1, .ref f1, .ref s1, .ref d1, .ref y1, .ref g1, .ref m1, .ref n1, .int 0, .long 0])), (o1, .inl (cyA G 2, 1, .inr (.inl (fun _ => 0))))] sz)) (vx_X (fun _ : Unit => False) (fun (_ : String) (_ : Unit) (_ : State) => True) (va_A [(h0, .inr (10, [.ref t1, .ref f1, .ref s1, .ref d1, .ref y1, .ref g1, .ref m1, .ref n1, .int 0, .long 0])), (o1, .inl (cyA G 2, 1, .inr (.inl (fun _ => 0))))] sz)) 1 6 (va_A [(h0, .inr (10, [.ref t1, .ref f1, .ref s1, .ref d1, .ref y1, .ref g1, .ref m1, .ref n1, .int 0, .long 0])), (o1, .inl (cyA G 2, 1, .inr (.inl (fun _ => 0))))] sz) := by
  refine vx_ofWH (cc := cL_normal) (maxL := 4) (ret := (some .int)) (hh := [(0, 9, 12, 24), (0, 9, 15, 60)]) (by decide) rfl ?_
  intro p e s m args below meth c s₁ B hml hv
  obtain ⟨rfl, hsz, hP, hK, hD0, hE⟩ := hv
  have hx := B.exec
  have hb := B.bytes
  have hr := B.returns
  have hts := w0_tail B.pre
  have hown : s.vm.findClass RL = some m.cls := findClass_of_methodNamed B.named
  have hlocks := B.notSynchronized
  have htab := vx_table (x := yL_normal) B (hts _ wm803)
  subst hsz
  have hD := hD0.self (sz := s.heap.size)
  generalize hAe : va_A [(h0, .inr (10, [.ref t1, .ref f1, .ref s1, .ref d1, .ref y1, .ref g1, .ref m1, .ref n1, .int 0, .long 0])), (o1, .inl (cyA G 2, 1, .inr (.inl (fun _ => 0))))] s.heap.size = A at hD hE ⊢
  have hA : ∀ q : Nat, s.heap.size ≤ q → A q := fun q h => by rw [← hAe]; exact Or.inr h
  have hS : va_S A s.heap s.heap [] := va_S.rf
  obtain ⟨H, hHe⟩ : ∃ H : Heap, H = s.heap := ⟨_, rfl⟩
  have hP : va_P (DG G) clP1 [(h0, .inr (10, [.ref t1, .ref f1, .ref s1, .ref d1, .ref y1, .ref g1, .ref m1, .ref n1, .int 0, .long 0])), (o1, .inl (cyA G 2, 1, .inr (.inl (fun _ => 0))))] H := by rw [hHe]; exact hP
  have hS : va_S A s.heap H [] := by rw [hHe]; exact hS
  have hl := lv_entry ([.ref h0, .int p0, .ref o1]) (n := 4) (Nat.le_of_ble_eq_true rfl)
  rw [lg_entry_eq, ← hHe]
  generalize (lg_sl ([.ref h0, .int p0, .ref o1]) ++ List.replicate (4 - (lg_sl ([.ref h0, .int p0, .ref o1])).length) Slot.unset).toArray = ls at hl ⊢
  have hl : lv_has ls 4 [(0, .ref h0), (1, .int p0), (2, .ref o1)] := hl
  refine lv_aload_n hx hb dL_normal_0 rfl (lv_at hl 2 rfl) ?_
  refine lv_iconst (v := 0) hx hb dL_normal_1 (by decide) ?_
  refine lv_aload_n hx hb dL_normal_2 rfl (lv_at hl 0 rfl) ?_
  refine lv_iload_n hx hb dL_normal_3 rfl (lv_at hl 1 rfl) ?_
  have hFc := va_free (wc := [(h0, .inr (10, [.ref t1, .ref f1, .ref s1, .ref d1, .ref y1, .ref g1, .ref m1, .ref n1, .int 0, .long 0]))]) hD hS hA [0] rfl
  refine vx_calli (vx_runV (As := [.int p0]) (rest := [.int 0, .ref o1]) ⟨hx, hb, hml, hown, hts⟩ (k_X11_normal l hfl G h0 p0 t1 f1 s1 d1 y1 g1 m1 n1 H.size) (cwV 1 hts (gV wm805 wm806 wm807 wm1 wm808) rfl rfl rfl (by decide +kernel) ⟨Nat.le_of_ble_eq_true rfl, Nat.le_of_ble_eq_true rfl⟩) (pre_v (pre_s hK hP hD hS hE [0] rfl rfl (by decide) hFc) (va_recv hK hP (ci := 10) (q0 := 0) rfl rfl)) rfl rfl hl.1 rfl (lv_room (Nat.le_of_ble_eq_true rfl)) dL_normal_4 ⟨Nat.le_of_ble_eq_true rfl, Nat.le_of_ble_eq_true rfl⟩) hS (fun q _ h => hFc q h) hFc (fun q _ h => hFc q h) (fun E ce q9 u t H locs ht hvm hpx hBX hz1 hk1 hS hce hv9 hcl => ?_) (fun r u t H locs ht hvm hw hB hz1 hk1 hS => ?_)
  · have hBX : E = "java/lang/IndexOutOfBoundsException" := hBX
    subst hBX
    obtain ⟨hP, hD⟩ := va_join (wr := [(o1, .inl (cyA G 2, 1, .inr (.inl (fun _ => 0))))]) (w1 := []) hP hD [0] [1] rfl rfl (by decide) (by decide) hk1 hFc nilP nilD
    refine vx_widen (k := 1) (n := 6) (Nat.le_of_ble_eq_true rfl) (Nat.le_of_ble_eq_true rfl) ?_
    refine vx_catch hown (tableOf []) ⟨0, 9, 12, 24⟩ (tableOf [(0, 9, 15, 60)]) (htab.trans rfl) xP0 (by decide) (by decide) (hts _ wm638) (va_Nw.use rfl (hE.1 _ nw676)) hce hv9 hcl ?_
    refine W.eq (g2 := F0 m 12 ls [.ref q9]) rfl ?_
    have hP : va_P (DG G) clP1 [(o1, .inl (cyA G 2, 1, .inr (.inl (fun _ => 0))))] H := hP
    have hD : va_D A [(o1, .inl (cyA G 2, 1, .inr (.inl (fun _ => 0))))] := hD
    refine lv_astore_n (lv' := [(3, .ref q9), (0, .ref h0), (1, .int p0), (2, .ref o1)]) hx hb dL_normal_12 rfl hl (by decide) rfl (fun ls hl => ?_)
    refine lv_iconst (v := 1) hx hb dL_normal_13 (by decide) ?_
    have hP9 := hP.sub (ws' := [(o1, .inl (cyA G 2, 1, .inr (.inl (fun _ => 0))))]) [0] rfl
    have hD9 := hD.sub (ws' := [(o1, .inl (cyA G 2, 1, .inr (.inl (fun _ => 0))))]) [0] (by decide) rfl
    refine W.widen (k := 1) (n := 6) (Nat.le_of_ble_eq_true rfl) (Nat.le_of_ble_eq_true rfl) ?_
    exact vx_ret (W.iret (v := 1) hx hb hr (fun t ht hW => ⟨⟨1, (), rfl, rfl, ⟨by rw [ht]; exact hP9, hD9⟩⟩, hS.F ht⟩) hS.2.2 dL_normal_14 hlocks)
  · exact hw.elim
set_option maxHeartbeats 4000000 in
set_option maxRecDepth 100000 in
theorem k_L_typeOf (l : Launch) (hfl : l.stackTraces = false) (G : GC) (h0 : Nat) (p0 : Int32) (o1 : Nat) (t1 : Nat) (f1 : Nat) (s1 : Nat) (d1 : Nat) (y1 : Nat) (g1 : Nat) (m1 : Nat) (n1 : Nat) (sz : Nat) : vx_Met l yL_typeOf (Cond.codeWith yL_typeOf cL_typeOf 4 (some .int) [(0, 9, 12, 24), (0, 9, 15, 60)] :: W0) ({ frames := 8, cells := 1, slots := 6, locals := 126 }) (va_Pc [.ref h0, .int p0, .ref o1] (WD G [(h0, .inr (10, [.ref t1, .ref f1, .ref s1, .ref d1, .ref y1, .ref g1, .ref m1, .ref n1, .int 0, .long 0])), (o1, .inl (cyA G 2, 1, .inr (.inl (fun _ => 0))))] sz)) (va_Qi (fun (r : Int32) (_ : Unit) => r = 1) (fun _ t => PW G (va_A [(h0, .inr (10, [.ref t1, .ref f1, .ref s1, .ref d1, .ref y1, .ref g1, .ref m1, .ref n1, .int 0, .long 0])), (o1, .inl (cyA G 2, 1, .inr (.inl (fun _ => 0))))] sz) [(o1, .inl (cyA G 2, 1, .inr (.inl (fun _ => 0))))] t) (va_A [(h0, .inr (10, [.ref t1, .ref f1, .ref s1, .ref d1, .ref y1, .ref g1, .ref m1, .ref n1, .int 0, .long 0])), (o1, .inl (cyA G 2, 1, .inr (.inl (fun _ => 0))))] sz)) (vx_X (fun _ : Unit => False) (fun (_ : String) (_ : Unit) (_ : State) => True) (va_A [(h0, .inr (10, [.ref t1, .ref f1, .ref s1, .ref d1, .ref y1, .ref g1, .ref m1, .ref n1, .int 0, .long 0])), (o1, .inl (cyA G 2, 1, .inr (.inl (fun _ => 0))))] sz)) 1 6 (va_A [(h0, .inr (10, [.ref t1, .ref f1, .ref s1, .ref d1, .ref y1, .ref g1, .ref m1, .ref n1, .int 0, .long 0])), (o1, .inl (cyA G 2, 1, .inr (.inl (fun _ => 0))))] sz) := by
  refine vx_ofWH (cc := cL_typeOf) (maxL := 4) (ret := (some .int)) (hh := [(0, 9, 12, 24), (0, 9, 15, 60)]) (by decide) rfl ?_
  intro p e s m args below meth c s₁ B hml hv
  obtain ⟨rfl, hsz, hP, hK, hD0, hE⟩ := hv
  have hx := B.exec
  have hb := B.bytes
  have hr := B.returns
  have hts := w0_tail B.pre
  have hown : s.vm.findClass RL = some m.cls := findClass_of_methodNamed B.named
  have hlocks := B.notSynchronized
  have htab := vx_table (x := yL_typeOf) B (hts _ wm834)
  subst hsz
  have hD := hD0.self (sz := s.heap.size)
  generalize hAe : va_A [(h0, .inr (10, [.ref t1, .ref f1, .ref s1, .ref d1, .ref y1, .ref g1, .ref m1, .ref n1, .int 0, .long 0])), (o1, .inl (cyA G 2, 1, .inr (.inl (fun _ => 0))))] s.heap.size = A at hD hE ⊢
  have hA : ∀ q : Nat, s.heap.size ≤ q → A q := fun q h => by rw [← hAe]; exact Or.inr h
  have hS : va_S A s.heap s.heap [] := va_S.rf
  obtain ⟨H, hHe⟩ : ∃ H : Heap, H = s.heap := ⟨_, rfl⟩
  have hP : va_P (DG G) clP1 [(h0, .inr (10, [.ref t1, .ref f1, .ref s1, .ref d1, .ref y1, .ref g1, .ref m1, .ref n1, .int 0, .long 0])), (o1, .inl (cyA G 2, 1, .inr (.inl (fun _ => 0))))] H := by rw [hHe]; exact hP
  have hS : va_S A s.heap H [] := by rw [hHe]; exact hS
  have hl := lv_entry ([.ref h0, .int p0, .ref o1]) (n := 4) (Nat.le_of_ble_eq_true rfl)
  rw [lg_entry_eq, ← hHe]
  generalize (lg_sl ([.ref h0, .int p0, .ref o1]) ++ List.replicate (4 - (lg_sl ([.ref h0, .int p0, .ref o1])).length) Slot.unset).toArray = ls at hl ⊢
  have hl : lv_has ls 4 [(0, .ref h0), (1, .int p0), (2, .ref o1)] := hl
  refine lv_aload_n hx hb dL_typeOf_0 rfl (lv_at hl 2 rfl) ?_
  refine lv_iconst (v := 0) hx hb dL_typeOf_1 (by decide) ?_
  refine lv_aload_n hx hb dL_typeOf_2 rfl (lv_at hl 0 rfl) ?_
  refine lv_iload_n hx hb dL_typeOf_3 rfl (lv_at hl 1 rfl) ?_
  have hFc := va_free (wc := [(h0, .inr (10, [.ref t1, .ref f1, .ref s1, .ref d1, .ref y1, .ref g1, .ref m1, .ref n1, .int 0, .long 0]))]) hD hS hA [0] rfl
  refine vx_calli (vx_runV (As := [.int p0]) (rest := [.int 0, .ref o1]) ⟨hx, hb, hml, hown, hts⟩ (k_X11_typeOf l hfl G h0 p0 t1 f1 s1 d1 y1 g1 m1 n1 H.size) (cwV 1 hts (gV wm835 wm836 wm837 wm1 wm838) rfl rfl rfl (by decide +kernel) ⟨Nat.le_of_ble_eq_true rfl, Nat.le_of_ble_eq_true rfl⟩) (pre_v (pre_s hK hP hD hS hE [0] rfl rfl (by decide) hFc) (va_recv hK hP (ci := 10) (q0 := 0) rfl rfl)) rfl rfl hl.1 rfl (lv_room (Nat.le_of_ble_eq_true rfl)) dL_typeOf_4 ⟨Nat.le_of_ble_eq_true rfl, Nat.le_of_ble_eq_true rfl⟩) hS (fun q _ h => hFc q h) hFc (fun q _ h => hFc q h) (fun E ce q9 u t H locs ht hvm hpx hBX hz1 hk1 hS hce hv9 hcl => ?_) (fun r u t H locs ht hvm hw hB hz1 hk1 hS => ?_)
  · have hBX : E = "java/lang/IndexOutOfBoundsException" := hBX
    subst hBX
    obtain ⟨hP, hD⟩ := va_join (wr := [(o1, .inl (cyA G 2, 1, .inr (.inl (fun _ => 0))))]) (w1 := []) hP hD [0] [1] rfl rfl (by decide) (by decide) hk1 hFc nilP nilD
    refine vx_widen (k := 1) (n := 6) (Nat.le_of_ble_eq_true rfl) (Nat.le_of_ble_eq_true rfl) ?_
    refine vx_catch hown (tableOf []) ⟨0, 9, 12, 24⟩ (tableOf [(0, 9, 15, 60)]) (htab.trans rfl) xP0 (by decide) (by decide) (hts _ wm638) (va_Nw.use rfl (hE.1 _ nw676)) hce hv9 hcl ?_
    refine W.eq (g2 := F0 m 12 ls [.ref q9]) rfl ?_
    have hP : va_P (DG G) clP1 [(o1, .inl (cyA G 2, 1, .inr (.inl (fun _ => 0))))] H := hP
    have hD : va_D A [(o1, .inl (cyA G 2, 1, .inr (.inl (fun _ => 0))))] := hD
    refine lv_astore_n (lv' := [(3, .ref q9), (0, .ref h0), (1, .int p0), (2, .ref o1)]) hx hb dL_typeOf_12 rfl hl (by decide) rfl (fun ls hl => ?_)
    refine lv_iconst (v := 1) hx hb dL_typeOf_13 (by decide) ?_
    have hP9 := hP.sub (ws' := [(o1, .inl (cyA G 2, 1, .inr (.inl (fun _ => 0))))]) [0] rfl
    have hD9 := hD.sub (ws' := [(o1, .inl (cyA G 2, 1, .inr (.inl (fun _ => 0))))]) [0] (by decide) rfl
    refine W.widen (k := 1) (n := 6) (Nat.le_of_ble_eq_true rfl) (Nat.le_of_ble_eq_true rfl) ?_
    exact vx_ret (W.iret (v := 1) hx hb hr (fun t ht hW => ⟨⟨1, (), rfl, rfl, ⟨by rw [ht]; exact hP9, hD9⟩⟩, hS.F ht⟩) hS.2.2 dL_typeOf_14 hlocks)
  · exact hw.elim
set_option maxHeartbeats 4000000 in
set_option maxRecDepth 100000 in
theorem k_L_level (l : Launch) (hfl : l.stackTraces = false) (G : GC) (h0 : Nat) (p0 : Int32) (o1 : Nat) (t1 : Nat) (f1 : Nat) (s1 : Nat) (d1 : Nat) (y1 : Nat) (g1 : Nat) (m1 : Nat) (n1 : Nat) (sz : Nat) : vx_Met l yL_level (Cond.codeWith yL_level cL_level 4 (some .int) [(0, 9, 12, 24), (0, 9, 15, 60)] :: W0) ({ frames := 8, cells := 1, slots := 6, locals := 125 }) (va_Pc [.ref h0, .int p0, .ref o1] (WD G [(h0, .inr (10, [.ref t1, .ref f1, .ref s1, .ref d1, .ref y1, .ref g1, .ref m1, .ref n1, .int 0, .long 0])), (o1, .inl (cyA G 2, 1, .inr (.inl (fun _ => 0))))] sz)) (va_Qi (fun (r : Int32) (_ : Unit) => r = 1) (fun _ t => PW G (va_A [(h0, .inr (10, [.ref t1, .ref f1, .ref s1, .ref d1, .ref y1, .ref g1, .ref m1, .ref n1, .int 0, .long 0])), (o1, .inl (cyA G 2, 1, .inr (.inl (fun _ => 0))))] sz) [(o1, .inl (cyA G 2, 1, .inr (.inl (fun _ => 0))))] t) (va_A [(h0, .inr (10, [.ref t1, .ref f1, .ref s1, .ref d1, .ref y1, .ref g1, .ref m1, .ref n1, .int 0, .long 0])), (o1, .inl (cyA G 2, 1, .inr (.inl (fun _ => 0))))] sz)) (vx_X (fun _ : Unit => False) (fun (_ : String) (_ : Unit) (_ : State) => True) (va_A [(h0, .inr (10, [.ref t1, .ref f1, .ref s1, .ref d1, .ref y1, .ref g1, .ref m1, .ref n1, .int 0, .long 0])), (o1, .inl (cyA G 2, 1, .inr (.inl (fun _ => 0))))] sz)) 1 6 (va_A [(h0, .inr (10, [.ref t1, .ref f1, .ref s1, .ref d1, .ref y1, .ref g1, .ref m1, .ref n1, .int 0, .long 0])), (o1, .inl (cyA G 2, 1, .inr (.inl (fun _ => 0))))] sz) := by
  refine vx_ofWH (cc := cL_level) (maxL := 4) (ret := (some .int)) (hh := [(0, 9, 12, 24), (0, 9, 15, 60)]) (by decide) rfl ?_
  intro p e s m args below meth c s₁ B hml hv
  obtain ⟨rfl, hsz, hP, hK, hD0, hE⟩ := hv
  have hx := B.exec
  have hb := B.bytes
  have hr := B.returns
  have hts := w0_tail B.pre
  have hown : s.vm.findClass RL = some m.cls := findClass_of_methodNamed B.named
  have hlocks := B.notSynchronized
  have htab := vx_table (x := yL_level) B (hts _ wm846)
  subst hsz
  have hD := hD0.self (sz := s.heap.size)
  generalize hAe : va_A [(h0, .inr (10, [.ref t1, .ref f1, .ref s1, .ref d1, .ref y1, .ref g1, .ref m1, .ref n1, .int 0, .long 0])), (o1, .inl (cyA G 2, 1, .inr (.inl (fun _ => 0))))] s.heap.size = A at hD hE ⊢
  have hA : ∀ q : Nat, s.heap.size ≤ q → A q := fun q h => by rw [← hAe]; exact Or.inr h
  have hS : va_S A s.heap s.heap [] := va_S.rf
  obtain ⟨H, hHe⟩ : ∃ H : Heap, H = s.heap := ⟨_, rfl⟩
  have hP : va_P (DG G) clP1 [(h0, .inr (10, [.ref t1, .ref f1, .ref s1, .ref d1, .ref y1, .ref g1, .ref m1, .ref n1, .int 0, .long 0])), (o1, .inl (cyA G 2, 1, .inr (.inl (fun _ => 0))))] H := by rw [hHe]; exact hP
  have hS : va_S A s.heap H [] := by rw [hHe]; exact hS
  have hl := lv_entry ([.ref h0, .int p0, .ref o1]) (n := 4) (Nat.le_of_ble_eq_true rfl)
  rw [lg_entry_eq, ← hHe]
  generalize (lg_sl ([.ref h0, .int p0, .ref o1]) ++ List.replicate (4 - (lg_sl ([.ref h0, .int p0, .ref o1])).length) Slot.unset).toArray = ls at hl ⊢
  have hl : lv_has ls 4 [(0, .ref h0), (1, .int p0), (2, .ref o1)] := hl
  refine lv_aload_n hx hb dL_level_0 rfl (lv_at hl 2 rfl) ?_
  refine lv_iconst (v := 0) hx hb dL_level_1 (by decide) ?_
  refine lv_aload_n hx hb dL_level_2 rfl (lv_at hl 0 rfl) ?_
  refine lv_iload_n hx hb dL_level_3 rfl (lv_at hl 1 rfl) ?_
  have hFc := va_free (wc := [(h0, .inr (10, [.ref t1, .ref f1, .ref s1, .ref d1, .ref y1, .ref g1, .ref m1, .ref n1, .int 0, .long 0]))]) hD hS hA [0] rfl
  refine vx_calli (vx_runV (As := [.int p0]) (rest := [.int 0, .ref o1]) ⟨hx, hb, hml, hown, hts⟩ (k_X11_level l hfl G h0 p0 t1 f1 s1 d1 y1 g1 m1 n1 H.size) (cwV 1 hts (gV wm847 wm848 wm849 wm1 wm850) rfl rfl rfl (by decide +kernel) ⟨Nat.le_of_ble_eq_true rfl, Nat.le_of_ble_eq_true rfl⟩) (pre_v (pre_s hK hP hD hS hE [0] rfl rfl (by decide) hFc) (va_recv hK hP (ci := 10) (q0 := 0) rfl rfl)) rfl rfl hl.1 rfl (lv_room (Nat.le_of_ble_eq_true rfl)) dL_level_4 ⟨Nat.le_of_ble_eq_true rfl, Nat.le_of_ble_eq_true rfl⟩) hS (fun q _ h => hFc q h) hFc (fun q _ h => hFc q h) (fun E ce q9 u t H locs ht hvm hpx hBX hz1 hk1 hS hce hv9 hcl => ?_) (fun r u t H locs ht hvm hw hB hz1 hk1 hS => ?_)
  · have hBX : E = "java/lang/IndexOutOfBoundsException" := hBX
    subst hBX
    obtain ⟨hP, hD⟩ := va_join (wr := [(o1, .inl (cyA G 2, 1, .inr (.inl (fun _ => 0))))]) (w1 := []) hP hD [0] [1] rfl rfl (by decide) (by decide) hk1 hFc nilP nilD
    refine vx_widen (k := 1) (n := 6) (Nat.le_of_ble_eq_true rfl) (Nat.le_of_ble_eq_true rfl) ?_
    refine vx_catch hown (tableOf []) ⟨0, 9, 12, 24⟩ (tableOf [(0, 9, 15, 60)]) (htab.trans rfl) xP0 (by decide) (by decide) (hts _ wm638) (va_Nw.use rfl (hE.1 _ nw676)) hce hv9 hcl ?_
    refine W.eq (g2 := F0 m 12 ls [.ref q9]) rfl ?_
    have hP : va_P (DG G) clP1 [(o1, .inl (cyA G 2, 1, .inr (.inl (fun _ => 0))))] H := hP
    have hD : va_D A [(o1, .inl (cyA G 2, 1, .inr (.inl (fun _ => 0))))] := hD
    refine lv_astore_n (lv' := [(3, .ref q9), (0, .ref h0), (1, .int p0), (2, .ref o1)]) hx hb dL_level_12 rfl hl (by decide) rfl (fun ls hl => ?_)
    refine lv_iconst (v := 1) hx hb dL_level_13 (by decide) ?_
    have hP9 := hP.sub (ws' := [(o1, .inl (cyA G 2, 1, .inr (.inl (fun _ => 0))))]) [0] rfl
    have hD9 := hD.sub (ws' := [(o1, .inl (cyA G 2, 1, .inr (.inl (fun _ => 0))))]) [0] (by decide) rfl
    refine W.widen (k := 1) (n := 6) (Nat.le_of_ble_eq_true rfl) (Nat.le_of_ble_eq_true rfl) ?_
    exact vx_ret (W.iret (v := 1) hx hb hr (fun t ht hW => ⟨⟨1, (), rfl, rfl, ⟨by rw [ht]; exact hP9, hD9⟩⟩, hS.F ht⟩) hS.2.2 dL_level_14 hlocks)
  · exact hw.elim
set_option maxHeartbeats 4000000 in
set_option maxRecDepth 100000 in
theorem k_L_isOf (l : Launch) (hfl : l.stackTraces = false) (G : GC) (h0 : Nat) (p0 : Int32) (p1 : Int32) (o1 : Nat) (t1 : Nat) (f1 : Nat) (s1 : Nat) (d1 : Nat) (y1 : Nat) (g1 : Nat) (m1 : Nat) (n1 : Nat) (sz : Nat) : vx_Met l yL_isOf (Cond.codeWith yL_isOf cL_isOf 5 (some .int) [(0, 17, 20, 24)] :: W0) ({ frames := 8, cells := 1, slots := 6, locals := 131 }) (va_Pc [.ref h0, .int p0, .int p1, .ref o1] (WD G [(h0, .inr (10, [.ref t1, .ref f1, .ref s1, .ref d1, .ref y1, .ref g1, .ref m1, .ref n1, .int 0, .long 0])), (o1, .inl (cyA G 2, 1, .inr (.inl (fun _ => 0))))] sz)) (va_Qi (fun (r : Int32) (_ : Unit) => r = 1) (fun _ t => PW G (va_A [(h0, .inr (10, [.ref t1, .ref f1, .ref s1, .ref d1, .ref y1, .ref g1, .ref m1, .ref n1, .int 0, .long 0])), (o1, .inl (cyA G 2, 1, .inr (.inl (fun _ => 0))))] sz) [(o1, .inl (cyA G 2, 1, .inr (.inl (fun _ => 0))))] t) (va_A [(h0, .inr (10, [.ref t1, .ref f1, .ref s1, .ref d1, .ref y1, .ref g1, .ref m1, .ref n1, .int 0, .long 0])), (o1, .inl (cyA G 2, 1, .inr (.inl (fun _ => 0))))] sz)) (vx_X (fun _ : Unit => False) (fun (_ : String) (_ : Unit) (_ : State) => True) (va_A [(h0, .inr (10, [.ref t1, .ref f1, .ref s1, .ref d1, .ref y1, .ref g1, .ref m1, .ref n1, .int 0, .long 0])), (o1, .inl (cyA G 2, 1, .inr (.inl (fun _ => 0))))] sz)) 1 6 (va_A [(h0, .inr (10, [.ref t1, .ref f1, .ref s1, .ref d1, .ref y1, .ref g1, .ref m1, .ref n1, .int 0, .long 0])), (o1, .inl (cyA G 2, 1, .inr (.inl (fun _ => 0))))] sz) := by
  refine vx_ofWH (cc := cL_isOf) (maxL := 5) (ret := (some .int)) (hh := [(0, 17, 20, 24)]) (by decide) rfl ?_
  intro p e s m args below meth c s₁ B hml hv
  obtain ⟨rfl, hsz, hP, hK, hD0, hE⟩ := hv
  have hx := B.exec
  have hb := B.bytes
  have hr := B.returns
  have hts := w0_tail B.pre
  have hown : s.vm.findClass RL = some m.cls := findClass_of_methodNamed B.named
  have hlocks := B.notSynchronized
  have htab := vx_table (x := yL_isOf) B (hts _ wm858)
  subst hsz
  have hD := hD0.self (sz := s.heap.size)
  generalize hAe : va_A [(h0, .inr (10, [.ref t1, .ref f1, .ref s1, .ref d1, .ref y1, .ref g1, .ref m1, .ref n1, .int 0, .long 0])), (o1, .inl (cyA G 2, 1, .inr (.inl (fun _ => 0))))] s.heap.size = A at hD hE ⊢
  have hA : ∀ q : Nat, s.heap.size ≤ q → A q := fun q h => by rw [← hAe]; exact Or.inr h
  have hS : va_S A s.heap s.heap [] := va_S.rf
  obtain ⟨H, hHe⟩ : ∃ H : Heap, H = s.heap := ⟨_, rfl⟩
  have hP : va_P (DG G) clP1 [(h0, .inr (10, [.ref t1, .ref f1, .ref s1, .ref d1, .ref y1, .ref g1, .ref m1, .ref n1, .int 0, .long 0])), (o1, .inl (cyA G 2, 1, .inr (.inl (fun _ => 0))))] H := by rw [hHe]; exact hP
  have hS : va_S A s.heap H [] := by rw [hHe]; exact hS
  have hl := lv_entry ([.ref h0, .int p0, .int p1, .ref o1]) (n := 5) (Nat.le_of_ble_eq_true rfl)
  rw [lg_entry_eq, ← hHe]
  generalize (lg_sl ([.ref h0, .int p0, .int p1, .ref o1]) ++ List.replicate (5 - (lg_sl ([.ref h0, .int p0, .int p1, .ref o1])).length) Slot.unset).toArray = ls at hl ⊢
  have hl : lv_has ls 5 [(0, .ref h0), (1, .int p0), (2, .int p1), (3, .ref o1)] := hl
  refine lv_aload_n hx hb dL_isOf_0 rfl (lv_at hl 3 rfl) ?_
  refine lv_iconst (v := 0) hx hb dL_isOf_1 (by decide) ?_
  refine lv_aload_n hx hb dL_isOf_2 rfl (lv_at hl 0 rfl) ?_
  refine lv_iload_n hx hb dL_isOf_3 rfl (lv_at hl 1 rfl) ?_
  refine lv_iload_n hx hb dL_isOf_4 rfl (lv_at hl 2 rfl) ?_
  have hFc := va_free (wc := [(h0, .inr (10, [.ref t1, .ref f1, .ref s1, .ref d1, .ref y1, .ref g1, .ref m1, .ref n1, .int 0, .long 0]))]) hD hS hA [0] rfl
  refine vx_calli (vx_runV (As := [.int p0, .int p1]) (rest := [.int 0, .ref o1]) ⟨hx, hb, hml, hown, hts⟩ (k_X11_isOf l hfl G h0 p0 p1 t1 f1 s1 d1 y1 g1 m1 n1 H.size) (cwV 2 hts (gV wm859 wm860 wm861 wm1 wm862) rfl rfl rfl (by decide +kernel) ⟨Nat.le_of_ble_eq_true rfl, Nat.le_of_ble_eq_true rfl⟩) (pre_v (pre_s hK hP hD hS hE [0] rfl rfl (by decide) hFc) (va_recv hK hP (ci := 10) (q0 := 0) rfl rfl)) rfl rfl hl.1 rfl (lv_room (Nat.le_of_ble_eq_true rfl)) dL_isOf_5 ⟨Nat.le_of_ble_eq_true rfl, Nat.le_of_ble_eq_true rfl⟩) hS (fun q _ h => hFc q h) hFc (fun q _ h => hFc q h) (fun E ce q9 u t H locs ht hvm hpx hBX hz1 hk1 hS hce hv9 hcl => ?_) (fun r u t H locs ht hvm hw hB hz1 hk1 hS => ?_)
  · have hBX : E = "java/lang/IndexOutOfBoundsException" := hBX
    subst hBX
    obtain ⟨hP, hD⟩ := va_join (wr := [(o1, .inl (cyA G 2, 1, .inr (.inl (fun _ => 0))))]) (w1 := []) hP hD [0] [1] rfl rfl (by decide) (by decide) hk1 hFc nilP nilD
    refine vx_widen (k := 1) (n := 6) (Nat.le_of_ble_eq_true rfl) (Nat.le_of_ble_eq_true rfl) ?_
    refine vx_catch hown (tableOf []) ⟨0, 17, 20, 24⟩ (tableOf []) (htab.trans rfl) xP0 (by decide) (by decide) (hts _ wm638) (va_Nw.use rfl (hE.1 _ nw676)) hce hv9 hcl ?_
    refine W.eq (g2 := F0 m 20 ls [.ref q9]) rfl ?_
    have hP : va_P (DG G) clP1 [(o1, .inl (cyA G 2, 1, .inr (.inl (fun _ => 0))))] H := hP
    have hD : va_D A [(o1, .inl (cyA G 2, 1, .inr (.inl (fun _ => 0))))] := hD
    refine lv_astore (lv' := [(4, .ref q9), (0, .ref h0), (1, .int p0), (2, .int p1), (3, .ref o1)]) hx hb dL_isOf_20 hl (by decide) rfl (fun ls hl => ?_)
    refine lv_iconst (v := 1) hx hb dL_isOf_22 (by decide) ?_
    have hP9 := hP.sub (ws' := [(o1, .inl (cyA G 2, 1, .inr (.inl (fun _ => 0))))]) [0] rfl
    have hD9 := hD.sub (ws' := [(o1, .inl (cyA G 2, 1, .inr (.inl (fun _ => 0))))]) [0] (by decide) rfl
    refine W.widen (k := 1) (n := 6) (Nat.le_of_ble_eq_true rfl) (Nat.le_of_ble_eq_true rfl) ?_
    exact vx_ret (W.iret (v := 1) hx hb hr (fun t ht hW => ⟨⟨1, (), rfl, rfl, ⟨by rw [ht]; exact hP9, hD9⟩⟩, hS.F ht⟩) hS.2.2 dL_isOf_23 hlocks)
  · exact hw.elim
set_option maxHeartbeats 4000000 in
set_option maxRecDepth 100000 in
theorem k_L_declare (l : Launch) (hfl : l.stackTraces = false) (G : GC) (h0 : Nat) (p0 : Int32) (o1 : Nat) (t1 : Nat) (f1 : Nat) (s1 : Nat) (d1 : Nat) (y1 : Nat) (g1 : Nat) (m1 : Nat) (n1 : Nat) (sz : Nat) : vx_Met l yL_declare (Cond.codeWith yL_declare cL_declare 4 (some .int) [(0, 9, 12, 24), (0, 9, 15, 60), (0, 9, 18, 15)] :: W0) ({ frames := 8, cells := 1, slots := 6, locals := 128 }) (va_Pc [.ref h0, .int p0, .ref o1] (WD G [(h0, .inr (10, [.ref t1, .ref f1, .ref s1, .ref d1, .ref y1, .ref g1, .ref m1, .ref n1, .int 0, .long 0])), (o1, .inl (cyA G 2, 1, .inr (.inl (fun _ => 0))))] sz)) (va_Qi (fun (r : Int32) (_ : Unit) => r = 1) (fun _ t => PW G (va_A [(h0, .inr (10, [.ref t1, .ref f1, .ref s1, .ref d1, .ref y1, .ref g1, .ref m1, .ref n1, .int 0, .long 0])), (o1, .inl (cyA G 2, 1, .inr (.inl (fun _ => 0))))] sz) [(o1, .inl (cyA G 2, 1, .inr (.inl (fun _ => 0))))] t) (va_A [(h0, .inr (10, [.ref t1, .ref f1, .ref s1, .ref d1, .ref y1, .ref g1, .ref m1, .ref n1, .int 0, .long 0])), (o1, .inl (cyA G 2, 1, .inr (.inl (fun _ => 0))))] sz)) (vx_X (fun _ : Unit => False) (fun (_ : String) (_ : Unit) (_ : State) => True) (va_A [(h0, .inr (10, [.ref t1, .ref f1, .ref s1, .ref d1, .ref y1, .ref g1, .ref m1, .ref n1, .int 0, .long 0])), (o1, .inl (cyA G 2, 1, .inr (.inl (fun _ => 0))))] sz)) 1 6 (va_A [(h0, .inr (10, [.ref t1, .ref f1, .ref s1, .ref d1, .ref y1, .ref g1, .ref m1, .ref n1, .int 0, .long 0])), (o1, .inl (cyA G 2, 1, .inr (.inl (fun _ => 0))))] sz) := by
  refine vx_ofWH (cc := cL_declare) (maxL := 4) (ret := (some .int)) (hh := [(0, 9, 12, 24), (0, 9, 15, 60), (0, 9, 18, 15)]) (by decide) rfl ?_
  intro p e s m args below meth c s₁ B hml hv
  obtain ⟨rfl, hsz, hP, hK, hD0, hE⟩ := hv
  have hx := B.exec
  have hb := B.bytes
  have hr := B.returns
  have hts := w0_tail B.pre
  have hown : s.vm.findClass RL = some m.cls := findClass_of_methodNamed B.named
  have hlocks := B.notSynchronized
  have htab := vx_table (x := yL_declare) B (hts _ wm866)
  subst hsz
  have hD := hD0.self (sz := s.heap.size)
  generalize hAe : va_A [(h0, .inr (10, [.ref t1, .ref f1, .ref s1, .ref d1, .ref y1, .ref g1, .ref m1, .ref n1, .int 0, .long 0])), (o1, .inl (cyA G 2, 1, .inr (.inl (fun _ => 0))))] s.heap.size = A at hD hE ⊢
  have hA : ∀ q : Nat, s.heap.size ≤ q → A q := fun q h => by rw [← hAe]; exact Or.inr h
  have hS : va_S A s.heap s.heap [] := va_S.rf
  obtain ⟨H, hHe⟩ : ∃ H : Heap, H = s.heap := ⟨_, rfl⟩
  have hP : va_P (DG G) clP1 [(h0, .inr (10, [.ref t1, .ref f1, .ref s1, .ref d1, .ref y1, .ref g1, .ref m1, .ref n1, .int 0, .long 0])), (o1, .inl (cyA G 2, 1, .inr (.inl (fun _ => 0))))] H := by rw [hHe]; exact hP
  have hS : va_S A s.heap H [] := by rw [hHe]; exact hS
  have hl := lv_entry ([.ref h0, .int p0, .ref o1]) (n := 4) (Nat.le_of_ble_eq_true rfl)
  rw [lg_entry_eq, ← hHe]
  generalize (lg_sl ([.ref h0, .int p0, .ref o1]) ++ List.replicate (4 - (lg_sl ([.ref h0, .int p0, .ref o1])).length) Slot.unset).toArray = ls at hl ⊢
  have hl : lv_has ls 4 [(0, .ref h0), (1, .int p0), (2, .ref o1)] := hl
  refine lv_aload_n hx hb dL_declare_0 rfl (lv_at hl 2 rfl) ?_
  refine lv_iconst (v := 0) hx hb dL_declare_1 (by decide) ?_
  refine lv_aload_n hx hb dL_declare_2 rfl (lv_at hl 0 rfl) ?_
  refine lv_iload_n hx hb dL_declare_3 rfl (lv_at hl 1 rfl) ?_
  have hFc := va_free (wc := [(h0, .inr (10, [.ref t1, .ref f1, .ref s1, .ref d1, .ref y1, .ref g1, .ref m1, .ref n1, .int 0, .long 0]))]) hD hS hA [0] rfl
  refine vx_calli (vx_runV (As := [.int p0]) (rest := [.int 0, .ref o1]) ⟨hx, hb, hml, hown, hts⟩ (k_X11_declare l hfl G h0 p0 t1 f1 s1 d1 y1 g1 m1 n1 H.size) (cwV 1 hts (gV wm867 wm868 wm869 wm1 wm870) rfl rfl rfl (by decide +kernel) ⟨Nat.le_of_ble_eq_true rfl, Nat.le_of_ble_eq_true rfl⟩) (pre_v (pre_s hK hP hD hS hE [0] rfl rfl (by decide) hFc) (va_recv hK hP (ci := 10) (q0 := 0) rfl rfl)) rfl rfl hl.1 rfl (lv_room (Nat.le_of_ble_eq_true rfl)) dL_declare_4 ⟨Nat.le_of_ble_eq_true rfl, Nat.le_of_ble_eq_true rfl⟩) hS (fun q _ h => hFc q h) hFc (fun q _ h => hFc q h) (fun E ce q9 u t H locs ht hvm hpx hBX hz1 hk1 hS hce hv9 hcl => ?_) (fun r u t H locs ht hvm hw hB hz1 hk1 hS => ?_)
  · have hBX : E = "java/lang/IndexOutOfBoundsException" := hBX
    subst hBX
    obtain ⟨hP, hD⟩ := va_join (wr := [(o1, .inl (cyA G 2, 1, .inr (.inl (fun _ => 0))))]) (w1 := []) hP hD [0] [1] rfl rfl (by decide) (by decide) hk1 hFc nilP nilD
    refine vx_widen (k := 1) (n := 6) (Nat.le_of_ble_eq_true rfl) (Nat.le_of_ble_eq_true rfl) ?_
    refine vx_catch hown (tableOf []) ⟨0, 9, 12, 24⟩ (tableOf [(0, 9, 15, 60), (0, 9, 18, 15)]) (htab.trans rfl) xP0 (by decide) (by decide) (hts _ wm638) (va_Nw.use rfl (hE.1 _ nw676)) hce hv9 hcl ?_
    refine W.eq (g2 := F0 m 12 ls [.ref q9]) rfl ?_
    have hP : va_P (DG G) clP1 [(o1, .inl (cyA G 2, 1, .inr (.inl (fun _ => 0))))] H := hP
    have hD : va_D A [(o1, .inl (cyA G 2, 1, .inr (.inl (fun _ => 0))))] := hD
    refine lv_astore_n (lv' := [(3, .ref q9), (0, .ref h0), (1, .int p0), (2, .ref o1)]) hx hb dL_declare_12 rfl hl (by decide) rfl (fun ls hl => ?_)
    refine lv_iconst (v := 1) hx hb dL_declare_13 (by decide) ?_
    have hP9 := hP.sub (ws' := [(o1, .inl (cyA G 2, 1, .inr (.inl (fun _ => 0))))]) [0] rfl
    have hD9 := hD.sub (ws' := [(o1, .inl (cyA G 2, 1, .inr (.inl (fun _ => 0))))]) [0] (by decide) rfl
    refine W.widen (k := 1) (n := 6) (Nat.le_of_ble_eq_true rfl) (Nat.le_of_ble_eq_true rfl) ?_
    exact vx_ret (W.iret (v := 1) hx hb hr (fun t ht hW => ⟨⟨1, (), rfl, rfl, ⟨by rw [ht]; exact hP9, hD9⟩⟩, hS.F ht⟩) hS.2.2 dL_declare_14 hlocks)
  · exact hw.elim
set_option maxHeartbeats 4000000 in
set_option maxRecDepth 100000 in
theorem k_L_split (l : Launch) (hfl : l.stackTraces = false) (G : GC) (h0 : Nat) (p0 : Int32) (p1 : Int32) (o1 : Nat) (t1 : Nat) (f1 : Nat) (s1 : Nat) (d1 : Nat) (y1 : Nat) (g1 : Nat) (m1 : Nat) (n1 : Nat) (df0 : Nat) (df1 : Nat) (df2 : Nat) (df3 : Nat) (df4 : Nat) (sz : Nat) : vx_Met l yL_split (Cond.codeWith yL_split cL_split 5 (some .int) [(0, 10, 13, 35), (0, 10, 17, 24), (0, 10, 21, 15), (0, 10, 25, 60)] :: W0) ({ frames := 8, cells := 1, slots := 6, locals := 128 }) (va_Pc [.ref h0, .int p0, .int p1, .ref o1] (WD G [(h0, .inr (10, [.ref t1, .ref f1, .ref s1, .ref d1, .ref y1, .ref g1, .ref m1, .ref n1, .int 0, .long 0])), (d1, .inr (2, [.ref df0, .ref df1, .ref df2, .ref df3, .ref df4, .int 0, .int 0, .int 0])), (o1, .inl (cyA G 2, 1, .inr (.inl (fun _ => 0))))] sz)) (va_Qi (fun (r : Int32) (_ : Unit) => r = 1) (fun _ t => PW G (va_A [(h0, .inr (10, [.ref t1, .ref f1, .ref s1, .ref d1, .ref y1, .ref g1, .ref m1, .ref n1, .int 0, .long 0])), (d1, .inr (2, [.ref df0, .ref df1, .ref df2, .ref df3, .ref df4, .int 0, .int 0, .int 0])), (o1, .inl (cyA G 2, 1, .inr (.inl (fun _ => 0))))] sz) [(o1, .inl (cyA G 2, 1, .inr (.inl (fun _ => 0))))] t) (va_A [(h0, .inr (10, [.ref t1, .ref f1, .ref s1, .ref d1, .ref y1, .ref g1, .ref m1, .ref n1, .int 0, .long 0])), (d1, .inr (2, [.ref df0, .ref df1, .ref df2, .ref df3, .ref df4, .int 0, .int 0, .int 0])), (o1, .inl (cyA G 2, 1, .inr (.inl (fun _ => 0))))] sz)) (vx_X (fun _ : Unit => False) (fun (_ : String) (_ : Unit) (_ : State) => True) (va_A [(h0, .inr (10, [.ref t1, .ref f1, .ref s1, .ref d1, .ref y1, .ref g1, .ref m1, .ref n1, .int 0, .long 0])), (d1, .inr (2, [.ref df0, .ref df1, .ref df2, .ref df3, .ref df4, .int 0, .int 0, .int 0])), (o1, .inl (cyA G 2, 1, .inr (.inl (fun _ => 0))))] sz)) 1 6 (va_A [(h0, .inr (10, [.ref t1, .ref f1, .ref s1, .ref d1, .ref y1, .ref g1, .ref m1, .ref n1, .int 0, .long 0])), (d1, .inr (2, [.ref df0, .ref df1, .ref df2, .ref df3, .ref df4, .int 0, .int 0, .int 0])), (o1, .inl (cyA G 2, 1, .inr (.inl (fun _ => 0))))] sz) := by
  refine vx_ofWH (cc := cL_split) (maxL := 5) (ret := (some .int)) (hh := [(0, 10, 13, 35), (0, 10, 17, 24), (0, 10, 21, 15), (0, 10, 25, 60)]) (by decide) rfl ?_
  intro p e s m args below meth c s₁ B hml hv
  obtain ⟨rfl, hsz, hP, hK, hD0, hE⟩ := hv
  have hx := B.exec
  have hb := B.bytes
  have hr := B.returns
  have hts := w0_tail B.pre
  have hown : s.vm.findClass RL = some m.cls := findClass_of_methodNamed B.named
  have hlocks := B.notSynchronized
  have htab := vx_table (x := yL_split) B (hts _ wm961)
  subst hsz
  have hD := hD0.self (sz := s.heap.size)
  generalize hAe : va_A [(h0, .inr (10, [.ref t1, .ref f1, .ref s1, .ref d1, .ref y1, .ref g1, .ref m1, .ref n1, .int 0, .long 0])), (d1, .inr (2, [.ref df0, .ref df1, .ref df2, .ref df3, .ref df4, .int 0, .int 0, .int 0])), (o1, .inl (cyA G 2, 1, .inr (.inl (fun _ => 0))))] s.heap.size = A at hD hE ⊢
  have hA : ∀ q : Nat, s.heap.size ≤ q → A q := fun q h => by rw [← hAe]; exact Or.inr h
  have hS : va_S A s.heap s.heap [] := va_S.rf
  obtain ⟨H, hHe⟩ : ∃ H : Heap, H = s.heap := ⟨_, rfl⟩
  have hP : va_P (DG G) clP1 [(h0, .inr (10, [.ref t1, .ref f1, .ref s1, .ref d1, .ref y1, .ref g1, .ref m1, .ref n1, .int 0, .long 0])), (d1, .inr (2, [.ref df0, .ref df1, .ref df2, .ref df3, .ref df4, .int 0, .int 0, .int 0])), (o1, .inl (cyA G 2, 1, .inr (.inl (fun _ => 0))))] H := by rw [hHe]; exact hP
  have hS : va_S A s.heap H [] := by rw [hHe]; exact hS
  have hl := lv_entry ([.ref h0, .int p0, .int p1, .ref o1]) (n := 5) (Nat.le_of_ble_eq_true rfl)
  rw [lg_entry_eq, ← hHe]
  generalize (lg_sl ([.ref h0, .int p0, .int p1, .ref o1]) ++ List.replicate (5 - (lg_sl ([.ref h0, .int p0, .int p1, .ref o1])).length) Slot.unset).toArray = ls at hl ⊢
  have hl : lv_has ls 5 [(0, .ref h0), (1, .int p0), (2, .int p1), (3, .ref o1)] := hl
  refine lv_aload_n hx hb dL_split_0 rfl (lv_at hl 3 rfl) ?_
  refine lv_iconst (v := 0) hx hb dL_split_1 (by decide) ?_
  refine lv_aload_n hx hb dL_split_2 rfl (lv_at hl 0 rfl) ?_
  refine lv_iload_n hx hb dL_split_3 rfl (lv_at hl 1 rfl) ?_
  refine lv_iload_n hx hb dL_split_4 rfl (lv_at hl 2 rfl) ?_
  have hFc := va_free (wc := [(h0, .inr (10, [.ref t1, .ref f1, .ref s1, .ref d1, .ref y1, .ref g1, .ref m1, .ref n1, .int 0, .long 0])), (d1, .inr (2, [.ref df0, .ref df1, .ref df2, .ref df3, .ref df4, .int 0, .int 0, .int 0]))]) hD hS hA [0, 1] rfl
  refine vx_calli (vx_runV (As := [.int p0, .int p1]) (rest := [.int 0, .ref o1]) ⟨hx, hb, hml, hown, hts⟩ (k_X11_split l hfl G h0 p0 p1 t1 f1 s1 d1 y1 g1 m1 n1 df0 df1 df2 df3 df4 H.size) (cwV 2 hts (gV wm962 wm963 wm964 wm1 wm965) rfl rfl rfl (by decide +kernel) ⟨Nat.le_of_ble_eq_true rfl, Nat.le_of_ble_eq_true rfl⟩) (pre_v (pre_s hK hP hD hS hE [0, 1] rfl rfl (by decide) hFc) (va_recv hK hP (ci := 10) (q0 := 0) rfl rfl)) rfl rfl hl.1 rfl (lv_room (Nat.le_of_ble_eq_true rfl)) dL_split_5 ⟨Nat.le_of_ble_eq_true rfl, Nat.le_of_ble_eq_true rfl⟩) hS (fun q _ h => hFc q h) hFc (fun q _ h => hFc q h) (fun E ce q9 u t H locs ht hvm hpx hBX hz1 hk1 hS hce hv9 hcl => ?_) (fun r u t H locs ht hvm hw hB hz1 hk1 hS => ?_)
  · have hBX : E = "java/util/NoSuchElementException" := hBX
    subst hBX
    obtain ⟨hP, hD⟩ := va_join (wr := [(o1, .inl (cyA G 2, 1, .inr (.inl (fun _ => 0))))]) (w1 := []) hP hD [0, 1] [2] rfl rfl (by decide) (by decide) hk1 hFc nilP nilD
    refine vx_widen (k := 1) (n := 6) (Nat.le_of_ble_eq_true rfl) (Nat.le_of_ble_eq_true rfl) ?_
    refine vx_catch hown (tableOf []) ⟨0, 10, 13, 35⟩ (tableOf [(0, 10, 17, 24), (0, 10, 21, 15), (0, 10, 25, 60)]) (htab.trans rfl) xP0 (by decide) (by decide) (hts _ wm707) (va_Nw.use rfl (hE.1 _ nw718)) hce hv9 hcl ?_
    refine W.eq (g2 := F0 m 13 ls [.ref q9]) rfl ?_
    have hP : va_P (DG G) clP1 [(o1, .inl (cyA G 2, 1, .inr (.inl (fun _ => 0))))] H := hP
    have hD : va_D A [(o1, .inl (cyA G 2, 1, .inr (.inl (fun _ => 0))))] := hD
    refine lv_astore (lv' := [(4, .ref q9), (0, .ref h0), (1, .int p0), (2, .int p1), (3, .ref o1)]) hx hb dL_split_13 hl (by decide) rfl (fun ls hl => ?_)
    refine lv_iconst (v := 1) hx hb dL_split_15 (by decide) ?_
    have hP9 := hP.sub (ws' := [(o1, .inl (cyA G 2, 1, .inr (.inl (fun _ => 0))))]) [0] rfl
    have hD9 := hD.sub (ws' := [(o1, .inl (cyA G 2, 1, .inr (.inl (fun _ => 0))))]) [0] (by decide) rfl
    refine W.widen (k := 1) (n := 6) (Nat.le_of_ble_eq_true rfl) (Nat.le_of_ble_eq_true rfl) ?_
    exact vx_ret (W.iret (v := 1) hx hb hr (fun t ht hW => ⟨⟨1, (), rfl, rfl, ⟨by rw [ht]; exact hP9, hD9⟩⟩, hS.F ht⟩) hS.2.2 dL_split_16 hlocks)
  · exact hw.elim
set_option maxHeartbeats 4000000 in
set_option maxRecDepth 100000 in
theorem k_L_fill (l : Launch) (hfl : l.stackTraces = false) (G : GC) (h0 : Nat) (p0 : Int32) (p1 : Int32) (o1 : Nat) (t1 : Nat) (f1 : Nat) (s1 : Nat) (d1 : Nat) (y1 : Nat) (g1 : Nat) (m1 : Nat) (n1 : Nat) (df0 : Nat) (df1 : Nat) (df2 : Nat) (df3 : Nat) (df4 : Nat) (sz : Nat) : vx_Met l yL_fill (Cond.codeWith yL_fill cL_fill 5 (some .int) [(0, 10, 13, 35), (0, 10, 17, 24), (0, 10, 21, 15), (0, 10, 25, 60)] :: W0) ({ frames := 8, cells := 1, slots := 6, locals := 129 }) (va_Pc [.ref h0, .int p0, .int p1, .ref o1] (WD G [(h0, .inr (10, [.ref t1, .ref f1, .ref s1, .ref d1, .ref y1, .ref g1, .ref m1, .ref n1, .int 0, .long 0])), (d1, .inr (2, [.ref df0, .ref df1, .ref df2, .ref df3, .ref df4, .int 0, .int 0, .int 0])), (o1, .inl (cyA G 2, 1, .inr (.inl (fun _ => 0))))] sz)) (va_Qi (fun (r : Int32) (_ : Unit) => r = 1) (fun _ t => PW G (va_A [(h0, .inr (10, [.ref t1, .ref f1, .ref s1, .ref d1, .ref y1, .ref g1, .ref m1, .ref n1, .int 0, .long 0])), (d1, .inr (2, [.ref df0, .ref df1, .ref df2, .ref df3, .ref df4, .int 0, .int 0, .int 0])), (o1, .inl (cyA G 2, 1, .inr (.inl (fun _ => 0))))] sz) [(o1, .inl (cyA G 2, 1, .inr (.inl (fun _ => 0))))] t) (va_A [(h0, .inr (10, [.ref t1, .ref f1, .ref s1, .ref d1, .ref y1, .ref g1, .ref m1, .ref n1, .int 0, .long 0])), (d1, .inr (2, [.ref df0, .ref df1, .ref df2, .ref df3, .ref df4, .int 0, .int 0, .int 0])), (o1, .inl (cyA G 2, 1, .inr (.inl (fun _ => 0))))] sz)) (vx_X (fun _ : Unit => False) (fun (_ : String) (_ : Unit) (_ : State) => True) (va_A [(h0, .inr (10, [.ref t1, .ref f1, .ref s1, .ref d1, .ref y1, .ref g1, .ref m1, .ref n1, .int 0, .long 0])), (d1, .inr (2, [.ref df0, .ref df1, .ref df2, .ref df3, .ref df4, .int 0, .int 0, .int 0])), (o1, .inl (cyA G 2, 1, .inr (.inl (fun _ => 0))))] sz)) 1 6 (va_A [(h0, .inr (10, [.ref t1, .ref f1, .ref s1, .ref d1, .ref y1, .ref g1, .ref m1, .ref n1, .int 0, .long 0])), (d1, .inr (2, [.ref df0, .ref df1, .ref df2, .ref df3, .ref df4, .int 0, .int 0, .int 0])), (o1, .inl (cyA G 2, 1, .inr (.inl (fun _ => 0))))] sz) := by
  refine vx_ofWH (cc := cL_fill) (maxL := 5) (ret := (some .int)) (hh := [(0, 10, 13, 35), (0, 10, 17, 24), (0, 10, 21, 15), (0, 10, 25, 60)]) (by decide) rfl ?_
  intro p e s m args below meth c s₁ B hml hv
  obtain ⟨rfl, hsz, hP, hK, hD0, hE⟩ := hv
  have hx := B.exec
  have hb := B.bytes
  have hr := B.returns
  have hts := w0_tail B.pre
  have hown : s.vm.findClass RL = some m.cls := findClass_of_methodNamed B.named
  have hlocks := B.notSynchronized
  have htab := vx_table (x := yL_fill) B (hts _ wm1031)
  subst hsz
  have hD := hD0.self (sz := s.heap.size)
  generalize hAe : va_A [(h0, .inr (10, [.ref t1, .ref f1, .ref s1, .ref d1, .ref y1, .ref g1, .ref m1, .ref n1, .int 0, .long 0])), (d1, .inr (2, [.ref df0, .ref df1, .ref df2, .ref df3, .ref df4, .int 0, .int 0, .int 0])), (o1, .inl (cyA G 2, 1, .inr (.inl (fun _ => 0))))] s.heap.size = A at hD hE ⊢
  have hA : ∀ q : Nat, s.heap.size ≤ q → A q := fun q h => by rw [← hAe]; exact Or.inr h
  have hS : va_S A s.heap s.heap [] := va_S.rf
  obtain ⟨H, hHe⟩ : ∃ H : Heap, H = s.heap := ⟨_, rfl⟩
  have hP : va_P (DG G) clP1 [(h0, .inr (10, [.ref t1, .ref f1, .ref s1, .ref d1, .ref y1, .ref g1, .ref m1, .ref n1, .int 0, .long 0])), (d1, .inr (2, [.ref df0, .ref df1, .ref df2, .ref df3, .ref df4, .int 0, .int 0, .int 0])), (o1, .inl (cyA G 2, 1, .inr (.inl (fun _ => 0))))] H := by rw [hHe]; exact hP
  have hS : va_S A s.heap H [] := by rw [hHe]; exact hS
  have hl := lv_entry ([.ref h0, .int p0, .int p1, .ref o1]) (n := 5) (Nat.le_of_ble_eq_true rfl)
  rw [lg_entry_eq, ← hHe]
  generalize (lg_sl ([.ref h0, .int p0, .int p1, .ref o1]) ++ List.replicate (5 - (lg_sl ([.ref h0, .int p0, .int p1, .ref o1])).length) Slot.unset).toArray = ls at hl ⊢
  have hl : lv_has ls 5 [(0, .ref h0), (1, .int p0), (2, .int p1), (3, .ref o1)] := hl
  refine lv_aload_n hx hb dL_fill_0 rfl (lv_at hl 3 rfl) ?_
  refine lv_iconst (v := 0) hx hb dL_fill_1 (by decide) ?_
  refine lv_aload_n hx hb dL_fill_2 rfl (lv_at hl 0 rfl) ?_
  refine lv_iload_n hx hb dL_fill_3 rfl (lv_at hl 1 rfl) ?_
  refine lv_iload_n hx hb dL_fill_4 rfl (lv_at hl 2 rfl) ?_
  have hFc := va_free (wc := [(h0, .inr (10, [.ref t1, .ref f1, .ref s1, .ref d1, .ref y1, .ref g1, .ref m1, .ref n1, .int 0, .long 0])), (d1, .inr (2, [.ref df0, .ref df1, .ref df2, .ref df3, .ref df4, .int 0, .int 0, .int 0]))]) hD hS hA [0, 1] rfl
  refine vx_calli (vx_runV (As := [.int p0, .int p1]) (rest := [.int 0, .ref o1]) ⟨hx, hb, hml, hown, hts⟩ (k_X11_fill l hfl G h0 p0 p1 t1 f1 s1 d1 y1 g1 m1 n1 df0 df1 df2 df3 df4 H.size) (cwV 2 hts (gV wm1032 wm1033 wm1034 wm1 wm1035) rfl rfl rfl (by decide +kernel) ⟨Nat.le_of_ble_eq_true rfl, Nat.le_of_ble_eq_true rfl⟩) (pre_v (pre_s hK hP hD hS hE [0, 1] rfl rfl (by decide) hFc) (va_recv hK hP (ci := 10) (q0 := 0) rfl rfl)) rfl rfl hl.1 rfl (lv_room (Nat.le_of_ble_eq_true rfl)) dL_fill_5 ⟨Nat.le_of_ble_eq_true rfl, Nat.le_of_ble_eq_true rfl⟩) hS (fun q _ h => hFc q h) hFc (fun q _ h => hFc q h) (fun E ce q9 u t H locs ht hvm hpx hBX hz1 hk1 hS hce hv9 hcl => ?_) (fun r u t H locs ht hvm hw hB hz1 hk1 hS => ?_)
  · have hBX : E = "java/util/NoSuchElementException" := hBX
    subst hBX
    obtain ⟨hP, hD⟩ := va_join (wr := [(o1, .inl (cyA G 2, 1, .inr (.inl (fun _ => 0))))]) (w1 := []) hP hD [0, 1] [2] rfl rfl (by decide) (by decide) hk1 hFc nilP nilD
    refine vx_widen (k := 1) (n := 6) (Nat.le_of_ble_eq_true rfl) (Nat.le_of_ble_eq_true rfl) ?_
    refine vx_catch hown (tableOf []) ⟨0, 10, 13, 35⟩ (tableOf [(0, 10, 17, 24), (0, 10, 21, 15), (0, 10, 25, 60)]) (htab.trans rfl) xP0 (by decide) (by decide) (hts _ wm707) (va_Nw.use rfl (hE.1 _ nw718)) hce hv9 hcl ?_
    refine W.eq (g2 := F0 m 13 ls [.ref q9]) rfl ?_
    have hP : va_P (DG G) clP1 [(o1, .inl (cyA G 2, 1, .inr (.inl (fun _ => 0))))] H := hP
    have hD : va_D A [(o1, .inl (cyA G 2, 1, .inr (.inl (fun _ => 0))))] := hD
    refine lv_astore (lv' := [(4, .ref q9), (0, .ref h0), (1, .int p0), (2, .int p1), (3, .ref o1)]) hx hb dL_fill_13 hl (by decide) rfl (fun ls hl => ?_)
    refine lv_iconst (v := 1) hx hb dL_fill_15 (by decide) ?_
    have hP9 := hP.sub (ws' := [(o1, .inl (cyA G 2, 1, .inr (.inl (fun _ => 0))))]) [0] rfl
    have hD9 := hD.sub (ws' := [(o1, .inl (cyA G 2, 1, .inr (.inl (fun _ => 0))))]) [0] (by decide) rfl
    refine W.widen (k := 1) (n := 6) (Nat.le_of_ble_eq_true rfl) (Nat.le_of_ble_eq_true rfl) ?_
    exact vx_ret (W.iret (v := 1) hx hb hr (fun t ht hW => ⟨⟨1, (), rfl, rfl, ⟨by rw [ht]; exact hP9, hD9⟩⟩, hS.F ht⟩) hS.2.2 dL_fill_16 hlocks)
  · exact hw.elim
set_option maxHeartbeats 4000000 in
set_option maxRecDepth 100000 in
theorem k_L_auto (l : Launch) (hfl : l.stackTraces = false) (G : GC) (h0 : Nat) (p0 : Int32) (o1 : Nat) (t1 : Nat) (f1 : Nat) (s1 : Nat) (d1 : Nat) (y1 : Nat) (g1 : Nat) (m1 : Nat) (n1 : Nat) (df0 : Nat) (df1 : Nat) (df2 : Nat) (df3 : Nat) (df4 : Nat) (sz : Nat) : vx_Met l yL_auto (Cond.codeWith yL_auto cL_auto 4 (some .int) [(0, 9, 12, 35), (0, 9, 15, 15), (0, 9, 18, 60)] :: W0) ({ frames := 8, cells := 1, slots := 6, locals := 127 }) (va_Pc [.ref h0, .int p0, .ref o1] (WD G [(h0, .inr (10, [.ref t1, .ref f1, .ref s1, .ref d1, .ref y1, .ref g1, .ref m1, .ref n1, .int 0, .long 0])), (d1, .inr (2, [.ref df0, .ref df1, .ref df2, .ref df3, .ref df4, .int 0, .int 0, .int 0])), (o1, .inl (cyA G 2, 1, .inr (.inl (fun _ => 0))))] sz)) (va_Qi (fun (r : Int32) (_ : Unit) => r = 1) (fun _ t => PW G (va_A [(h0, .inr (10, [.ref t1, .ref f1, .ref s1, .ref d1, .ref y1, .ref g1, .ref m1, .ref n1, .int 0, .long 0])), (d1, .inr (2, [.ref df0, .ref df1, .ref df2, .ref df3, .ref df4, .int 0, .int 0, .int 0])), (o1, .inl (cyA G 2, 1, .inr (.inl (fun _ => 0))))] sz) [(o1, .inl (cyA G 2, 1, .inr (.inl (fun _ => 0))))] t) (va_A [(h0, .inr (10, [.ref t1, .ref f1, .ref s1, .ref d1, .ref y1, .ref g1, .ref m1, .ref n1, .int 0, .long 0])), (d1, .inr (2, [.ref df0, .ref df1, .ref df2, .ref df3, .ref df4, .int 0, .int 0, .int 0])), (o1, .inl (cyA G 2, 1, .inr (.inl (fun _ => 0))))] sz)) (vx_X (fun _ : Unit => False) (fun (_ : String) (_ : Unit) (_ : State) => True) (va_A [(h0, .inr (10, [.ref t1, .ref f1, .ref s1, .ref d1, .ref y1, .ref g1, .ref m1, .ref n1, .int 0, .long 0])), (d1, .inr (2, [.ref df0, .ref df1, .ref df2, .ref df3, .ref df4, .int 0, .int 0, .int 0])), (o1, .inl (cyA G 2, 1, .inr (.inl (fun _ => 0))))] sz)) 1 6 (va_A [(h0, .inr (10, [.ref t1, .ref f1, .ref s1, .ref d1, .ref y1, .ref g1, .ref m1, .ref n1, .int 0, .long 0])), (d1, .inr (2, [.ref df0, .ref df1, .ref df2, .ref df3, .ref df4, .int 0, .int 0, .int 0])), (o1, .inl (cyA G 2, 1, .inr (.inl (fun _ => 0))))] sz) := by
  refine vx_ofWH (cc := cL_auto) (maxL := 4) (ret := (some .int)) (hh := [(0, 9, 12, 35), (0, 9, 15, 15), (0, 9, 18, 60)]) (by decide) rfl ?_
  intro p e s m args below meth c s₁ B hml hv
  obtain ⟨rfl, hsz, hP, hK, hD0, hE⟩ := hv
  have hx := B.exec
  have hb := B.bytes
  have hr := B.returns
  have hts := w0_tail B.pre
  have hown : s.vm.findClass RL = some m.cls := findClass_of_methodNamed B.named
  have hlocks := B.notSynchronized
  have htab := vx_table (x := yL_auto) B (hts _ wm1052)
  subst hsz
  have hD := hD0.self (sz := s.heap.size)
  generalize hAe : va_A [(h0, .inr (10, [.ref t1, .ref f1, .ref s1, .ref d1, .ref y1, .ref g1, .ref m1, .ref n1, .int 0, .long 0])), (d1, .inr (2, [.ref df0, .ref df1, .ref df2, .ref df3, .ref df4, .int 0, .int 0, .int 0])), (o1, .inl (cyA G 2, 1, .inr (.inl (fun _ => 0))))] s.heap.size = A at hD hE ⊢
  have hA : ∀ q : Nat, s.heap.size ≤ q → A q := fun q h => by rw [← hAe]; exact Or.inr h
  have hS : va_S A s.heap s.heap [] := va_S.rf
  obtain ⟨H, hHe⟩ : ∃ H : Heap, H = s.heap := ⟨_, rfl⟩
  have hP : va_P (DG G) clP1 [(h0, .inr (10, [.ref t1, .ref f1, .ref s1, .ref d1, .ref y1, .ref g1, .ref m1, .ref n1, .int 0, .long 0])), (d1, .inr (2, [.ref df0, .ref df1, .ref df2, .ref df3, .ref df4, .int 0, .int 0, .int 0])), (o1, .inl (cyA G 2, 1, .inr (.inl (fun _ => 0))))] H := by rw [hHe]; exact hP
  have hS : va_S A s.heap H [] := by rw [hHe]; exact hS
  have hl := lv_entry ([.ref h0, .int p0, .ref o1]) (n := 4) (Nat.le_of_ble_eq_true rfl)
  rw [lg_entry_eq, ← hHe]
  generalize (lg_sl ([.ref h0, .int p0, .ref o1]) ++ List.replicate (4 - (lg_sl ([.ref h0, .int p0, .ref o1])).length) Slot.unset).toArray = ls at hl ⊢
  have hl : lv_has ls 4 [(0, .ref h0), (1, .int p0), (2, .ref o1)] := hl
  refine lv_aload_n hx hb dL_auto_0 rfl (lv_at hl 2 rfl) ?_
  refine lv_iconst (v := 0) hx hb dL_auto_1 (by decide) ?_
  refine lv_aload_n hx hb dL_auto_2 rfl (lv_at hl 0 rfl) ?_
  refine lv_iload_n hx hb dL_auto_3 rfl (lv_at hl 1 rfl) ?_
  have hFc := va_free (wc := [(h0, .inr (10, [.ref t1, .ref f1, .ref s1, .ref d1, .ref y1, .ref g1, .ref m1, .ref n1, .int 0, .long 0])), (d1, .inr (2, [.ref df0, .ref df1, .ref df2, .ref df3, .ref df4, .int 0, .int 0, .int 0]))]) hD hS hA [0, 1] rfl
  refine vx_calli (vx_runV (As := [.int p0]) (rest := [.int 0, .ref o1]) ⟨hx, hb, hml, hown, hts⟩ (k_X11_auto l hfl G h0 p0 t1 f1 s1 d1 y1 g1 m1 n1 df0 df1 df2 df3 df4 H.size) (cwV 1 hts (gV wm1053 wm1054 wm1055 wm1 wm1056) rfl rfl rfl (by decide +kernel) ⟨Nat.le_of_ble_eq_true rfl, Nat.le_of_ble_eq_true rfl⟩) (pre_v (pre_s hK hP hD hS hE [0, 1] rfl rfl (by decide) hFc) (va_recv hK hP (ci := 10) (q0 := 0) rfl rfl)) rfl rfl hl.1 rfl (lv_room (Nat.le_of_ble_eq_true rfl)) dL_auto_4 ⟨Nat.le_of_ble_eq_true rfl, Nat.le_of_ble_eq_true rfl⟩) hS (fun q _ h => hFc q h) hFc (fun q _ h => hFc q h) (fun E ce q9 u t H locs ht hvm hpx hBX hz1 hk1 hS hce hv9 hcl => ?_) (fun r u t H locs ht hvm hw hB hz1 hk1 hS => ?_)
  · have hBX : E = "java/util/NoSuchElementException" := hBX
    subst hBX
    obtain ⟨hP, hD⟩ := va_join (wr := [(o1, .inl (cyA G 2, 1, .inr (.inl (fun _ => 0))))]) (w1 := []) hP hD [0, 1] [2] rfl rfl (by decide) (by decide) hk1 hFc nilP nilD
    refine vx_widen (k := 1) (n := 6) (Nat.le_of_ble_eq_true rfl) (Nat.le_of_ble_eq_true rfl) ?_
    refine vx_catch hown (tableOf []) ⟨0, 9, 12, 35⟩ (tableOf [(0, 9, 15, 15), (0, 9, 18, 60)]) (htab.trans rfl) xP0 (by decide) (by decide) (hts _ wm707) (va_Nw.use rfl (hE.1 _ nw718)) hce hv9 hcl ?_
    refine W.eq (g2 := F0 m 12 ls [.ref q9]) rfl ?_
    have hP : va_P (DG G) clP1 [(o1, .inl (cyA G 2, 1, .inr (.inl (fun _ => 0))))] H := hP
    have hD : va_D A [(o1, .inl (cyA G 2, 1, .inr (.inl (fun _ => 0))))] := hD
    refine lv_astore_n (lv' := [(3, .ref q9), (0, .ref h0), (1, .int p0), (2, .ref o1)]) hx hb dL_auto_12 rfl hl (by decide) rfl (fun ls hl => ?_)
    refine lv_iconst (v := 1) hx hb dL_auto_13 (by decide) ?_
    have hP9 := hP.sub (ws' := [(o1, .inl (cyA G 2, 1, .inr (.inl (fun _ => 0))))]) [0] rfl
    have hD9 := hD.sub (ws' := [(o1, .inl (cyA G 2, 1, .inr (.inl (fun _ => 0))))]) [0] (by decide) rfl
    refine W.widen (k := 1) (n := 6) (Nat.le_of_ble_eq_true rfl) (Nat.le_of_ble_eq_true rfl) ?_
    exact vx_ret (W.iret (v := 1) hx hb hr (fun t ht hW => ⟨⟨1, (), rfl, rfl, ⟨by rw [ht]; exact hP9, hD9⟩⟩, hS.F ht⟩) hS.2.2 dL_auto_14 hlocks)
  · exact hw.elim
set_option maxHeartbeats 4000000 in
set_option maxRecDepth 100000 in
theorem k_L_reopen (l : Launch) (hfl : l.stackTraces = false) (G : GC) (h0 : Nat) (p0 : Int32) (o1 : Nat) (t1 : Nat) (f1 : Nat) (s1 : Nat) (d1 : Nat) (y1 : Nat) (g1 : Nat) (m1 : Nat) (n1 : Nat) (df0 : Nat) (df1 : Nat) (df2 : Nat) (df3 : Nat) (df4 : Nat) (sz : Nat) : vx_Met l yL_reopen (Cond.codeWith yL_reopen cL_reopen 4 (some .int) [(0, 9, 12, 35), (0, 9, 15, 15)] :: W0) ({ frames := 8, cells := 1, slots := 6, locals := 127 }) (va_Pc [.ref h0, .int p0, .ref o1] (WD G [(h0, .inr (10, [.ref t1, .ref f1, .ref s1, .ref d1, .ref y1, .ref g1, .ref m1, .ref n1, .int 0, .long 0])), (d1, .inr (2, [.ref df0, .ref df1, .ref df2, .ref df3, .ref df4, .int 0, .int 0, .int 0])), (o1, .inl (cyA G 2, 1, .inr (.inl (fun _ => 0))))] sz)) (va_Qi (fun (r : Int32) (_ : Unit) => r = 1) (fun _ t => PW G (va_A [(h0, .inr (10, [.ref t1, .ref f1, .ref s1, .ref d1, .ref y1, .ref g1, .ref m1, .ref n1, .int 0, .long 0])), (d1, .inr (2, [.ref df0, .ref df1, .ref df2, .ref df3, .ref df4, .int 0, .int 0, .int 0])), (o1, .inl (cyA G 2, 1, .inr (.inl (fun _ => 0))))] sz) [(o1, .inl (cyA G 2, 1, .inr (.inl (fun _ => 0))))] t) (va_A [(h0, .inr (10, [.ref t1, .ref f1, .ref s1, .ref d1, .ref y1, .ref g1, .ref m1, .ref n1, .int 0, .long 0])), (d1, .inr (2, [.ref df0, .ref df1, .ref df2, .ref df3, .ref df4, .int 0, .int 0, .int 0])), (o1, .inl (cyA G 2, 1, .inr (.inl (fun _ => 0))))] sz)) (vx_X (fun _ : Unit => False) (fun (_ : String) (_ : Unit) (_ : State) => True) (va_A [(h0, .inr (10, [.ref t1, .ref f1, .ref s1, .ref d1, .ref y1, .ref g1, .ref m1, .ref n1, .int 0, .long 0])), (d1, .inr (2, [.ref df0, .ref df1, .ref df2, .ref df3, .ref df4, .int 0, .int 0, .int 0])), (o1, .inl (cyA G 2, 1, .inr (.inl (fun _ => 0))))] sz)) 1 6 (va_A [(h0, .inr (10, [.ref t1, .ref f1, .ref s1, .ref d1, .ref y1, .ref g1, .ref m1, .ref n1, .int 0, .long 0])), (d1, .inr (2, [.ref df0, .ref df1, .ref df2, .ref df3, .ref df4, .int 0, .int 0, .int 0])), (o1, .inl (cyA G 2, 1, .inr (.inl (fun _ => 0))))] sz) := by
  refine vx_ofWH (cc := cL_reopen) (maxL := 4) (ret := (some .int)) (hh := [(0, 9, 12, 35), (0, 9, 15, 15)]) (by decide) rfl ?_
  intro p e s m args below meth c s₁ B hml hv
  obtain ⟨rfl, hsz, hP, hK, hD0, hE⟩ := hv
  have hx := B.exec
  have hb := B.bytes
  have hr := B.returns
  have hts := w0_tail B.pre
  have hown : s.vm.findClass RL = some m.cls := findClass_of_methodNamed B.named
  have hlocks := B.notSynchronized
  have htab := vx_table (x := yL_reopen) B (hts _ wm1065)
  subst hsz
  have hD := hD0.self (sz := s.heap.size)
  generalize hAe : va_A [(h0, .inr (10, [.ref t1, .ref f1, .ref s1, .ref d1, .ref y1, .ref g1, .ref m1, .ref n1, .int 0, .long 0])), (d1, .inr (2, [.ref df0, .ref df1, .ref df2, .ref df3, .ref df4, .int 0, .int 0, .int 0])), (o1, .inl (cyA G 2, 1, .inr (.inl (fun _ => 0))))] s.heap.size = A at hD hE ⊢
  have hA : ∀ q : Nat, s.heap.size ≤ q → A q := fun q h => by rw [← hAe]; exact Or.inr h
  have hS : va_S A s.heap s.heap [] := va_S.rf
  obtain ⟨H, hHe⟩ : ∃ H : Heap, H = s.heap := ⟨_, rfl⟩
  have hP : va_P (DG G) clP1 [(h0, .inr (10, [.ref t1, .ref f1, .ref s1, .ref d1, .ref y1, .ref g1, .ref m1, .ref n1, .int 0, .long 0])), (d1, .inr (2, [.ref df0, .ref df1, .ref df2, .ref df3, .ref df4, .int 0, .int 0, .int 0])), (o1, .inl (cyA G 2, 1, .inr (.inl (fun _ => 0))))] H := by rw [hHe]; exact hP
  have hS : va_S A s.heap H [] := by rw [hHe]; exact hS
  have hl := lv_entry ([.ref h0, .int p0, .ref o1]) (n := 4) (Nat.le_of_ble_eq_true rfl)
  rw [lg_entry_eq, ← hHe]
  generalize (lg_sl ([.ref h0, .int p0, .ref o1]) ++ List.replicate (4 - (lg_sl ([.ref h0, .int p0, .ref o1])).length) Slot.unset).toArray = ls at hl ⊢
  have hl : lv_has ls 4 [(0, .ref h0), (1, .int p0), (2, .ref o1)] := hl
  refine lv_aload_n hx hb dL_reopen_0 rfl (lv_at hl 2 rfl) ?_
  refine lv_iconst (v := 0) hx hb dL_reopen_1 (by decide) ?_
  refine lv_aload_n hx hb dL_reopen_2 rfl (lv_at hl 0 rfl) ?_
  refine lv_iload_n hx hb dL_reopen_3 rfl (lv_at hl 1 rfl) ?_
  have hFc := va_free (wc := [(h0, .inr (10, [.ref t1, .ref f1, .ref s1, .ref d1, .ref y1, .ref g1, .ref m1, .ref n1, .int 0, .long 0])), (d1, .inr (2, [.ref df0, .ref df1, .ref df2, .ref df3, .ref df4, .int 0, .int 0, .int 0]))]) hD hS hA [0, 1] rfl
  refine vx_calli (vx_runV (As := [.int p0]) (rest := [.int 0, .ref o1]) ⟨hx, hb, hml, hown, hts⟩ (k_X11_reopen l hfl G h0 p0 t1 f1 s1 d1 y1 g1 m1 n1 df0 df1 df2 df3 df4 H.size) (cwV 1 hts (gV wm1066 wm1067 wm1068 wm1 wm1069) rfl rfl rfl (by decide +kernel) ⟨Nat.le_of_ble_eq_true rfl, Nat.le_of_ble_eq_true rfl⟩) (pre_v (pre_s hK hP hD hS hE [0, 1] rfl rfl (by decide) hFc) (va_recv hK hP (ci := 10) (q0 := 0) rfl rfl)) rfl rfl hl.1 rfl (lv_room (Nat.le_of_ble_eq_true rfl)) dL_reopen_4 ⟨Nat.le_of_ble_eq_true rfl, Nat.le_of_ble_eq_true rfl⟩) hS (fun q _ h => hFc q h) hFc (fun q _ h => hFc q h) (fun E ce q9 u t H locs ht hvm hpx hBX hz1 hk1 hS hce hv9 hcl => ?_) (fun r u t H locs ht hvm hw hB hz1 hk1 hS => ?_)
  · have hBX : E = "java/util/NoSuchElementException" := hBX
    subst hBX
    obtain ⟨hP, hD⟩ := va_join (wr := [(o1, .inl (cyA G 2, 1, .inr (.inl (fun _ => 0))))]) (w1 := []) hP hD [0, 1] [2] rfl rfl (by decide) (by decide) hk1 hFc nilP nilD
    refine vx_widen (k := 1) (n := 6) (Nat.le_of_ble_eq_true rfl) (Nat.le_of_ble_eq_true rfl) ?_
    refine vx_catch hown (tableOf []) ⟨0, 9, 12, 35⟩ (tableOf [(0, 9, 15, 15)]) (htab.trans rfl) xP0 (by decide) (by decide) (hts _ wm707) (va_Nw.use rfl (hE.1 _ nw718)) hce hv9 hcl ?_
    refine W.eq (g2 := F0 m 12 ls [.ref q9]) rfl ?_
    have hP : va_P (DG G) clP1 [(o1, .inl (cyA G 2, 1, .inr (.inl (fun _ => 0))))] H := hP
    have hD : va_D A [(o1, .inl (cyA G 2, 1, .inr (.inl (fun _ => 0))))] := hD
    refine lv_astore_n (lv' := [(3, .ref q9), (0, .ref h0), (1, .int p0), (2, .ref o1)]) hx hb dL_reopen_12 rfl hl (by decide) rfl (fun ls hl => ?_)
    refine lv_iconst (v := 1) hx hb dL_reopen_13 (by decide) ?_
    have hP9 := hP.sub (ws' := [(o1, .inl (cyA G 2, 1, .inr (.inl (fun _ => 0))))]) [0] rfl
    have hD9 := hD.sub (ws' := [(o1, .inl (cyA G 2, 1, .inr (.inl (fun _ => 0))))]) [0] (by decide) rfl
    refine W.widen (k := 1) (n := 6) (Nat.le_of_ble_eq_true rfl) (Nat.le_of_ble_eq_true rfl) ?_
    exact vx_ret (W.iret (v := 1) hx hb hr (fun t ht hW => ⟨⟨1, (), rfl, rfl, ⟨by rw [ht]; exact hP9, hD9⟩⟩, hS.F ht⟩) hS.2.2 dL_reopen_14 hlocks)
  · exact hw.elim
set_option maxHeartbeats 4000000 in
set_option maxRecDepth 100000 in
theorem k_L_goalState (l : Launch) (hfl : l.stackTraces = false) (G : GC) (h0 : Nat) (p0 : Int32) (o1 : Nat) (t1 : Nat) (f1 : Nat) (s1 : Nat) (d1 : Nat) (y1 : Nat) (g1 : Nat) (m1 : Nat) (n1 : Nat) (df0 : Nat) (df1 : Nat) (df2 : Nat) (df3 : Nat) (df4 : Nat) (sz : Nat) : vx_Met l yL_goalState (Cond.codeWith yL_goalState cL_goalState 4 (some .int) [(0, 9, 12, 35)] :: W0) ({ frames := 8, cells := 1, slots := 6, locals := 125 }) (va_Pc [.ref h0, .int p0, .ref o1] (WD G [(h0, .inr (10, [.ref t1, .ref f1, .ref s1, .ref d1, .ref y1, .ref g1, .ref m1, .ref n1, .int 0, .long 0])), (d1, .inr (2, [.ref df0, .ref df1, .ref df2, .ref df3, .ref df4, .int 0, .int 0, .int 0])), (o1, .inl (cyA G 2, 1, .inr (.inl (fun _ => 0))))] sz)) (va_Qi (fun (r : Int32) (_ : Unit) => r = 1) (fun _ t => PW G (va_A [(h0, .inr (10, [.ref t1, .ref f1, .ref s1, .ref d1, .ref y1, .ref g1, .ref m1, .ref n1, .int 0, .long 0])), (d1, .inr (2, [.ref df0, .ref df1, .ref df2, .ref df3, .ref df4, .int 0, .int 0, .int 0])), (o1, .inl (cyA G 2, 1, .inr (.inl (fun _ => 0))))] sz) [(o1, .inl (cyA G 2, 1, .inr (.inl (fun _ => 0))))] t) (va_A [(h0, .inr (10, [.ref t1, .ref f1, .ref s1, .ref d1, .ref y1, .ref g1, .ref m1, .ref n1, .int 0, .long 0])), (d1, .inr (2, [.ref df0, .ref df1, .ref df2, .ref df3, .ref df4, .int 0, .int 0, .int 0])), (o1, .inl (cyA G 2, 1, .inr (.inl (fun _ => 0))))] sz)) (vx_X (fun _ : Unit => False) (fun (_ : String) (_ : Unit) (_ : State) => True) (va_A [(h0, .inr (10, [.ref t1, .ref f1, .ref s1, .ref d1, .ref y1, .ref g1, .ref m1, .ref n1, .int 0, .long 0])), (d1, .inr (2, [.ref df0, .ref df1, .ref df2, .ref df3, .ref df4, .int 0, .int 0, .int 0])), (o1, .inl (cyA G 2, 1, .inr (.inl (fun _ => 0))))] sz)) 1 6 (va_A [(h0, .inr (10, [.ref t1, .ref f1, .ref s1, .ref d1, .ref y1, .ref g1, .ref m1, .ref n1, .int 0, .long 0])), (d1, .inr (2, [.ref df0, .ref df1, .ref df2, .ref df3, .ref df4, .int 0, .int 0, .int 0])), (o1, .inl (cyA G 2, 1, .inr (.inl (fun _ => 0))))] sz) := by
  refine vx_ofWH (cc := cL_goalState) (maxL := 4) (ret := (some .int)) (hh := [(0, 9, 12, 35)]) (by decide) rfl ?_
  intro p e s m args below meth c s₁ B hml hv
  obtain ⟨rfl, hsz, hP, hK, hD0, hE⟩ := hv
  have hx := B.exec
  have hb := B.bytes
  have hr := B.returns
  have hts := w0_tail B.pre
  have hown : s.vm.findClass RL = some m.cls := findClass_of_methodNamed B.named
  have hlocks := B.notSynchronized
  have htab := vx_table (x := yL_goalState) B (hts _ wm1078)
  subst hsz
  have hD := hD0.self (sz := s.heap.size)
  generalize hAe : va_A [(h0, .inr (10, [.ref t1, .ref f1, .ref s1, .ref d1, .ref y1, .ref g1, .ref m1, .ref n1, .int 0, .long 0])), (d1, .inr (2, [.ref df0, .ref df1, .ref df2, .ref df3, .ref df4, .int 0, .int 0, .int 0])), (o1, .inl (cyA G 2, 1, .inr (.inl (fun _ => 0))))] s.heap.size = A at hD hE ⊢
  have hA : ∀ q : Nat, s.heap.size ≤ q → A q := fun q h => by rw [← hAe]; exact Or.inr h
  have hS : va_S A s.heap s.heap [] := va_S.rf
  obtain ⟨H, hHe⟩ : ∃ H : Heap, H = s.heap := ⟨_, rfl⟩
  have hP : va_P (DG G) clP1 [(h0, .inr (10, [.ref t1, .ref f1, .ref s1, .ref d1, .ref y1, .ref g1, .ref m1, .ref n1, .int 0, .long 0])), (d1, .inr (2, [.ref df0, .ref df1, .ref df2, .ref df3, .ref df4, .int 0, .int 0, .int 0])), (o1, .inl (cyA G 2, 1, .inr (.inl (fun _ => 0))))] H := by rw [hHe]; exact hP
  have hS : va_S A s.heap H [] := by rw [hHe]; exact hS
  have hl := lv_entry ([.ref h0, .int p0, .ref o1]) (n := 4) (Nat.le_of_ble_eq_true rfl)
  rw [lg_entry_eq, ← hHe]
  generalize (lg_sl ([.ref h0, .int p0, .ref o1]) ++ List.replicate (4 - (lg_sl ([.ref h0, .int p0, .ref o1])).length) Slot.unset).toArray = ls at hl ⊢
  have hl : lv_has ls 4 [(0, .ref h0), (1, .int p0), (2, .ref o1)] := hl
  refine lv_aload_n hx hb dL_goalState_0 rfl (lv_at hl 2 rfl) ?_
  refine lv_iconst (v := 0) hx hb dL_goalState_1 (by decide) ?_
  refine lv_aload_n hx hb dL_goalState_2 rfl (lv_at hl 0 rfl) ?_
  refine lv_iload_n hx hb dL_goalState_3 rfl (lv_at hl 1 rfl) ?_
  have hFc := va_free (wc := [(h0, .inr (10, [.ref t1, .ref f1, .ref s1, .ref d1, .ref y1, .ref g1, .ref m1, .ref n1, .int 0, .long 0])), (d1, .inr (2, [.ref df0, .ref df1, .ref df2, .ref df3, .ref df4, .int 0, .int 0, .int 0]))]) hD hS hA [0, 1] rfl
  refine vx_calli (vx_runV (As := [.int p0]) (rest := [.int 0, .ref o1]) ⟨hx, hb, hml, hown, hts⟩ (k_X11_goalState l hfl G h0 p0 t1 f1 s1 d1 y1 g1 m1 n1 df0 df1 df2 df3 df4 H.size) (cwV 1 hts (gV wm1079 wm1080 wm1081 wm1 wm1082) rfl rfl rfl (by decide +kernel) ⟨Nat.le_of_ble_eq_true rfl, Nat.le_of_ble_eq_true rfl⟩) (pre_v (pre_s hK hP hD hS hE [0, 1] rfl rfl (by decide) hFc) (va_recv hK hP (ci := 10) (q0 := 0) rfl rfl)) rfl rfl hl.1 rfl (lv_room (Nat.le_of_ble_eq_true rfl)) dL_goalState_4 ⟨Nat.le_of_ble_eq_true rfl, Nat.le_of_ble_eq_true rfl⟩) hS (fun q _ h => hFc q h) hFc (fun q _ h => hFc q h) (fun E ce q9 u t H locs ht hvm hpx hBX hz1 hk1 hS hce hv9 hcl => ?_) (fun r u t H locs ht hvm hw hB hz1 hk1 hS => ?_)
  · have hBX : E = "java/util/NoSuchElementException" := hBX
    subst hBX
    obtain ⟨hP, hD⟩ := va_join (wr := [(o1, .inl (cyA G 2, 1, .inr (.inl (fun _ => 0))))]) (w1 := []) hP hD [0, 1] [2] rfl rfl (by decide) (by decide) hk1 hFc nilP nilD
    refine vx_widen (k := 1) (n := 6) (Nat.le_of_ble_eq_true rfl) (Nat.le_of_ble_eq_true rfl) ?_
    refine vx_catch hown (tableOf []) ⟨0, 9, 12, 35⟩ (tableOf []) (htab.trans rfl) xP0 (by decide) (by decide) (hts _ wm707) (va_Nw.use rfl (hE.1 _ nw718)) hce hv9 hcl ?_
    refine W.eq (g2 := F0 m 12 ls [.ref q9]) rfl ?_
    have hP : va_P (DG G) clP1 [(o1, .inl (cyA G 2, 1, .inr (.inl (fun _ => 0))))] H := hP
    have hD : va_D A [(o1, .inl (cyA G 2, 1, .inr (.inl (fun _ => 0))))] := hD
    refine lv_astore_n (lv' := [(3, .ref q9), (0, .ref h0), (1, .int p0), (2, .ref o1)]) hx hb dL_goalState_12 rfl hl (by decide) rfl (fun ls hl => ?_)
    refine lv_iconst (v := 1) hx hb dL_goalState_13 (by decide) ?_
    have hP9 := hP.sub (ws' := [(o1, .inl (cyA G 2, 1, .inr (.inl (fun _ => 0))))]) [0] rfl
    have hD9 := hD.sub (ws' := [(o1, .inl (cyA G 2, 1, .inr (.inl (fun _ => 0))))]) [0] (by decide) rfl
    refine W.widen (k := 1) (n := 6) (Nat.le_of_ble_eq_true rfl) (Nat.le_of_ble_eq_true rfl) ?_
    exact vx_ret (W.iret (v := 1) hx hb hr (fun t ht hW => ⟨⟨1, (), rfl, rfl, ⟨by rw [ht]; exact hP9, hD9⟩⟩, hS.F ht⟩) hS.2.2 dL_goalState_14 hlocks)
  · exact hw.elim
set_option maxHeartbeats 4000000 in
set_option maxRecDepth 100000 in
theorem k_L_contextSize (l : Launch) (hfl : l.stackTraces = false) (G : GC) (h0 : Nat) (p0 : Int32) (o1 : Nat) (t1 : Nat) (f1 : Nat) (s1 : Nat) (d1 : Nat) (y1 : Nat) (g1 : Nat) (m1 : Nat) (n1 : Nat) (df0 : Nat) (df1 : Nat) (df2 : Nat) (df3 : Nat) (df4 : Nat) (sz : Nat) : vx_Met l yL_contextSize (Cond.codeWith yL_contextSize cL_contextSize 4 (some .int) [(0, 9, 12, 35)] :: W0) ({ frames := 8, cells := 1, slots := 6, locals := 125 }) (va_Pc [.ref h0, .int p0, .ref o1] (WD G [(h0, .inr (10, [.ref t1, .ref f1, .ref s1, .ref d1, .ref y1, .ref g1, .ref m1, .ref n1, .int 0, .long 0])), (d1, .inr (2, [.ref df0, .ref df1, .ref df2, .ref df3, .ref df4, .int 0, .int 0, .int 0])), (o1, .inl (cyA G 2, 1, .inr (.inl (fun _ => 0))))] sz)) (va_Qi (fun (r : Int32) (_ : Unit) => r = 1) (fun _ t => PW G (va_A [(h0, .inr (10, [.ref t1, .ref f1, .ref s1, .ref d1, .ref y1, .ref g1, .ref m1, .ref n1, .int 0, .long 0])), (d1, .inr (2, [.ref df0, .ref df1, .ref df2, .ref df3, .ref df4, .int 0, .int 0, .int 0])), (o1, .inl (cyA G 2, 1, .inr (.inl (fun _ => 0))))] sz) [(o1, .inl (cyA G 2, 1, .inr (.inl (fun _ => 0))))] t) (va_A [(h0, .inr (10, [.ref t1, .ref f1, .ref s1, .ref d1, .ref y1, .ref g1, .ref m1, .ref n1, .int 0, .long 0])), (d1, .inr (2, [.ref df0, .ref df1, .ref df2, .ref df3, .ref df4, .int 0, .int 0, .int 0])), (o1, .inl (cyA G 2, 1, .inr (.inl (fun _ => 0))))] sz)) (vx_X (fun _ : Unit => False) (fun (_ : String) (_ : Unit) (_ : State) => True) (va_A [(h0, .inr (10, [.ref t1, .ref f1, .ref s1, .ref d1, .ref y1, .ref g1, .ref m1, .ref n1, .int 0, .long 0])), (d1, .inr (2, [.ref df0, .ref df1, .ref df2, .ref df3, .ref df4, .int 0, .int 0, .int 0])), (o1, .inl (cyA G 2, 1, .inr (.inl (fun _ => 0))))] sz)) 1 6 (va_A [(h0, .inr (10, [.ref t1, .ref f1, .ref s1, .ref d1, .ref y1, .ref g1, .ref m1, .ref n1, .int 0, .long 0])), (d1, .inr (2, [.ref df0, .ref df1, .ref df2, .ref df3, .ref df4, .int 0, .int 0, .int 0])), (o1, .inl (cyA G 2, 1, .inr (.inl (fun _ => 0))))] sz) := by
  refine vx_ofWH (cc := cL_contextSize) (maxL := 4) (ret := (some .int)) (hh := [(0, 9, 12, 35)]) (by decide) rfl ?_
  intro p e s m args below meth c s₁ B hml hv
  obtain ⟨rfl, hsz, hP, hK, hD0, hE⟩ := hv
  have hx := B.exec
  have hb := B.bytes
  have hr := B.returns
  have hts := w0_tail B.pre
  have hown : s.vm.findClass RL = some m.cls := findClass_of_methodNamed B.named
  have hlocks := B.notSynchronized
  have htab := vx_table (x := yL_contextSize) B (hts _ wm1085)
  subst hsz
  have hD := hD0.self (sz := s.heap.size)
  generalize hAe : va_A [(h0, .inr (10, [.ref t1, .ref f1, .ref s1, .ref d1, .ref y1, .ref g1, .ref m1, .ref n1, .int 0, .long 0])), (d1, .inr (2, [.ref df0, .ref df1, .ref df2, .ref df3, .ref df4, .int 0, .int 0, .int 0])), (o1, .inl (cyA G 2, 1, .inr (.inl (fun _ => 0))))] s.heap.size = A at hD hE ⊢
  have hA : ∀ q : Nat, s.heap.size ≤ q → A q := fun q h => by rw [← hAe]; exact Or.inr h
  have hS : va_S A s.heap s.heap [] := va_S.rf
  obtain ⟨H, hHe⟩ : ∃ H : Heap, H = s.heap := ⟨_, rfl⟩
  have hP : va_P (DG G) clP1 [(h0, .inr (10, [.ref t1, .ref f1, .ref s1, .ref d1, .ref y1, .ref g1, .ref m1, .ref n1, .int 0, .long 0])), (d1, .inr (2, [.ref df0, .ref df1, .ref df2, .ref df3, .ref df4, .int 0, .int 0, .int 0])), (o1, .inl (cyA G 2, 1, .inr (.inl (fun _ => 0))))] H := by rw [hHe]; exact hP
  have hS : va_S A s.heap H [] := by rw [hHe]; exact hS
  have hl := lv_entry ([.ref h0, .int p0, .ref o1]) (n := 4) (Nat.le_of_ble_eq_true rfl)
  rw [lg_entry_eq, ← hHe]
  generalize (lg_sl ([.ref h0, .int p0, .ref o1]) ++ List.replicate (4 - (lg_sl ([.ref h0, .int p0, .ref o1])).length) Slot.unset).toArray = ls at hl ⊢
  have hl : lv_has ls 4 [(0, .ref h0), (1, .int p0), (2, .ref o1)] := hl
  refine lv_aload_n hx hb dL_contextSize_0 rfl (lv_at hl 2 rfl) ?_
  refine lv_iconst (v := 0) hx hb dL_contextSize_1 (by decide) ?_
  refine lv_aload_n hx hb dL_contextSize_2 rfl (lv_at hl 0 rfl) ?_
  refine lv_iload_n hx hb dL_contextSize_3 rfl (lv_at hl 1 rfl) ?_
  have hFc := va_free (wc := [(h0, .inr (10, [.ref t1, .ref f1, .ref s1, .ref d1, .ref y1, .ref g1, .ref m1, .ref n1, .int 0, .long 0])), (d1, .inr (2, [.ref df0, .ref df1, .ref df2, .ref df3, .ref df4, .int 0, .int 0, .int 0]))]) hD hS hA [0, 1] rfl
  refine vx_calli (vx_runV (As := [.int p0]) (rest := [.int 0, .ref o1]) ⟨hx, hb, hml, hown, hts⟩ (k_X11_contextSize l hfl G h0 p0 t1 f1 s1 d1 y1 g1 m1 n1 df0 df1 df2 df3 df4 H.size) (cwV 1 hts (gV wm1086 wm1087 wm1088 wm1 wm1089) rfl rfl rfl (by decide +kernel) ⟨Nat.le_of_ble_eq_true rfl, Nat.le_of_ble_eq_true rfl⟩) (pre_v (pre_s hK hP hD hS hE [0, 1] rfl rfl (by decide) hFc) (va_recv hK hP (ci := 10) (q0 := 0) rfl rfl)) rfl rfl hl.1 rfl (lv_room (Nat.le_of_ble_eq_true rfl)) dL_contextSize_4 ⟨Nat.le_of_ble_eq_true rfl, Nat.le_of_ble_eq_true rfl⟩) hS (fun q _ h => hFc q h) hFc (fun q _ h => hFc q h) (fun E ce q9 u t H locs ht hvm hpx hBX hz1 hk1 hS hce hv9 hcl => ?_) (fun r u t H locs ht hvm hw hB hz1 hk1 hS => ?_)
  · have hBX : E = "java/util/NoSuchElementException" := hBX
    subst hBX
    obtain ⟨hP, hD⟩ := va_join (wr := [(o1, .inl (cyA G 2, 1, .inr (.inl (fun _ => 0))))]) (w1 := []) hP hD [0, 1] [2] rfl rfl (by decide) (by decide) hk1 hFc nilP nilD
    refine vx_widen (k := 1) (n := 6) (Nat.le_of_ble_eq_true rfl) (Nat.le_of_ble_eq_true rfl) ?_
    refine vx_catch hown (tableOf []) ⟨0, 9, 12, 35⟩ (tableOf []) (htab.trans rfl) xP0 (by decide) (by decide) (hts _ wm707) (va_Nw.use rfl (hE.1 _ nw718)) hce hv9 hcl ?_
    refine W.eq (g2 := F0 m 12 ls [.ref q9]) rfl ?_
    have hP : va_P (DG G) clP1 [(o1, .inl (cyA G 2, 1, .inr (.inl (fun _ => 0))))] H := hP
    have hD : va_D A [(o1, .inl (cyA G 2, 1, .inr (.inl (fun _ => 0))))] := hD
    refine lv_astore_n (lv' := [(3, .ref q9), (0, .ref h0), (1, .int p0), (2, .ref o1)]) hx hb dL_contextSize_12 rfl hl (by decide) rfl (fun ls hl => ?_)
    refine lv_iconst (v := 1) hx hb dL_contextSize_13 (by decide) ?_
    have hP9 := hP.sub (ws' := [(o1, .inl (cyA G 2, 1, .inr (.inl (fun _ => 0))))]) [0] rfl
    have hD9 := hD.sub (ws' := [(o1, .inl (cyA G 2, 1, .inr (.inl (fun _ => 0))))]) [0] (by decide) rfl
    refine W.widen (k := 1) (n := 6) (Nat.le_of_ble_eq_true rfl) (Nat.le_of_ble_eq_true rfl) ?_
    exact vx_ret (W.iret (v := 1) hx hb hr (fun t ht hW => ⟨⟨1, (), rfl, rfl, ⟨by rw [ht]; exact hP9, hD9⟩⟩, hS.F ht⟩) hS.2.2 dL_contextSize_14 hlocks)
  · exact hw.elim
set_option maxHeartbeats 4000000 in
set_option maxRecDepth 100000 in
theorem k_L_contextType (l : Launch) (hfl : l.stackTraces = false) (G : GC) (h0 : Nat) (p0 : Int32) (p1 : Int32) (o1 : Nat) (t1 : Nat) (f1 : Nat) (s1 : Nat) (d1 : Nat) (y1 : Nat) (g1 : Nat) (m1 : Nat) (n1 : Nat) (df0 : Nat) (df1 : Nat) (df2 : Nat) (df3 : Nat) (df4 : Nat) (sz : Nat) : vx_Met l yL_contextType (Cond.codeWith yL_contextType cL_contextType 5 (some .int) [(0, 10, 13, 35), (0, 10, 17, 24)] :: W0) ({ frames := 8, cells := 1, slots := 6, locals := 127 }) (va_Pc [.ref h0, .int p0, .int p1, .ref o1] (WD G [(h0, .inr (10, [.ref t1, .ref f1, .ref s1, .ref d1, .ref y1, .ref g1, .ref m1, .ref n1, .int 0, .long 0])), (d1, .inr (2, [.ref df0, .ref df1, .ref df2, .ref df3, .ref df4, .int 0, .int 0, .int 0])), (o1, .inl (cyA G 2, 1, .inr (.inl (fun _ => 0))))] sz)) (va_Qi (fun (r : Int32) (_ : Unit) => r = 1) (fun _ t => PW G (va_A [(h0, .inr (10, [.ref t1, .ref f1, .ref s1, .ref d1, .ref y1, .ref g1, .ref m1, .ref n1, .int 0, .long 0])), (d1, .inr (2, [.ref df0, .ref df1, .ref df2, .ref df3, .ref df4, .int 0, .int 0, .int 0])), (o1, .inl (cyA G 2, 1, .inr (.inl (fun _ => 0))))] sz) [(o1, .inl (cyA G 2, 1, .inr (.inl (fun _ => 0))))] t) (va_A [(h0, .inr (10, [.ref t1, .ref f1, .ref s1, .ref d1, .ref y1, .ref g1, .ref m1, .ref n1, .int 0, .long 0])), (d1, .inr (2, [.ref df0, .ref df1, .ref df2, .ref df3, .ref df4, .int 0, .int 0, .int 0])), (o1, .inl (cyA G 2, 1, .inr (.inl (fun _ => 0))))] sz)) (vx_X (fun _ : Unit => False) (fun (_ : String) (_ : Unit) (_ : State) => True) (va_A [(h0, .inr (10, [.ref t1, .ref f1, .ref s1, .ref d1, .ref y1, .ref g1, .ref m1, .ref n1, .int 0, .long 0])), (d1, .inr (2, [.ref df0, .ref df1, .ref df2, .ref df3, .ref df4, .int 0, .int 0, .int 0])), (o1, .inl (cyA G 2, 1, .inr (.inl (fun _ => 0))))] sz)) 1 6 (va_A [(h0, .inr (10, [.ref t1, .ref f1, .ref s1, .ref d1, .ref y1, .ref g1, .ref m1, .ref n1, .int 0, .long 0])), (d1, .inr (2, [.ref df0, .ref df1, .ref df2, .ref df3, .ref df4, .int 0, .int 0, .int 0])), (o1, .inl (cyA G 2, 1, .inr (.inl (fun _ => 0))))] sz) := by
  refine vx_ofWH (cc := cL_contextType) (maxL := 5) (ret := (some .int)) (hh := [(0, 10, 13, 35), (0, 10, 17, 24)]) (by decide) rfl ?_
  intro p e s m args below meth c s₁ B hml hv
  obtain ⟨rfl, hsz, hP, hK, hD0, hE⟩ := hv
  have hx := B.exec
  have hb := B.bytes
  have hr := B.returns
  have hts := w0_tail B.pre
  have hown : s.vm.findClass RL = some m.cls := findClass_of_methodNamed B.named
  have hlocks := B.notSynchronized
  have htab := vx_table (x := yL_contextType) B (hts _ wm1092)
  subst hsz
  have hD := hD0.self (sz := s.heap.size)
  generalize hAe : va_A [(h0, .inr (10, [.ref t1, .ref f1, .ref s1, .ref d1, .ref y1, .ref g1, .ref m1, .ref n1, .int 0, .long 0])), (d1, .inr (2, [.ref df0, .ref df1, .ref df2, .ref df3, .ref df4, .int 0, .int 0, .int 0])), (o1, .inl (cyA G 2, 1, .inr (.inl (fun _ => 0))))] s.heap.size = A at hD hE ⊢
  have hA : ∀ q : Nat, s.heap.size ≤ q → A q := fun q h => by rw [← hAe]; exact Or.inr h
  have hS : va_S A s.heap s.heap [] := va_S.rf
  obtain ⟨H, hHe⟩ : ∃ H : Heap, H = s.heap := ⟨_, rfl⟩
  have hP : va_P (DG G) clP1 [(h0, .inr (10, [.ref t1, .ref f1, .ref s1, .ref d1, .ref y1, .ref g1, .ref m1, .ref n1, .int 0, .long 0])), (d1, .inr (2, [.ref df0, .ref df1, .ref df2, .ref df3, .ref df4, .int 0, .int 0, .int 0])), (o1, .inl (cyA G 2, 1, .inr (.inl (fun _ => 0))))] H := by rw [hHe]; exact hP
  have hS : va_S A s.heap H [] := by rw [hHe]; exact hS
  have hl := lv_entry ([.ref h0, .int p0, .int p1, .ref o1]) (n := 5) (Nat.le_of_ble_eq_true rfl)
  rw [lg_entry_eq, ← hHe]
  generalize (lg_sl ([.ref h0, .int p0, .int p1, .ref o1]) ++ List.replicate (5 - (lg_sl ([.ref h0, .int p0, .int p1, .ref o1])).length) Slot.unset).toArray = ls at hl ⊢
  have hl : lv_has ls 5 [(0, .ref h0), (1, .int p0), (2, .int p1), (3, .ref o1)] := hl
  refine lv_aload_n hx hb dL_contextType_0 rfl (lv_at hl 3 rfl) ?_
  refine lv_iconst (v := 0) hx hb dL_contextType_1 (by decide) ?_
  refine lv_aload_n hx hb dL_contextType_2 rfl (lv_at hl 0 rfl) ?_
  refine lv_iload_n hx hb dL_contextType_3 rfl (lv_at hl 1 rfl) ?_
  refine lv_iload_n hx hb dL_contextType_4 rfl (lv_at hl 2 rfl) ?_
  have hFc := va_free (wc := [(h0, .inr (10, [.ref t1, .ref f1, .ref s1, .ref d1, .ref y1, .ref g1, .ref m1, .ref n1, .int 0, .long 0])), (d1, .inr (2, [.ref df0, .ref df1, .ref df2, .ref df3, .ref df4, .int 0, .int 0, .int 0]))]) hD hS hA [0, 1] rfl
  refine vx_calli (vx_runV (As := [.int p0, .int p1]) (rest := [.int 0, .ref o1]) ⟨hx, hb, hml, hown, hts⟩ (k_X11_contextType l hfl G h0 p0 p1 t1 f1 s1 d1 y1 g1 m1 n1 df0 df1 df2 df3 df4 H.size) (cwV 2 hts (gV wm1093 wm1094 wm1095 wm1 wm1096) rfl rfl rfl (by decide +kernel) ⟨Nat.le_of_ble_eq_true rfl, Nat.le_of_ble_eq_true rfl⟩) (pre_v (pre_s hK hP hD hS hE [0, 1] rfl rfl (by decide) hFc) (va_recv hK hP (ci := 10) (q0 := 0) rfl rfl)) rfl rfl hl.1 rfl (lv_room (Nat.le_of_ble_eq_true rfl)) dL_contextType_5 ⟨Nat.le_of_ble_eq_true rfl, Nat.le_of_ble_eq_true rfl⟩) hS (fun q _ h => hFc q h) hFc (fun q _ h => hFc q h) (fun E ce q9 u t H locs ht hvm hpx hBX hz1 hk1 hS hce hv9 hcl => ?_) (fun r u t H locs ht hvm hw hB hz1 hk1 hS => ?_)
  · have hBX : E = "java/util/NoSuchElementException" := hBX
    subst hBX
    obtain ⟨hP, hD⟩ := va_join (wr := [(o1, .inl (cyA G 2, 1, .inr (.inl (fun _ => 0))))]) (w1 := []) hP hD [0, 1] [2] rfl rfl (by decide) (by decide) hk1 hFc nilP nilD
    refine vx_widen (k := 1) (n := 6) (Nat.le_of_ble_eq_true rfl) (Nat.le_of_ble_eq_true rfl) ?_
    refine vx_catch hown (tableOf []) ⟨0, 10, 13, 35⟩ (tableOf [(0, 10, 17, 24)]) (htab.trans rfl) xP0 (by decide) (by decide) (hts _ wm707) (va_Nw.use rfl (hE.1 _ nw718)) hce hv9 hcl ?_
    refine W.eq (g2 := F0 m 13 ls [.ref q9]) rfl ?_
    have hP : va_P (DG G) clP1 [(o1, .inl (cyA G 2, 1, .inr (.inl (fun _ => 0))))] H := hP
    have hD : va_D A [(o1, .inl (cyA G 2, 1, .inr (.inl (fun _ => 0))))] := hD
    refine lv_astore (lv' := [(4, .ref q9), (0, .ref h0), (1, .int p0), (2, .int p1), (3, .ref o1)]) hx hb dL_contextType_13 hl (by decide) rfl (fun ls hl => ?_)
    refine lv_iconst (v := 1) hx hb dL_contextType_15 (by decide) ?_
    have hP9 := hP.sub (ws' := [(o1, .inl (cyA G 2, 1, .inr (.inl (fun _ => 0))))]) [0] rfl
    have hD9 := hD.sub (ws' := [(o1, .inl (cyA G 2, 1, .inr (.inl (fun _ => 0))))]) [0] (by decide) rfl
    refine W.widen (k := 1) (n := 6) (Nat.le_of_ble_eq_true rfl) (Nat.le_of_ble_eq_true rfl) ?_
    exact vx_ret (W.iret (v := 1) hx hb hr (fun t ht hW => ⟨⟨1, (), rfl, rfl, ⟨by rw [ht]; exact hP9, hD9⟩⟩, hS.F ht⟩) hS.2.2 dL_contextType_16 hlocks)
  · exact hw.elim
set_option maxHeartbeats 4000000 in
set_option maxRecDepth 100000 in
theorem k_L_goalType (l : Launch) (hfl : l.stackTraces = false) (G : GC) (h0 : Nat) (p0 : Int32) (o1 : Nat) (t1 : Nat) (f1 : Nat) (s1 : Nat) (d1 : Nat) (y1 : Nat) (g1 : Nat) (m1 : Nat) (n1 : Nat) (df0 : Nat) (df1 : Nat) (df2 : Nat) (df3 : Nat) (df4 : Nat) (sz : Nat) : vx_Met l yL_goalType (Cond.codeWith yL_goalType cL_goalType 4 (some .int) [(0, 9, 12, 35)] :: W0) ({ frames := 8, cells := 1, slots := 6, locals := 125 }) (va_Pc [.ref h0, .int p0, .ref o1] (WD G [(h0, .inr (10, [.ref t1, .ref f1, .ref s1, .ref d1, .ref y1, .ref g1, .ref m1, .ref n1, .int 0, .long 0])), (d1, .inr (2, [.ref df0, .ref df1, .ref df2, .ref df3, .ref df4, .int 0, .int 0, .int 0])), (o1, .inl (cyA G 2, 1, .inr (.inl (fun _ => 0))))] sz)) (va_Qi (fun (r : Int32) (_ : Unit) => r = 1) (fun _ t => PW G (va_A [(h0, .inr (10, [.ref t1, .ref f1, .ref s1, .ref d1, .ref y1, .ref g1, .ref m1, .ref n1, .int 0, .long 0])), (d1, .inr (2, [.ref df0, .ref df1, .ref df2, .ref df3, .ref df4, .int 0, .int 0, .int 0])), (o1, .inl (cyA G 2, 1, .inr (.inl (fun _ => 0))))] sz) [(o1, .inl (cyA G 2, 1, .inr (.inl (fun _ => 0))))] t) (va_A [(h0, .inr (10, [.ref t1, .ref f1, .ref s1, .ref d1, .ref y1, .ref g1, .ref m1, .ref n1, .int 0, .long 0])), (d1, .inr (2, [.ref df0, .ref df1, .ref df2, .ref df3, .ref df4, .int 0, .int 0, .int 0])), (o1, .inl (cyA G 2, 1, .inr (.inl (fun _ => 0))))] sz)) (vx_X (fun _ : Unit => False) (fun (_ : String) (_ : Unit) (_ : State) => True) (va_A [(h0, .inr (10, [.ref t1, .ref f1, .ref s1, .ref d1, .ref y1, .ref g1, .ref m1, .ref n1, .int 0, .long 0])), (d1, .inr (2, [.ref df0, .ref df1, .ref df2, .ref df3, .ref df4, .int 0, .int 0, .int 0])), (o1, .inl (cyA G 2, 1, .inr (.inl (fun _ => 0))))] sz)) 1 6 (va_A [(h0, .inr (10, [.ref t1, .ref f1, .ref s1, .ref d1, .ref y1, .ref g1, .ref m1, .ref n1, .int 0, .long 0])), (d1, .inr (2, [.ref df0, .ref df1, .ref df2, .ref df3, .ref df4, .int 0, .int 0, .int 0])), (o1, .inl (cyA G 2, 1, .inr (.inl (fun _ => 0))))] sz) := by
  refine vx_ofWH (cc := cL_goalType) (maxL := 4) (ret := (some .int)) (hh := [(0, 9, 12, 35)]) (by decide) rfl ?_
  intro p e s m args below meth c s₁ B hml hv
  obtain ⟨rfl, hsz, hP, hK, hD0, hE⟩ := hv
  have hx := B.exec
  have hb := B.bytes
  have hr := B.returns
  have hts := w0_tail B.pre
  have hown : s.vm.findClass RL = some m.cls := findClass_of_methodNamed B.named
  have hlocks := B.notSynchronized
  have htab := vx_table (x := yL_goalType) B (hts _ wm1100)
  subst hsz
  have hD := hD0.self (sz := s.heap.size)
  generalize hAe : va_A [(h0, .inr (10, [.ref t1, .ref f1, .ref s1, .ref d1, .ref y1, .ref g1, .ref m1, .ref n1, .int 0, .long 0])), (d1, .inr (2, [.ref df0, .ref df1, .ref df2, .ref df3, .ref df4, .int 0, .int 0, .int 0])), (o1, .inl (cyA G 2, 1, .inr (.inl (fun _ => 0))))] s.heap.size = A at hD hE ⊢
  have hA : ∀ q : Nat, s.heap.size ≤ q → A q := fun q h => by rw [← hAe]; exact Or.inr h
  have hS : va_S A s.heap s.heap [] := va_S.rf
  obtain ⟨H, hHe⟩ : ∃ H : Heap, H = s.heap := ⟨_, rfl⟩
  have hP : va_P (DG G) clP1 [(h0, .inr (10, [.ref t1, .ref f1, .ref s1, .ref d1, .ref y1, .ref g1, .ref m1, .ref n1, .int 0, .long 0])), (d1, .inr (2, [.ref df0, .ref df1, .ref df2, .ref df3, .ref df4, .int 0, .int 0, .int 0])), (o1, .inl (cyA G 2, 1, .inr (.inl (fun _ => 0))))] H := by rw [hHe]; exact hP
  have hS : va_S A s.heap H [] := by rw [hHe]; exact hS
  have hl := lv_entry ([.ref h0, .int p0, .ref o1]) (n := 4) (Nat.le_of_ble_eq_true rfl)
  rw [lg_entry_eq, ← hHe]
  generalize (lg_sl ([.ref h0, .int p0, .ref o1]) ++ List.replicate (4 - (lg_sl ([.ref h0, .int p0, .ref o1])).length) Slot.unset).toArray = ls at hl ⊢
  have hl : lv_has ls 4 [(0, .ref h0), (1, .int p0), (2, .ref o1)] := hl
  refine lv_aload_n hx hb dL_goalType_0 rfl (lv_at hl 2 rfl) ?_
  refine lv_iconst (v := 0) hx hb dL_goalType_1 (by decide) ?_
  refine lv_aload_n hx hb dL_goalType_2 rfl (lv_at hl 0 rfl) ?_
  refine lv_iload_n hx hb dL_goalType_3 rfl (lv_at hl 1 rfl) ?_
  have hFc := va_free (wc := [(h0, .inr (10, [.ref t1, .ref f1, .ref s1, .ref d1, .ref y1, .ref g1, .ref m1, .ref n1, .int 0, .long 0])), (d1, .inr (2, [.ref df0, .ref df1, .ref df2, .ref df3, .ref df4, .int 0, .int 0, .int 0]))]) hD hS hA [0, 1] rfl
  refine vx_calli (vx_runV (As := [.int p0]) (rest := [.int 0, .ref o1]) ⟨hx, hb, hml, hown, hts⟩ (k_X11_goalType l hfl G h0 p0 t1 f1 s1 d1 y1 g1 m1 n1 df0 df1 df2 df3 df4 H.size) (cwV 1 hts (gV wm1101 wm1102 wm1103 wm1 wm1104) rfl rfl rfl (by decide +kernel) ⟨Nat.le_of_ble_eq_true rfl, Nat.le_of_ble_eq_true rfl⟩) (pre_v (pre_s hK hP hD hS hE [0, 1] rfl rfl (by decide) hFc) (va_recv hK hP (ci := 10) (q0 := 0) rfl rfl)) rfl rfl hl.1 rfl (lv_room (Nat.le_of_ble_eq_true rfl)) dL_goalType_4 ⟨Nat.le_of_ble_eq_true rfl, Nat.le_of_ble_eq_true rfl⟩) hS (fun q _ h => hFc q h) hFc (fun q _ h => hFc q h) (fun E ce q9 u t H locs ht hvm hpx hBX hz1 hk1 hS hce hv9 hcl => ?_) (fun r u t H locs ht hvm hw hB hz1 hk1 hS => ?_)
  · have hBX : E = "java/util/NoSuchElementException" := hBX
    subst hBX
    obtain ⟨hP, hD⟩ := va_join (wr := [(o1, .inl (cyA G 2, 1, .inr (.inl (fun _ => 0))))]) (w1 := []) hP hD [0, 1] [2] rfl rfl (by decide) (by decide) hk1 hFc nilP nilD
    refine vx_widen (k := 1) (n := 6) (Nat.le_of_ble_eq_true rfl) (Nat.le_of_ble_eq_true rfl) ?_
    refine vx_catch hown (tableOf []) ⟨0, 9, 12, 35⟩ (tableOf []) (htab.trans rfl) xP0 (by decide) (by decide) (hts _ wm707) (va_Nw.use rfl (hE.1 _ nw718)) hce hv9 hcl ?_
    refine W.eq (g2 := F0 m 12 ls [.ref q9]) rfl ?_
    have hP : va_P (DG G) clP1 [(o1, .inl (cyA G 2, 1, .inr (.inl (fun _ => 0))))] H := hP
    have hD : va_D A [(o1, .inl (cyA G 2, 1, .inr (.inl (fun _ => 0))))] := hD
    refine lv_astore_n (lv' := [(3, .ref q9), (0, .ref h0), (1, .int p0), (2, .ref o1)]) hx hb dL_goalType_12 rfl hl (by decide) rfl (fun ls hl => ?_)
    refine lv_iconst (v := 1) hx hb dL_goalType_13 (by decide) ?_
    have hP9 := hP.sub (ws' := [(o1, .inl (cyA G 2, 1, .inr (.inl (fun _ => 0))))]) [0] rfl
    have hD9 := hD.sub (ws' := [(o1, .inl (cyA G 2, 1, .inr (.inl (fun _ => 0))))]) [0] (by decide) rfl
    refine W.widen (k := 1) (n := 6) (Nat.le_of_ble_eq_true rfl) (Nat.le_of_ble_eq_true rfl) ?_
    exact vx_ret (W.iret (v := 1) hx hb hr (fun t ht hW => ⟨⟨1, (), rfl, rfl, ⟨by rw [ht]; exact hP9, hD9⟩⟩, hS.F ht⟩) hS.2.2 dL_goalType_14 hlocks)
  · exact hw.elim
set_option maxHeartbeats 4000000 in
set_option maxRecDepth 100000 in
theorem k_L_openGoals (l : Launch) (hfl : l.stackTraces = false) (G : GC) (h0 : Nat) (p0 : Int32) (o1 : Nat) (t1 : Nat) (f1 : Nat) (s1 : Nat) (d1 : Nat) (y1 : Nat) (g1 : Nat) (m1 : Nat) (n1 : Nat) (df0 : Nat) (df1 : Nat) (df2 : Nat) (df3 : Nat) (df4 : Nat) (sz : Nat) : vx_Met l yL_openGoals (Cond.codeWith yL_openGoals cL_openGoals 4 (some .int) [(0, 9, 12, 35)] :: W0) ({ frames := 8, cells := 1, slots := 6, locals := 125 }) (va_Pc [.ref h0, .int p0, .ref o1] (WD G [(h0, .inr (10, [.ref t1, .ref f1, .ref s1, .ref d1, .ref y1, .ref g1, .ref m1, .ref n1, .int 0, .long 0])), (d1, .inr (2, [.ref df0, .ref df1, .ref df2, .ref df3, .ref df4, .int 0, .int 0, .int 0])), (o1, .inl (cyA G 2, 1, .inr (.inl (fun _ => 0))))] sz)) (va_Qi (fun (r : Int32) (_ : Unit) => r = 1) (fun _ t => PW G (va_A [(h0, .inr (10, [.ref t1, .ref f1, .ref s1, .ref d1, .ref y1, .ref g1, .ref m1, .ref n1, .int 0, .long 0])), (d1, .inr (2, [.ref df0, .ref df1, .ref df2, .ref df3, .ref df4, .int 0, .int 0, .int 0])), (o1, .inl (cyA G 2, 1, .inr (.inl (fun _ => 0))))] sz) [(o1, .inl (cyA G 2, 1, .inr (.inl (fun _ => 0))))] t) (va_A [(h0, .inr (10, [.ref t1, .ref f1, .ref s1, .ref d1, .ref y1, .ref g1, .ref m1, .ref n1, .int 0, .long 0])), (d1, .inr (2, [.ref df0, .ref df1, .ref df2, .ref df3, .ref df4, .int 0, .int 0, .int 0])), (o1, .inl (cyA G 2, 1, .inr (.inl (fun _ => 0))))] sz)) (vx_X (fun _ : Unit => False) (fun (_ : String) (_ : Unit) (_ : State) => True) (va_A [(h0, .inr (10, [.ref t1, .ref f1, .ref s1, .ref d1, .ref y1, .ref g1, .ref m1, .ref n1, .int 0, .long 0])), (d1, .inr (2, [.ref df0, .ref df1, .ref df2, .ref df3, .ref df4, .int 0, .int 0, .int 0])), (o1, .inl (cyA G 2, 1, .inr (.inl (fun _ => 0))))] sz)) 1 6 (va_A [(h0, .inr (10, [.ref t1, .ref f1, .ref s1, .ref d1, .ref y1, .ref g1, .ref m1, .ref n1, .int 0, .long 0])), (d1, .inr (2, [.ref df0, .ref df1, .ref df2, .ref df3, .ref df4, .int 0, .int 0, .int 0])), (o1, .inl (cyA G 2, 1, .inr (.inl (fun _ => 0))))] sz) := by
  refine vx_ofWH (cc := cL_openGoals) (maxL := 4) (ret := (some .int)) (hh := [(0, 9, 12, 35)]) (by decide) rfl ?_
  intro p e s m args below meth c s₁ B hml hv
  obtain ⟨rfl, hsz, hP, hK, hD0, hE⟩ := hv
  have hx := B.exec
  have hb := B.bytes
  have hr := B.returns
  have hts := w0_tail B.pre
  have hown : s.vm.findClass RL = some m.cls := findClass_of_methodNamed B.named
  have hlocks := B.notSynchronized
  have htab := vx_table (x := yL_openGoals) B (hts _ wm1107)
  subst hsz
  have hD := hD0.self (sz := s.heap.size)
  generalize hAe : va_A [(h0, .inr (10, [.ref t1, .ref f1, .ref s1, .ref d1, .ref y1, .ref g1, .ref m1, .ref n1, .int 0, .long 0])), (d1, .inr (2, [.ref df0, .ref df1, .ref df2, .ref df3, .ref df4, .int 0, .int 0, .int 0])), (o1, .inl (cyA G 2, 1, .inr (.inl (fun _ => 0))))] s.heap.size = A at hD hE ⊢
  have hA : ∀ q : Nat, s.heap.size ≤ q → A q := fun q h => by rw [← hAe]; exact Or.inr h
  have hS : va_S A s.heap s.heap [] := va_S.rf
  obtain ⟨H, hHe⟩ : ∃ H : Heap, H = s.heap := ⟨_, rfl⟩
  have hP : va_P (DG G) clP1 [(h0, .inr (10, [.ref t1, .ref f1, .ref s1, .ref d1, .ref y1, .ref g1, .ref m1, .ref n1, .int 0, .long 0])), (d1, .inr (2, [.ref df0, .ref df1, .ref df2, .ref df3, .ref df4, .int 0, .int 0, .int 0])), (o1, .inl (cyA G 2, 1, .inr (.inl (fun _ => 0))))] H := by rw [hHe]; exact hP
  have hS : va_S A s.heap H [] := by rw [hHe]; exact hS
  have hl := lv_entry ([.ref h0, .int p0, .ref o1]) (n := 4) (Nat.le_of_ble_eq_true rfl)
  rw [lg_entry_eq, ← hHe]
  generalize (lg_sl ([.ref h0, .int p0, .ref o1]) ++ List.replicate (4 - (lg_sl ([.ref h0, .int p0, .ref o1])).length) Slot.unset).toArray = ls at hl ⊢
  have hl : lv_has ls 4 [(0, .ref h0), (1, .int p0), (2, .ref o1)] := hl
  refine lv_aload_n hx hb dL_openGoals_0 rfl (lv_at hl 2 rfl) ?_
  refine lv_iconst (v := 0) hx hb dL_openGoals_1 (by decide) ?_
  refine lv_aload_n hx hb dL_openGoals_2 rfl (lv_at hl 0 rfl) ?_
  refine lv_iload_n hx hb dL_openGoals_3 rfl (lv_at hl 1 rfl) ?_
  have hFc := va_free (wc := [(h0, .inr (10, [.ref t1, .ref f1, .ref s1, .ref d1, .ref y1, .ref g1, .ref m1, .ref n1, .int 0, .long 0])), (d1, .inr (2, [.ref df0, .ref df1, .ref df2, .ref df3, .ref df4, .int 0, .int 0, .int 0]))]) hD hS hA [0, 1] rfl
  refine vx_calli (vx_runV (As := [.int p0]) (rest := [.int 0, .ref o1]) ⟨hx, hb, hml, hown, hts⟩ (k_X11_openGoals l hfl G h0 p0 t1 f1 s1 d1 y1 g1 m1 n1 df0 df1 df2 df3 df4 H.size) (cwV 1 hts (gV wm1108 wm1109 wm1110 wm1 wm1111) rfl rfl rfl (by decide +kernel) ⟨Nat.le_of_ble_eq_true rfl, Nat.le_of_ble_eq_true rfl⟩) (pre_v (pre_s hK hP hD hS hE [0, 1] rfl rfl (by decide) hFc) (va_recv hK hP (ci := 10) (q0 := 0) rfl rfl)) rfl rfl hl.1 rfl (lv_room (Nat.le_of_ble_eq_true rfl)) dL_openGoals_4 ⟨Nat.le_of_ble_eq_true rfl, Nat.le_of_ble_eq_true rfl⟩) hS (fun q _ h => hFc q h) hFc (fun q _ h => hFc q h) (fun E ce q9 u t H locs ht hvm hpx hBX hz1 hk1 hS hce hv9 hcl => ?_) (fun r u t H locs ht hvm hw hB hz1 hk1 hS => ?_)
  · have hBX : E = "java/util/NoSuchElementException" := hBX
    subst hBX
    obtain ⟨hP, hD⟩ := va_join (wr := [(o1, .inl (cyA G 2, 1, .inr (.inl (fun _ => 0))))]) (w1 := []) hP hD [0, 1] [2] rfl rfl (by decide) (by decide) hk1 hFc nilP nilD
    refine vx_widen (k := 1) (n := 6) (Nat.le_of_ble_eq_true rfl) (Nat.le_of_ble_eq_true rfl) ?_
    refine vx_catch hown (tableOf []) ⟨0, 9, 12, 35⟩ (tableOf []) (htab.trans rfl) xP0 (by decide) (by decide) (hts _ wm707) (va_Nw.use rfl (hE.1 _ nw718)) hce hv9 hcl ?_
    refine W.eq (g2 := F0 m 12 ls [.ref q9]) rfl ?_
    have hP : va_P (DG G) clP1 [(o1, .inl (cyA G 2, 1, .inr (.inl (fun _ => 0))))] H := hP
    have hD : va_D A [(o1, .inl (cyA G 2, 1, .inr (.inl (fun _ => 0))))] := hD
    refine lv_astore_n (lv' := [(3, .ref q9), (0, .ref h0), (1, .int p0), (2, .ref o1)]) hx hb dL_openGoals_12 rfl hl (by decide) rfl (fun ls hl => ?_)
    refine lv_iconst (v := 1) hx hb dL_openGoals_13 (by decide) ?_
    have hP9 := hP.sub (ws' := [(o1, .inl (cyA G 2, 1, .inr (.inl (fun _ => 0))))]) [0] rfl
    have hD9 := hD.sub (ws' := [(o1, .inl (cyA G 2, 1, .inr (.inl (fun _ => 0))))]) [0] (by decide) rfl
    refine W.widen (k := 1) (n := 6) (Nat.le_of_ble_eq_true rfl) (Nat.le_of_ble_eq_true rfl) ?_
    exact vx_ret (W.iret (v := 1) hx hb hr (fun t ht hW => ⟨⟨1, (), rfl, rfl, ⟨by rw [ht]; exact hP9, hD9⟩⟩, hS.F ht⟩) hS.2.2 dL_openGoals_14 hlocks)
  · exact hw.elim
set_option maxHeartbeats 4000000 in
set_option maxRecDepth 100000 in
theorem k_L_accept (l : Launch) (hfl : l.stackTraces = false) (G : GC) (h0 : Nat) (p0 : Int32) (o1 : Nat) (t1 : Nat) (f1 : Nat) (s1 : Nat) (d1 : Nat) (y1 : Nat) (g1 : Nat) (m1 : Nat) (n1 : Nat) (df0 : Nat) (df1 : Nat) (df2 : Nat) (df3 : Nat) (df4 : Nat) (sz : Nat) : vx_Met l yL_accept (Cond.codeWith yL_accept cL_accept 4 (some .int) [(0, 9, 12, 35), (0, 9, 15, 15), (0, 9, 18, 60)] :: W0) ({ frames := 8, cells := 1, slots := 6, locals := 127 }) (va_Pc [.ref h0, .int p0, .ref o1] (WD G [(h0, .inr (10, [.ref t1, .ref f1, .ref s1, .ref d1, .ref y1, .ref g1, .ref m1, .ref n1, .int 0, .long 0])), (d1, .inr (2, [.ref df0, .ref df1, .ref df2, .ref df3, .ref df4, .int 0, .int 0, .int 0])), (o1, .inl (cyA G 2, 1, .inr (.inl (fun _ => 0))))] sz)) (va_Qi (fun (r : Int32) (_ : Unit) => r = 1) (fun _ t => PW G (va_A [(h0, .inr (10, [.ref t1, .ref f1, .ref s1, .ref d1, .ref y1, .ref g1, .ref m1, .ref n1, .int 0, .long 0])), (d1, .inr (2, [.ref df0, .ref df1, .ref df2, .ref df3, .ref df4, .int 0, .int 0, .int 0])), (o1, .inl (cyA G 2, 1, .inr (.inl (fun _ => 0))))] sz) [(o1, .inl (cyA G 2, 1, .inr (.inl (fun _ => 0))))] t) (va_A [(h0, .inr (10, [.ref t1, .ref f1, .ref s1, .ref d1, .ref y1, .ref g1, .ref m1, .ref n1, .int 0, .long 0])), (d1, .inr (2, [.ref df0, .ref df1, .ref df2, .ref df3, .ref df4, .int 0, .int 0, .int 0])), (o1, .inl (cyA G 2, 1, .inr (.inl (fun _ => 0))))] sz)) (vx_X (fun _ : Unit => False) (fun (_ : String) (_ : Unit) (_ : State) => True) (va_A [(h0, .inr (10, [.ref t1, .ref f1, .ref s1, .ref d1, .ref y1, .ref g1, .ref m1, .ref n1, .int 0, .long 0])), (d1, .inr (2, [.ref df0, .ref df1, .ref df2, .ref df3, .ref df4, .int 0, .int 0, .int 0])), (o1, .inl (cyA G 2, 1, .inr (.inl (fun _ => 0))))] sz)) 1 6 (va_A [(h0, .inr (10, [.ref t1, .ref f1, .ref s1, .ref d1, .ref y1, .ref g1, .ref m1, .ref n1, .int 0, .long 0])), (d1, .inr (2, [.ref df0, .ref df1, .ref df2, .ref df3, .ref df4, .int 0, .int 0, .int 0])), (o1, .inl (cyA G 2, 1, .inr (.inl (fun _ => 0))))] sz) := by
  refine vx_ofWH (cc := cL_accept) (maxL := 4) (ret := (some .int)) (hh := [(0, 9, 12, 35), (0, 9, 15, 15), (0, 9, 18, 60)]) (by decide) rfl ?_
  intro p e s m args below meth c s₁ B hml hv
  obtain ⟨rfl, hsz, hP, hK, hD0, hE⟩ := hv
  have hx := B.exec
  have hb := B.bytes
  have hr := B.returns
  have hts := w0_tail B.pre
  have hown : s.vm.findClass RL = some m.cls := findClass_of_methodNamed B.named
  have hlocks := B.notSynchronized
  have htab := vx_table (x := yL_accept) B (hts _ wm1114)
  subst hsz
  have hD := hD0.self (sz := s.heap.size)
  generalize hAe : va_A [(h0, .inr (10, [.ref t1, .ref f1, .ref s1, .ref d1, .ref y1, .ref g1, .ref m1, .ref n1, .int 0, .long 0])), (d1, .inr (2, [.ref df0, .ref df1, .ref df2, .ref df3, .ref df4, .int 0, .int 0, .int 0])), (o1, .inl (cyA G 2, 1, .inr (.inl (fun _ => 0))))] s.heap.size = A at hD hE ⊢
  have hA : ∀ q : Nat, s.heap.size ≤ q → A q := fun q h => by rw [← hAe]; exact Or.inr h
  have hS : va_S A s.heap s.heap [] := va_S.rf
  obtain ⟨H, hHe⟩ : ∃ H : Heap, H = s.heap := ⟨_, rfl⟩
  have hP : va_P (DG G) clP1 [(h0, .inr (10, [.ref t1, .ref f1, .ref s1, .ref d1, .ref y1, .ref g1, .ref m1, .ref n1, .int 0, .long 0])), (d1, .inr (2, [.ref df0, .ref df1, .ref df2, .ref df3, .ref df4, .int 0, .int 0, .int 0])), (o1, .inl (cyA G 2, 1, .inr (.inl (fun _ => 0))))] H := by rw [hHe]; exact hP
  have hS : va_S A s.heap H [] := by rw [hHe]; exact hS
  have hl := lv_entry ([.ref h0, .int p0, .ref o1]) (n := 4) (Nat.le_of_ble_eq_true rfl)
  rw [lg_entry_eq, ← hHe]
  generalize (lg_sl ([.ref h0, .int p0, .ref o1]) ++ List.replicate (4 - (lg_sl ([.ref h0, .int p0, .ref o1])).length) Slot.unset).toArray = ls at hl ⊢
  have hl : lv_has ls 4 [(0, .ref h0), (1, .int p0), (2, .ref o1)] := hl
  refine lv_aload_n hx hb dL_accept_0 rfl (lv_at hl 2 rfl) ?_
  refine lv_iconst (v := 0) hx hb dL_accept_1 (by decide) ?_
  refine lv_aload_n hx hb dL_accept_2 rfl (lv_at hl 0 rfl) ?_
  refine lv_iload_n hx hb dL_accept_3 rfl (lv_at hl 1 rfl) ?_
  have hFc := va_free (wc := [(h0, .inr (10, [.ref t1, .ref f1, .ref s1, .ref d1, .ref y1, .ref g1, .ref m1, .ref n1, .int 0, .long 0])), (d1, .inr (2, [.ref df0, .ref df1, .ref df2, .ref df3, .ref df4, .int 0, .int 0, .int 0]))]) hD hS hA [0, 1] rfl
  refine vx_calli (vx_runV (As := [.int p0]) (rest := [.int 0, .ref o1]) ⟨hx, hb, hml, hown, hts⟩ (k_X11_accept l hfl G h0 p0 t1 f1 s1 d1 y1 g1 m1 n1 df0 df1 df2 df3 df4 H.size) (cwV 1 hts (gV wm1115 wm1116 wm1117 wm1 wm1118) rfl rfl rfl (by decide +kernel) ⟨Nat.le_of_ble_eq_true rfl, Nat.le_of_ble_eq_true rfl⟩) (pre_v (pre_s hK hP hD hS hE [0, 1] rfl rfl (by decide) hFc) (va_recv hK hP (ci := 10) (q0 := 0) rfl rfl)) rfl rfl hl.1 rfl (lv_room (Nat.le_of_ble_eq_true rfl)) dL_accept_4 ⟨Nat.le_of_ble_eq_true rfl, Nat.le_of_ble_eq_true rfl⟩) hS (fun q _ h => hFc q h) hFc (fun q _ h => hFc q h) (fun E ce q9 u t H locs ht hvm hpx hBX hz1 hk1 hS hce hv9 hcl => ?_) (fun r u t H locs ht hvm hw hB hz1 hk1 hS => ?_)
  · have hBX : E = "java/util/NoSuchElementException" := hBX
    subst hBX
    obtain ⟨hP, hD⟩ := va_join (wr := [(o1, .inl (cyA G 2, 1, .inr (.inl (fun _ => 0))))]) (w1 := []) hP hD [0, 1] [2] rfl rfl (by decide) (by decide) hk1 hFc nilP nilD
    refine vx_widen (k := 1) (n := 6) (Nat.le_of_ble_eq_true rfl) (Nat.le_of_ble_eq_true rfl) ?_
    refine vx_catch hown (tableOf []) ⟨0, 9, 12, 35⟩ (tableOf [(0, 9, 15, 15), (0, 9, 18, 60)]) (htab.trans rfl) xP0 (by decide) (by decide) (hts _ wm707) (va_Nw.use rfl (hE.1 _ nw718)) hce hv9 hcl ?_
    refine W.eq (g2 := F0 m 12 ls [.ref q9]) rfl ?_
    have hP : va_P (DG G) clP1 [(o1, .inl (cyA G 2, 1, .inr (.inl (fun _ => 0))))] H := hP
    have hD : va_D A [(o1, .inl (cyA G 2, 1, .inr (.inl (fun _ => 0))))] := hD
    refine lv_astore_n (lv' := [(3, .ref q9), (0, .ref h0), (1, .int p0), (2, .ref o1)]) hx hb dL_accept_12 rfl hl (by decide) rfl (fun ls hl => ?_)
    refine lv_iconst (v := 1) hx hb dL_accept_13 (by decide) ?_
    have hP9 := hP.sub (ws' := [(o1, .inl (cyA G 2, 1, .inr (.inl (fun _ => 0))))]) [0] rfl
    have hD9 := hD.sub (ws' := [(o1, .inl (cyA G 2, 1, .inr (.inl (fun _ => 0))))]) [0] (by decide) rfl
    refine W.widen (k := 1) (n := 6) (Nat.le_of_ble_eq_true rfl) (Nat.le_of_ble_eq_true rfl) ?_
    exact vx_ret (W.iret (v := 1) hx hb hr (fun t ht hW => ⟨⟨1, (), rfl, rfl, ⟨by rw [ht]; exact hP9, hD9⟩⟩, hS.F ht⟩) hS.2.2 dL_accept_14 hlocks)
  · exact hw.elim
set_option maxHeartbeats 4000000 in
set_option maxRecDepth 100000 in
theorem k_L_isAccepted (l : Launch) (hfl : l.stackTraces = false) (G : GC) (h0 : Nat) (p0 : Int32) (o1 : Nat) (t1 : Nat) (f1 : Nat) (s1 : Nat) (d1 : Nat) (y1 : Nat) (g1 : Nat) (m1 : Nat) (n1 : Nat) (df0 : Nat) (df1 : Nat) (df2 : Nat) (df3 : Nat) (df4 : Nat) (sz : Nat) : vx_Met l yL_isAccepted (Cond.codeWith yL_isAccepted cL_isAccepted 4 (some .int) [(0, 16, 19, 35)] :: W0) ({ frames := 8, cells := 1, slots := 6, locals := 125 }) (va_Pc [.ref h0, .int p0, .ref o1] (WD G [(h0, .inr (10, [.ref t1, .ref f1, .ref s1, .ref d1, .ref y1, .ref g1, .ref m1, .ref n1, .int 0, .long 0])), (d1, .inr (2, [.ref df0, .ref df1, .ref df2, .ref df3, .ref df4, .int 0, .int 0, .int 0])), (o1, .inl (cyA G 2, 1, .inr (.inl (fun _ => 0))))] sz)) (va_Qi (fun (r : Int32) (_ : Unit) => r = 1) (fun _ t => PW G (va_A [(h0, .inr (10, [.ref t1, .ref f1, .ref s1, .ref d1, .ref y1, .ref g1, .ref m1, .ref n1, .int 0, .long 0])), (d1, .inr (2, [.ref df0, .ref df1, .ref df2, .ref df3, .ref df4, .int 0, .int 0, .int 0])), (o1, .inl (cyA G 2, 1, .inr (.inl (fun _ => 0))))] sz) [(o1, .inl (cyA G 2, 1, .inr (.inl (fun _ => 0))))] t) (va_A [(h0, .inr (10, [.ref t1, .ref f1, .ref s1, .ref d1, .ref y1, .ref g1, .ref m1, .ref n1, .int 0, .long 0])), (d1, .inr (2, [.ref df0, .ref df1, .ref df2, .ref df3, .ref df4, .int 0, .int 0, .int 0])), (o1, .inl (cyA G 2, 1, .inr (.inl (fun _ => 0))))] sz)) (vx_X (fun _ : Unit => False) (fun (_ : String) (_ : Unit) (_ : State) => True) (va_A [(h0, .inr (10, [.ref t1, .ref f1, .ref s1, .ref d1, .ref y1, .ref g1, .ref m1, .ref n1, .int 0, .long 0])), (d1, .inr (2, [.ref df0, .ref df1, .ref df2, .ref df3, .ref df4, .int 0, .int 0, .int 0])), (o1, .inl (cyA G 2, 1, .inr (.inl (fun _ => 0))))] sz)) 1 6 (va_A [(h0, .inr (10, [.ref t1, .ref f1, .ref s1, .ref d1, .ref y1, .ref g1, .ref m1, .ref n1, .int 0, .long 0])), (d1, .inr (2, [.ref df0, .ref df1, .ref df2, .ref df3, .ref df4, .int 0, .int 0, .int 0])), (o1, .inl (cyA G 2, 1, .inr (.inl (fun _ => 0))))] sz) := by
  refine vx_ofWH (cc := cL_isAccepted) (maxL := 4) (ret := (some .int)) (hh := [(0, 16, 19, 35)]) (by decide) rfl ?_
  intro p e s m args below meth c s₁ B hml hv
  obtain ⟨rfl, hsz, hP, hK, hD0, hE⟩ := hv
  have hx := B.exec
  have hb := B.bytes
  have hr := B.returns
  have hts := w0_tail B.pre
  have hown : s.vm.findClass RL = some m.cls := findClass_of_methodNamed B.named
  have hlocks := B.notSynchronized
  have htab := vx_table (x := yL_isAccepted) B (hts _ wm1171)
  subst hsz
  have hD := hD0.self (sz := s.heap.size)
  generalize hAe : va_A [(h0, .inr (10, [.ref t1, .ref f1, .ref s1, .ref d1, .ref y1, .ref g1, .ref m1, .ref n1, .int 0, .long 0])), (d1, .inr (2, [.ref df0, .ref df1, .ref df2, .ref df3, .ref df4, .int 0, .int 0, .int 0])), (o1, .inl (cyA G 2, 1, .inr (.inl (fun _ => 0))))] s.heap.size = A at hD hE ⊢
  have hA : ∀ q : Nat, s.heap.size ≤ q → A q := fun q h => by rw [← hAe]; exact Or.inr h
  have hS : va_S A s.heap s.heap [] := va_S.rf
  obtain ⟨H, hHe⟩ : ∃ H : Heap, H = s.heap := ⟨_, rfl⟩
  have hP : va_P (DG G) clP1 [(h0, .inr (10, [.ref t1, .ref f1, .ref s1, .ref d1, .ref y1, .ref g1, .ref m1, .ref n1, .int 0, .long 0])), (d1, .inr (2, [.ref df0, .ref df1, .ref df2, .ref df3, .ref df4, .int 0, .int 0, .int 0])), (o1, .inl (cyA G 2, 1, .inr (.inl (fun _ => 0))))] H := by rw [hHe]; exact hP
  have hS : va_S A s.heap H [] := by rw [hHe]; exact hS
  have hl := lv_entry ([.ref h0, .int p0, .ref o1]) (n := 4) (Nat.le_of_ble_eq_true rfl)
  rw [lg_entry_eq, ← hHe]
  generalize (lg_sl ([.ref h0, .int p0, .ref o1]) ++ List.replicate (4 - (lg_sl ([.ref h0, .int p0, .ref o1])).length) Slot.unset).toArray = ls at hl ⊢
  have hl : lv_has ls 4 [(0, .ref h0), (1, .int p0), (2, .ref o1)] := hl
  refine lv_aload_n hx hb dL_isAccepted_0 rfl (lv_at hl 2 rfl) ?_
  refine lv_iconst (v := 0) hx hb dL_isAccepted_1 (by decide) ?_
  refine lv_aload_n hx hb dL_isAccepted_2 rfl (lv_at hl 0 rfl) ?_
  refine lv_iload_n hx hb dL_isAccepted_3 rfl (lv_at hl 1 rfl) ?_
  have hFc := va_free (wc := [(h0, .inr (10, [.ref t1, .ref f1, .ref s1, .ref d1, .ref y1, .ref g1, .ref m1, .ref n1, .int 0, .long 0])), (d1, .inr (2, [.ref df0, .ref df1, .ref df2, .ref df3, .ref df4, .int 0, .int 0, .int 0]))]) hD hS hA [0, 1] rfl
  refine vx_calli (vx_runV (As := [.int p0]) (rest := [.int 0, .ref o1]) ⟨hx, hb, hml, hown, hts⟩ (k_X11_isAccepted l hfl G h0 p0 t1 f1 s1 d1 y1 g1 m1 n1 df0 df1 df2 df3 df4 H.size) (cwV 1 hts (gV wm1172 wm1173 wm1174 wm1 wm1175) rfl rfl rfl (by decide +kernel) ⟨Nat.le_of_ble_eq_true rfl, Nat.le_of_ble_eq_true rfl⟩) (pre_v (pre_s hK hP hD hS hE [0, 1] rfl rfl (by decide) hFc) (va_recv hK hP (ci := 10) (q0 := 0) rfl rfl)) rfl rfl hl.1 rfl (lv_room (Nat.le_of_ble_eq_true rfl)) dL_isAccepted_4 ⟨Nat.le_of_ble_eq_true rfl, Nat.le_of_ble_eq_true rfl⟩) hS (fun q _ h => hFc q h) hFc (fun q _ h => hFc q h) (fun E ce q9 u t H locs ht hvm hpx hBX hz1 hk1 hS hce hv9 hcl => ?_) (fun r u t H locs ht hvm hw hB hz1 hk1 hS => ?_)
  · have hBX : E = "java/util/NoSuchElementException" := hBX
    subst hBX
    obtain ⟨hP, hD⟩ := va_join (wr := [(o1, .inl (cyA G 2, 1, .inr (.inl (fun _ => 0))))]) (w1 := []) hP hD [0, 1] [2] rfl rfl (by decide) (by decide) hk1 hFc nilP nilD
    refine vx_widen (k := 1) (n := 6) (Nat.le_of_ble_eq_true rfl) (Nat.le_of_ble_eq_true rfl) ?_
    refine vx_catch hown (tableOf []) ⟨0, 16, 19, 35⟩ (tableOf []) (htab.trans rfl) xP0 (by decide) (by decide) (hts _ wm707) (va_Nw.use rfl (hE.1 _ nw718)) hce hv9 hcl ?_
    refine W.eq (g2 := F0 m 19 ls [.ref q9]) rfl ?_
    have hP : va_P (DG G) clP1 [(o1, .inl (cyA G 2, 1, .inr (.inl (fun _ => 0))))] H := hP
    have hD : va_D A [(o1, .inl (cyA G 2, 1, .inr (.inl (fun _ => 0))))] := hD
    refine lv_astore_n (lv' := [(3, .ref q9), (0, .ref h0), (1, .int p0), (2, .ref o1)]) hx hb dL_isAccepted_19 rfl hl (by decide) rfl (fun ls hl => ?_)
    refine lv_iconst (v := 1) hx hb dL_isAccepted_20 (by decide) ?_
    have hP9 := hP.sub (ws' := [(o1, .inl (cyA G 2, 1, .inr (.inl (fun _ => 0))))]) [0] rfl
    have hD9 := hD.sub (ws' := [(o1, .inl (cyA G 2, 1, .inr (.inl (fun _ => 0))))]) [0] (by decide) rfl
    refine W.widen (k := 1) (n := 6) (Nat.le_of_ble_eq_true rfl) (Nat.le_of_ble_eq_true rfl) ?_
    exact vx_ret (W.iret (v := 1) hx hb hr (fun t ht hW => ⟨⟨1, (), rfl, rfl, ⟨by rw [ht]; exact hP9, hD9⟩⟩, hS.F ht⟩) hS.2.2 dL_isAccepted_21 hlocks)
  · exact hw.elim
