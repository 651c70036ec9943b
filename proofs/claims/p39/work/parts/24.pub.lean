def f_X11_typeOf (T : TS) (F : FS) (U : US) (S : SS) (D : DS) (N : NS) (P : PS) (p1 : Int32) : Option (Int32 × Int32 × TS × FS × US) := (Option.bind (f_X11_termAt N p1) (fun q_1 => (if q_1.1 = 0 then (Option.bind (g_X9_mark T) (fun q_3 => (Option.bind (f_X10_formOf T F U S D P q_1.2) (fun q_4 => (Option.bind (f_X11_numberOfScratch q_4.2.1 q_3 q_4.1) (fun q_5 => (if q_5.1 = 0 then some (0, q_5.2.1, q_5.2.2, q_4.2.2.1, q_4.2.2.2) else some (q_5.1, 0, q_5.2.2, q_4.2.2.1, q_4.2.2.2)))))))) else some (q_1.1, 0, T, F, U))))
set_option maxHeartbeats 2000000 in
set_option maxRecDepth 100000 in
theorem k_X11_typeOf (l : Launch) (hfl : l.stackTraces = false) (G : GC) (a : AS) (T : TS) (F : FS) (U : US) (S : SS) (D : DS) (R : RS) (M : MS) (N : NS) (P : PS) (hlk : lkA a D.1.toNatClampNeg D.2.1.toNatClampNeg) (p1 : Int32) (k9 : Int32) (r9 : Int32) (T9 : TS) (F9 : FS) (U9 : US) (hm : f_X11_typeOf T F U S D N P p1 = some (k9, r9, T9, F9, U9)) (sz : Nat) : vx_Met l yX11_typeOf (Cond.code yX11_typeOf cX11_typeOf 4 (some .int) :: W0) ({ frames := 582, cells := 2, slots := 12, locals := 15245 }) (va_Pc [.ref (a.1 0), .int p1] (WD G (wC G a T F U S D R M N P) sz)) (va_Qi (S := Unit) (fun r _ => k9 = 0 ∧ r = r9) (fun _ t => PW G (va_A (wC G a T F U S D R M N P) sz) (wC G a T9 F9 U9 S D R M N P) t) (va_A (wC G a T F U S D R M N P) sz)) (vx_X (fun _ : Unit => True) (fun (E : String) (_ : Unit) (t : State) => xnm k9 = some E ∧ PW G (va_A (wC G a T F U S D R M N P) sz) (wC G a T9 F9 U9 S D R M N P) t) (va_A (wC G a T F U S D R M N P) sz)) 2 12 (va_A (wC G a T F U S D R M N P) sz) := by
  rw [f_X11_typeOf] at hm
  refine vx_ofW (cc := cX11_typeOf) (maxL := 4) (ret := (some .int)) (by decide) rfl ?_
  intro p e s m args below meth c s₁ B hml hout0 hv
  obtain ⟨rfl, hsz, hP, hK, hD0, hE⟩ := hv
  have hx := B.exec
  have hb := B.bytes
  have hr := B.returns
  have hts := w0_tail B.pre
  have hown : s.vm.findClass RX11 = some m.cls := findClass_of_methodNamed B.named
  have hlocks := B.notSynchronized
  have hD := hD0.self (sz := sz)
  obtain ⟨A, hAe⟩ : ∃ A, (va_A (wC G a T F U S D R M N P) sz) = A := ⟨_, rfl⟩
  rw [hAe] at hD hE
  have hA : ∀ q : Nat, s.heap.size ≤ q → A q := fun q h => by rw [← hAe]; exact Or.inr (by rw [← hsz]; exact h)
  have hS : va_S A s.heap s.heap [] := va_S.rf
  obtain ⟨H, hHe⟩ : ∃ H : Heap, H = s.heap := ⟨_, rfl⟩
  have hP : va_P (DG G) clP3 (wC G a T F U S D R M N P) H := by rw [hHe]; exact hP
  have hS : va_S A s.heap H [] := by rw [hHe]; exact hS
  have hl := lv_entry ([.ref (a.1 0), .int p1]) (n := 4) (Nat.le_of_ble_eq_true rfl)
  rw [lg_entry_eq, ← hHe]
  generalize (lg_sl ([.ref (a.1 0), .int p1]) ++ List.replicate (4 - (lg_sl ([.ref (a.1 0), .int p1])).length) Slot.unset).toArray = ls at hl ⊢
  have hl : lv_has ls 4 [(0, .ref (a.1 0)), (1, .int p1)] := hl
  refine lv_aload_n hx hb dX11_typeOf_0 rfl (lv_at hl 0 rfl) ?_
  refine lv_iload_n hx hb dX11_typeOf_1 rfl (lv_at hl 1 rfl) ?_
  obtain ⟨q_1, hq_1, hm⟩ := bind_some hm
  have hFc := free_all hD hS hA
  refine vx_calli (vx_runV (As := [.int p1]) (rest := []) ⟨hx, hb, hml, hown, hts⟩ (k_X11_termAt l hfl G a T F U S D R M N P hlk p1  q_1.1 q_1.2 hq_1 H.size) (cwV 1 hts (gV wm319 wm321 ws_p0 wm1 wm322) rfl rfl rfl (by decide +kernel) ⟨Nat.le_of_ble_eq_true rfl, Nat.le_of_ble_eq_true rfl⟩) (pre_v (pre_w hK hP hD hS hE hFc) (va_recv hK hP (ci := 10) (q0 := 0) rfl rfl)) rfl rfl hl.1 rfl (lv_room (Nat.le_of_ble_eq_true rfl)) dX11_typeOf_2 ⟨Nat.le_of_ble_eq_true rfl, Nat.le_of_ble_eq_true rfl⟩) hS (fun q _ h => hFc q h) hFc (fun q _ h => hFc q h) (fun E ce q9 u_2 t H locs ht hvm hpx hBX hz1 hk1 hS hce hv9 hcl => ?_) (fun r u_2 t H locs ht hvm hw hB hz1 hk1 hS => ?_)
  · have hne : ¬ q_1.1 = 0 := xnm_ne hBX.1
    rw [if_neg hne] at hm
    have hX9 := hBX.1
    have hB := hBX.2
    have hP : va_P (DG G) clP3 (wC G a T F U S D R M N P) H := by rw [← ht]; exact hB.1
    have hD : va_D A (wC G a T F U S D R M N P) := hB.2.weaken (fun _ p _ h => hFc p.1 h)
    simp only [Option.some.injEq, Prod.mk.injEq] at hm
    obtain ⟨rfl, rfl, rfl, rfl, rfl⟩ := hm
    subst hAe
    exact vx_out (fun x hx => (hout0 x hx).elim) hlocks hce hv9 hcl (fun t2 ht2 _ => ⟨(), trivial, ⟨hX9, by rw [ht2]; exact hP, hD⟩, hS.F ht2⟩) hS.2.2 (Nat.le_of_ble_eq_true rfl) (Nat.le_of_ble_eq_true rfl)
  · rw [if_pos hw.1] at hm
    rw [show r = q_1.2 from hw.2]
    have hP : va_P (DG G) clP3 (wC G a T F U S D R M N P) H := by rw [← ht]; exact hB.1
    have hD : va_D A (wC G a T F U S D R M N P) := hB.2.weaken (fun _ p _ h => hFc p.1 h)
    refine W.widen (k := 1) (n := 6) (Nat.le_of_ble_eq_true rfl) (Nat.le_of_ble_eq_true rfl) ?_
    refine lv_istore_n (lv' := [(2, .int q_1.2), (0, .ref (a.1 0)), (1, .int p1)]) hx hb dX11_typeOf_5 rfl hl (by decide) rfl (fun ls hl => ?_)
    refine lv_aload_n hx hb dX11_typeOf_6 rfl (lv_at hl 1 rfl) ?_
    refine va_get (D := DG G) (ci := 10) (v := .ref (a.1 1)) (C := RX11) (T := TX11) (N := 10) hx hb hts inW_X11 hown hK hP 0 rfl rfl 0 (by decide) (hts _ wm284) (fun _ h9 => h9) rfl dX11_typeOf_7 ?_
    obtain ⟨q_3, hq_3, hm⟩ := bind_some hm
    have hFc := free_all hD hS hA
    refine va_calli (va_runV (As := []) (rest := []) ⟨hx, hb, hml, hown, hts⟩ (K_X9_mark l hfl G a T F U S D R M N P   q_3 hq_3 H.size) (cwV 0 hts (gV wm410 wm411 wm412 wm2 wm413) rfl rfl rfl (by decide +kernel) ⟨Nat.le_of_ble_eq_true rfl, Nat.le_of_ble_eq_true rfl⟩) (pre_v (pre_w hK hP hD hS hE hFc) (va_recv hK hP (ci := 8) (q0 := 1) rfl rfl)) rfl rfl hl.1 rfl (lv_room (Nat.le_of_ble_eq_true rfl)) dX11_typeOf_10 ⟨Nat.le_of_ble_eq_true rfl, Nat.le_of_ble_eq_true rfl⟩) hS (fun q _ h => hFc q h) hFc (fun r u t H locs ht hvm hw hB hz1 hk1 hS => ?_)
    rw [show r = q_3 from hw]
    have hP : va_P (DG G) clP3 (wC G a T F U S D R M N P) H := by rw [← ht]; exact hB.1
    have hD : va_D A (wC G a T F U S D R M N P) := hB.2.weaken (fun _ p _ h => hFc p.1 h)
    clear hB hFc hw hk1
    refine W.widen (k := 1) (n := 6) (Nat.le_of_ble_eq_true rfl) (Nat.le_of_ble_eq_true rfl) ?_
    refine lv_istore_n (lv' := [(3, .int q_3), (2, .int q_1.2), (0, .ref (a.1 0)), (1, .int p1)]) hx hb dX11_typeOf_13 rfl hl (by decide) rfl (fun ls hl => ?_)
    refine lv_aload_n hx hb dX11_typeOf_14 rfl (lv_at hl 2 rfl) ?_
    refine lv_iload_n hx hb dX11_typeOf_15 rfl (lv_at hl 0 rfl) ?_
    refine lv_aload_n hx hb dX11_typeOf_16 rfl (lv_at hl 2 rfl) ?_
    refine va_get (D := DG G) (ci := 10) (v := .ref (a.1 24)) (C := RX11) (T := TX11) (N := 10) hx hb hts inW_X11 hown hK hP 0 rfl rfl 4 (by decide) (hts _ wm288) (fun _ h9 => h9) rfl dX11_typeOf_17 ?_
    refine lv_iload_n hx hb dX11_typeOf_20 rfl (lv_at hl 1 rfl) ?_
    obtain ⟨q_4, hq_4, hm⟩ := bind_some hm
    have hFc := free_all hD hS hA
    refine va_calli (va_runV (As := [.int q_1.2]) (rest := [.int q_3, .ref (a.1 0)]) ⟨hx, hb, hml, hown, hts⟩ (k_X10_formOf l hfl G a T F U S D R M N P hlk q_1.2  q_4.1 q_4.2.1 q_4.2.2.1 q_4.2.2.2 hq_4 H.size) (cwV 1 hts (gV wm414 wm415 wm416 wm6 wm417) rfl rfl rfl (by decide +kernel) ⟨Nat.le_of_ble_eq_true rfl, Nat.le_of_ble_eq_true rfl⟩) (pre_v (pre_w hK hP hD hS hE hFc) (va_recv hK hP (ci := 9) (q0 := 24) rfl rfl)) rfl rfl hl.1 rfl (lv_room (Nat.le_of_ble_eq_true rfl)) dX11_typeOf_21 ⟨Nat.le_of_ble_eq_true rfl, Nat.le_of_ble_eq_true rfl⟩) hS (fun q _ h => hFc q h) hFc (fun r u t H locs ht hvm hw hB hz1 hk1 hS => ?_)
    rw [show r = q_4.1 from hw]
    have hP : va_P (DG G) clP3 (wC G a q_4.2.1 q_4.2.2.1 q_4.2.2.2 S D R M N P) H := by rw [← ht]; exact hB.1
    have hD : va_D A (wC G a q_4.2.1 q_4.2.2.1 q_4.2.2.2 S D R M N P) := hB.2.weaken (fun _ p _ h => hFc p.1 h)
    clear hB hFc hw hk1
    refine W.widen (k := 1) (n := 6) (Nat.le_of_ble_eq_true rfl) (Nat.le_of_ble_eq_true rfl) ?_
    obtain ⟨q_5, hq_5, hm⟩ := bind_some hm
    have hFc := free_all hD hS hA
    refine vx_calli (vx_runV (As := [.int q_3, .int q_4.1]) (rest := []) ⟨hx, hb, hml, hown, hts⟩ (k_X11_numberOfScratch l hfl G a q_4.2.1 q_4.2.2.1 q_4.2.2.2 S D R M N P hlk q_3 q_4.1  q_5.1 q_5.2.1 q_5.2.2 hq_5 H.size) (cwV 2 hts (gV wm815 wm817 ws_p11 wm1 wm818) rfl rfl rfl (by decide +kernel) ⟨Nat.le_of_ble_eq_true rfl, Nat.le_of_ble_eq_true rfl⟩) (pre_v (pre_w hK hP hD hS hE hFc) (va_recv hK hP (ci := 10) (q0 := 0) rfl rfl)) rfl rfl hl.1 rfl (lv_room (Nat.le_of_ble_eq_true rfl)) dX11_typeOf_24 ⟨Nat.le_of_ble_eq_true rfl, Nat.le_of_ble_eq_true rfl⟩) hS (fun q _ h => hFc q h) hFc (fun q _ h => hFc q h) (fun E ce q9 u_6 t H locs ht hvm hpx hBX hz1 hk1 hS hce hv9 hcl => ?_) (fun r u_6 t H locs ht hvm hw hB hz1 hk1 hS => ?_)
    · have hne : ¬ q_5.1 = 0 := xnm_ne hBX.1
      rw [if_neg hne] at hm
      have hX9 := hBX.1
      have hB := hBX.2
      have hP : va_P (DG G) clP3 (wC G a q_5.2.2 q_4.2.2.1 q_4.2.2.2 S D R M N P) H := by rw [← ht]; exact hB.1
      have hD : va_D A (wC G a q_5.2.2 q_4.2.2.1 q_4.2.2.2 S D R M N P) := hB.2.weaken (fun _ p _ h => hFc p.1 h)
      simp only [Option.some.injEq, Prod.mk.injEq] at hm
      obtain ⟨rfl, rfl, rfl, rfl, rfl⟩ := hm
      subst hAe
      exact vx_out (fun x hx => (hout0 x hx).elim) hlocks hce hv9 hcl (fun t2 ht2 _ => ⟨(), trivial, ⟨hX9, by rw [ht2]; exact hP, hD⟩, hS.F ht2⟩) hS.2.2 (Nat.le_of_ble_eq_true rfl) (Nat.le_of_ble_eq_true rfl)
    · rw [if_pos hw.1] at hm
      rw [show r = q_5.2.1 from hw.2]
      have hP : va_P (DG G) clP3 (wC G a q_5.2.2 q_4.2.2.1 q_4.2.2.2 S D R M N P) H := by rw [← ht]; exact hB.1
      have hD : va_D A (wC G a q_5.2.2 q_4.2.2.1 q_4.2.2.2 S D R M N P) := hB.2.weaken (fun _ p _ h => hFc p.1 h)
      refine W.widen (k := 2) (n := 12) (Nat.le_of_ble_eq_true rfl) (Nat.le_of_ble_eq_true rfl) ?_
      simp only [Option.some.injEq, Prod.mk.injEq] at hm
      obtain ⟨rfl, rfl, rfl, rfl, rfl⟩ := hm
      subst hAe
      refine W.widen (k := 2) (n := 12) (Nat.le_of_ble_eq_true rfl) (Nat.le_of_ble_eq_true rfl) ?_
      exact vx_ret (W.iret (v := q_5.2.1) hx hb hr (fun t ht hW => ⟨⟨q_5.2.1, (), rfl, ⟨rfl, rfl⟩, ⟨by rw [ht]; exact hP, hD⟩⟩, hS.F ht⟩) hS.2.2 dX11_typeOf_27 hlocks)
def f_X11_level (T : TS) (F : FS) (U : US) (S : SS) (D : DS) (N : NS) (P : PS) (p1 : Int32) : Option (Int32 × Int32 × TS × FS × US) := (Option.bind (f_X11_termAt N p1) (fun q_1 => (if q_1.1 = 0 then (Option.bind (f_X10_levelOf T F U S D P q_1.2) (fun q_3 => (if q_3.1 = (-1) then some (5, 0, q_3.2.1, q_3.2.2.1, q_3.2.2.2) else some (0, q_3.1, q_3.2.1, q_3.2.2.1, q_3.2.2.2)))) else some (q_1.1, 0, T, F, U))))
set_option maxHeartbeats 2000000 in
set_option maxRecDepth 100000 in
theorem k_X11_level (l : Launch) (hfl : l.stackTraces = false) (G : GC) (a : AS) (T : TS) (F : FS) (U : US) (S : SS) (D : DS) (R : RS) (M : MS) (N : NS) (P : PS) (hlk : lkA a D.1.toNatClampNeg D.2.1.toNatClampNeg) (p1 : Int32) (k9 : Int32) (r9 : Int32) (T9 : TS) (F9 : FS) (U9 : US) (hm : f_X11_level T F U S D N P p1 = some (k9, r9, T9, F9, U9)) (sz : Nat) : vx_Met l yX11_level (Cond.code yX11_level cX11_level 3 (some .int) :: W0) ({ frames := 582, cells := 2, slots := 12, locals := 15247 }) (va_Pc [.ref (a.1 0), .int p1] (WD G (wC G a T F U S D R M N P) sz)) (va_Qi (S := Unit) (fun r _ => k9 = 0 ∧ r = r9) (fun _ t => PW G (va_A (wC G a T F U S D R M N P) sz) (wC G a T9 F9 U9 S D R M N P) t) (va_A (wC G a T F U S D R M N P) sz)) (vx_X (fun _ : Unit => True) (fun (E : String) (_ : Unit) (t : State) => xnm k9 = some E ∧ PW G (va_A (wC G a T F U S D R M N P) sz) (wC G a T9 F9 U9 S D R M N P) t) (va_A (wC G a T F U S D R M N P) sz)) 2 12 (va_A (wC G a T F U S D R M N P) sz) := by
  rw [f_X11_level] at hm
  refine vx_ofW (cc := cX11_level) (maxL := 3) (ret := (some .int)) (by decide) rfl ?_
  intro p e s m args below meth c s₁ B hml hout0 hv
  obtain ⟨rfl, hsz, hP, hK, hD0, hE⟩ := hv
  have hx := B.exec
  have hb := B.bytes
  have hr := B.returns
  have hts := w0_tail B.pre
  have hown : s.vm.findClass RX11 = some m.cls := findClass_of_methodNamed B.named
  have hlocks := B.notSynchronized
  have hD := hD0.self (sz := sz)
  obtain ⟨A, hAe⟩ : ∃ A, (va_A (wC G a T F U S D R M N P) sz) = A := ⟨_, rfl⟩
  rw [hAe] at hD hE
  have hA : ∀ q : Nat, s.heap.size ≤ q → A q := fun q h => by rw [← hAe]; exact Or.inr (by rw [← hsz]; exact h)
  have hS : va_S A s.heap s.heap [] := va_S.rf
  obtain ⟨H, hHe⟩ : ∃ H : Heap, H = s.heap := ⟨_, rfl⟩
  have hP : va_P (DG G) clP3 (wC G a T F U S D R M N P) H := by rw [hHe]; exact hP
  have hS : va_S A s.heap H [] := by rw [hHe]; exact hS
  have hl := lv_entry ([.ref (a.1 0), .int p1]) (n := 3) (Nat.le_of_ble_eq_true rfl)
  rw [lg_entry_eq, ← hHe]
  generalize (lg_sl ([.ref (a.1 0), .int p1]) ++ List.replicate (3 - (lg_sl ([.ref (a.1 0), .int p1])).length) Slot.unset).toArray = ls at hl ⊢
  have hl : lv_has ls 3 [(0, .ref (a.1 0)), (1, .int p1)] := hl
  refine lv_aload_n hx hb dX11_level_0 rfl (lv_at hl 0 rfl) ?_
  refine va_get (D := DG G) (ci := 10) (v := .ref (a.1 24)) (C := RX11) (T := TX11) (N := 10) hx hb hts inW_X11 hown hK hP 0 rfl rfl 4 (by decide) (hts _ wm288) (fun _ h9 => h9) rfl dX11_level_1 ?_
  refine lv_aload_n hx hb dX11_level_4 rfl (lv_at hl 0 rfl) ?_
  refine lv_iload_n hx hb dX11_level_5 rfl (lv_at hl 1 rfl) ?_
  obtain ⟨q_1, hq_1, hm⟩ := bind_some hm
  have hFc := free_all hD hS hA
  refine vx_calli (vx_runV (As := [.int p1]) (rest := [.ref (a.1 24)]) ⟨hx, hb, hml, hown, hts⟩ (k_X11_termAt l hfl G a T F U S D R M N P hlk p1  q_1.1 q_1.2 hq_1 H.size) (cwV 1 hts (gV wm319 wm321 ws_p0 wm1 wm322) rfl rfl rfl (by decide +kernel) ⟨Nat.le_of_ble_eq_true rfl, Nat.le_of_ble_eq_true rfl⟩) (pre_v (pre_w hK hP hD hS hE hFc) (va_recv hK hP (ci := 10) (q0 := 0) rfl rfl)) rfl rfl hl.1 rfl (lv_room (Nat.le_of_ble_eq_true rfl)) dX11_level_6 ⟨Nat.le_of_ble_eq_true rfl, Nat.le_of_ble_eq_true rfl⟩) hS (fun q _ h => hFc q h) hFc (fun q _ h => hFc q h) (fun E ce q9 u_2 t H locs ht hvm hpx hBX hz1 hk1 hS hce hv9 hcl => ?_) (fun r u_2 t H locs ht hvm hw hB hz1 hk1 hS => ?_)
  · have hne : ¬ q_1.1 = 0 := xnm_ne hBX.1
    rw [if_neg hne] at hm
    have hX9 := hBX.1
    have hB := hBX.2
    have hP : va_P (DG G) clP3 (wC G a T F U S D R M N P) H := by rw [← ht]; exact hB.1
    have hD : va_D A (wC G a T F U S D R M N P) := hB.2.weaken (fun _ p _ h => hFc p.1 h)
    simp only [Option.some.injEq, Prod.mk.injEq] at hm
    obtain ⟨rfl, rfl, rfl, rfl, rfl⟩ := hm
    subst hAe
    exact vx_out (fun x hx => (hout0 x hx).elim) hlocks hce hv9 hcl (fun t2 ht2 _ => ⟨(), trivial, ⟨hX9, by rw [ht2]; exact hP, hD⟩, hS.F ht2⟩) hS.2.2 (Nat.le_of_ble_eq_true rfl) (Nat.le_of_ble_eq_true rfl)
  · rw [if_pos hw.1] at hm
    rw [show r = q_1.2 from hw.2]
    have hP : va_P (DG G) clP3 (wC G a T F U S D R M N P) H := by rw [← ht]; exact hB.1
    have hD : va_D A (wC G a T F U S D R M N P) := hB.2.weaken (fun _ p _ h => hFc p.1 h)
    refine W.widen (k := 1) (n := 6) (Nat.le_of_ble_eq_true rfl) (Nat.le_of_ble_eq_true rfl) ?_
    obtain ⟨q_3, hq_3, hm⟩ := bind_some hm
    have hFc := free_all hD hS hA
    refine va_calli (va_runV (As := [.int q_1.2]) (rest := []) ⟨hx, hb, hml, hown, hts⟩ (k_X10_levelOf l hfl G a T F U S D R M N P hlk q_1.2  q_3.1 q_3.2.1 q_3.2.2.1 q_3.2.2.2 hq_3 H.size) (cwV 1 hts (gV wm850 wm851 wm852 wm6 wm853) rfl rfl rfl (by decide +kernel) ⟨Nat.le_of_ble_eq_true rfl, Nat.le_of_ble_eq_true rfl⟩) (pre_v (pre_w hK hP hD hS hE hFc) (va_recv hK hP (ci := 9) (q0 := 24) rfl rfl)) rfl rfl hl.1 rfl (lv_room (Nat.le_of_ble_eq_true rfl)) dX11_level_9 ⟨Nat.le_of_ble_eq_true rfl, Nat.le_of_ble_eq_true rfl⟩) hS (fun q _ h => hFc q h) hFc (fun r u t H locs ht hvm hw hB hz1 hk1 hS => ?_)
    rw [show r = q_3.1 from hw]
    have hP : va_P (DG G) clP3 (wC G a q_3.2.1 q_3.2.2.1 q_3.2.2.2 S D R M N P) H := by rw [← ht]; exact hB.1
    have hD : va_D A (wC G a q_3.2.1 q_3.2.2.1 q_3.2.2.2 S D R M N P) := hB.2.weaken (fun _ p _ h => hFc p.1 h)
    clear hB hFc hw hk1
    refine W.widen (k := 1) (n := 6) (Nat.le_of_ble_eq_true rfl) (Nat.le_of_ble_eq_true rfl) ?_
    refine lv_istore_n (lv' := [(2, .int q_3.1), (0, .ref (a.1 0)), (1, .int p1)]) hx hb dX11_level_12 rfl hl (by decide) rfl (fun ls hl => ?_)
    refine lv_iload_n hx hb dX11_level_13 rfl (lv_at hl 0 rfl) ?_
    refine lv_iconst (v := (-1)) hx hb dX11_level_14 (by decide) ?_
    refine lv_icmp_ne (tgt := 28) hx hb dX11_level_15 (by decide) (fun c_4 => ?_) (fun c_4 => ?_)
    · rw [if_neg c_4] at hm
      refine lv_iload_n hx hb dX11_level_28 rfl (lv_at hl 0 rfl) ?_
      simp only [Option.some.injEq, Prod.mk.injEq] at hm
      obtain ⟨rfl, rfl, rfl, rfl, rfl⟩ := hm
      subst hAe
      refine W.widen (k := 2) (n := 12) (Nat.le_of_ble_eq_true rfl) (Nat.le_of_ble_eq_true rfl) ?_
      exact vx_ret (W.iret (v := q_3.1) hx hb hr (fun t ht hW => ⟨⟨q_3.1, (), rfl, ⟨rfl, rfl⟩, ⟨by rw [ht]; exact hP, hD⟩⟩, hS.F ht⟩) hS.2.2 dX11_level_29 hlocks)
    · rw [if_pos c_4] at hm
      simp only [Option.some.injEq, Prod.mk.injEq] at hm
      obtain ⟨rfl, rfl, rfl, rfl, rfl⟩ := hm
      subst hAe
      obtain ⟨sa, hsa⟩ := hE.2.1 _ stm15
      exact vx_throwS (names := ["java/lang/RuntimeException", "java/lang/Exception"]) (A := _) (free := _) hx hb hfl hown (by decide +kernel) (by decide +kernel) (hts _ wm819) (hts _ wm21) hsa (xX11_162_hat hts hE) xX11_162_good (EV.un hE) (EV.su hE) hS (hl.1.trans hml.symm) dX11_level_18 dX11_level_21 dX11_level_22 dX11_level_24 dX11_level_27 (fun x hx => (hout0 x hx).elim) (Nat.le_of_ble_eq_true rfl) (Nat.le_of_ble_eq_true rfl) (Nat.le_of_ble_eq_true rfl) (Nat.le_of_ble_eq_true rfl) hlocks (fun t ha hz hk => ⟨(), trivial, ⟨rfl, va_Pgrow hP hk, hD⟩, xF hS hz hk⟩) hS.2.2 (Nat.le_of_ble_eq_true rfl) (Nat.le_of_ble_eq_true rfl)
def f_X11_isOf (T : TS) (F : FS) (U : US) (S : SS) (D : DS) (N : NS) (P : PS) (p1 : Int32) (p2 : Int32) : Option (Int32 × Int32 × TS × FS × US) := (Option.bind (f_X11_termAt N p1) (fun q_1 => (if q_1.1 = 0 then (Option.bind (f_X11_termAt N p2) (fun q_3 => (if q_3.1 = 0 then (Option.bind (g_X9_mark T) (fun q_5 => (Option.bind (f_X10_formOf T F U S D P q_1.2) (fun q_6 => (Option.bind (g_X1_formOf q_6.2.1 q_6.2.2.1 q_3.2) (fun q_7 => (Option.bind (g_X6_same q_7.2.1 q_6.1 q_7.1) (fun q_8 => (Option.bind (g_X9_release q_7.2.1 q_5) (fun q_9 => (if inb q_8 2 = true then some (0, q_8, q_9, q_7.2.2, q_6.2.2.2) else none))))))))))) else some (q_3.1, 0, T, F, U)))) else some (q_1.1, 0, T, F, U))))
set_option maxHeartbeats 2000000 in
set_option maxRecDepth 100000 in
theorem k_X11_isOf (l : Launch) (hfl : l.stackTraces = false) (G : GC) (a : AS) (T : TS) (F : FS) (U : US) (S : SS) (D : DS) (R : RS) (M : MS) (N : NS) (P : PS) (hlk : lkA a D.1.toNatClampNeg D.2.1.toNatClampNeg) (p1 : Int32) (p2 : Int32) (k9 : Int32) (r9 : Int32) (T9 : TS) (F9 : FS) (U9 : US) (hm : f_X11_isOf T F U S D N P p1 p2 = some (k9, r9, T9, F9, U9)) (sz : Nat) : vx_Met l yX11_isOf (Cond.code yX11_isOf cX11_isOf 9 (some .boolean) :: W0) ({ frames := 582, cells := 2, slots := 12, locals := 15245 }) (va_Pc [.ref (a.1 0), .int p1, .int p2] (WD G (wC G a T F U S D R M N P) sz)) (va_Qi (S := Unit) (fun r _ => k9 = 0 ∧ r = r9) (fun _ t => PW G (va_A (wC G a T F U S D R M N P) sz) (wC G a T9 F9 U9 S D R M N P) t) (va_A (wC G a T F U S D R M N P) sz)) (vx_X (fun _ : Unit => True) (fun (E : String) (_ : Unit) (t : State) => xnm k9 = some E ∧ PW G (va_A (wC G a T F U S D R M N P) sz) (wC G a T9 F9 U9 S D R M N P) t) (va_A (wC G a T F U S D R M N P) sz)) 2 12 (va_A (wC G a T F U S D R M N P) sz) := by
  rw [f_X11_isOf] at hm
  refine vx_ofW (cc := cX11_isOf) (maxL := 9) (ret := (some .boolean)) (by decide) rfl ?_
  intro p e s m args below meth c s₁ B hml hout0 hv
  obtain ⟨rfl, hsz, hP, hK, hD0, hE⟩ := hv
  have hx := B.exec
  have hb := B.bytes
  have hr := B.returns
  have hts := w0_tail B.pre
  have hown : s.vm.findClass RX11 = some m.cls := findClass_of_methodNamed B.named
  have hlocks := B.notSynchronized
  have hD := hD0.self (sz := sz)
  obtain ⟨A, hAe⟩ : ∃ A, (va_A (wC G a T F U S D R M N P) sz) = A := ⟨_, rfl⟩
  rw [hAe] at hD hE
  have hA : ∀ q : Nat, s.heap.size ≤ q → A q := fun q h => by rw [← hAe]; exact Or.inr (by rw [← hsz]; exact h)
  have hS : va_S A s.heap s.heap [] := va_S.rf
  obtain ⟨H, hHe⟩ : ∃ H : Heap, H = s.heap := ⟨_, rfl⟩
  have hP : va_P (DG G) clP3 (wC G a T F U S D R M N P) H := by rw [hHe]; exact hP
  have hS : va_S A s.heap H [] := by rw [hHe]; exact hS
  have hl := lv_entry ([.ref (a.1 0), .int p1, .int p2]) (n := 9) (Nat.le_of_ble_eq_true rfl)
  rw [lg_entry_eq, ← hHe]
  generalize (lg_sl ([.ref (a.1 0), .int p1, .int p2]) ++ List.replicate (9 - (lg_sl ([.ref (a.1 0), .int p1, .int p2])).length) Slot.unset).toArray = ls at hl ⊢
  have hl : lv_has ls 9 [(0, .ref (a.1 0)), (1, .int p1), (2, .int p2)] := hl
  refine lv_aload_n hx hb dX11_isOf_0 rfl (lv_at hl 0 rfl) ?_
  refine lv_iload_n hx hb dX11_isOf_1 rfl (lv_at hl 1 rfl) ?_
  obtain ⟨q_1, hq_1, hm⟩ := bind_some hm
  have hFc := free_all hD hS hA
  refine vx_calli (vx_runV (As := [.int p1]) (rest := []) ⟨hx, hb, hml, hown, hts⟩ (k_X11_termAt l hfl G a T F U S D R M N P hlk p1  q_1.1 q_1.2 hq_1 H.size) (cwV 1 hts (gV wm319 wm321 ws_p0 wm1 wm322) rfl rfl rfl (by decide +kernel) ⟨Nat.le_of_ble_eq_true rfl, Nat.le_of_ble_eq_true rfl⟩) (pre_v (pre_w hK hP hD hS hE hFc) (va_recv hK hP (ci := 10) (q0 := 0) rfl rfl)) rfl rfl hl.1 rfl (lv_room (Nat.le_of_ble_eq_true rfl)) dX11_isOf_2 ⟨Nat.le_of_ble_eq_true rfl, Nat.le_of_ble_eq_true rfl⟩) hS (fun q _ h => hFc q h) hFc (fun q _ h => hFc q h) (fun E ce q9 u_2 t H locs ht hvm hpx hBX hz1 hk1 hS hce hv9 hcl => ?_) (fun r u_2 t H locs ht hvm hw hB hz1 hk1 hS => ?_)
  · have hne : ¬ q_1.1 = 0 := xnm_ne hBX.1
    rw [if_neg hne] at hm
    have hX9 := hBX.1
    have hB := hBX.2
    have hP : va_P (DG G) clP3 (wC G a T F U S D R M N P) H := by rw [← ht]; exact hB.1
    have hD : va_D A (wC G a T F U S D R M N P) := hB.2.weaken (fun _ p _ h => hFc p.1 h)
    simp only [Option.some.injEq, Prod.mk.injEq] at hm
    obtain ⟨rfl, rfl, rfl, rfl, rfl⟩ := hm
    subst hAe
    exact vx_out (fun x hx => (hout0 x hx).elim) hlocks hce hv9 hcl (fun t2 ht2 _ => ⟨(), trivial, ⟨hX9, by rw [ht2]; exact hP, hD⟩, hS.F ht2⟩) hS.2.2 (Nat.le_of_ble_eq_true rfl) (Nat.le_of_ble_eq_true rfl)
  · rw [if_pos hw.1] at hm
    rw [show r = q_1.2 from hw.2]
    have hP : va_P (DG G) clP3 (wC G a T F U S D R M N P) H := by rw [← ht]; exact hB.1
    have hD : va_D A (wC G a T F U S D R M N P) := hB.2.weaken (fun _ p _ h => hFc p.1 h)
    refine W.widen (k := 1) (n := 6) (Nat.le_of_ble_eq_true rfl) (Nat.le_of_ble_eq_true rfl) ?_
    refine lv_istore_n (lv' := [(3, .int q_1.2), (0, .ref (a.1 0)), (1, .int p1), (2, .int p2)]) hx hb dX11_isOf_5 rfl hl (by decide) rfl (fun ls hl => ?_)
    refine lv_aload_n hx hb dX11_isOf_6 rfl (lv_at hl 1 rfl) ?_
    refine lv_iload_n hx hb dX11_isOf_7 rfl (lv_at hl 3 rfl) ?_
    obtain ⟨q_3, hq_3, hm⟩ := bind_some hm
    have hFc := free_all hD hS hA
    refine vx_calli (vx_runV (As := [.int p2]) (rest := []) ⟨hx, hb, hml, hown, hts⟩ (k_X11_termAt l hfl G a T F U S D R M N P hlk p2  q_3.1 q_3.2 hq_3 H.size) (cwV 1 hts (gV wm319 wm321 ws_p0 wm1 wm322) rfl rfl rfl (by decide +kernel) ⟨Nat.le_of_ble_eq_true rfl, Nat.le_of_ble_eq_true rfl⟩) (pre_v (pre_w hK hP hD hS hE hFc) (va_recv hK hP (ci := 10) (q0 := 0) rfl rfl)) rfl rfl hl.1 rfl (lv_room (Nat.le_of_ble_eq_true rfl)) dX11_isOf_8 ⟨Nat.le_of_ble_eq_true rfl, Nat.le_of_ble_eq_true rfl⟩) hS (fun q _ h => hFc q h) hFc (fun q _ h => hFc q h) (fun E ce q9 u_4 t H locs ht hvm hpx hBX hz1 hk1 hS hce hv9 hcl => ?_) (fun r u_4 t H locs ht hvm hw hB hz1 hk1 hS => ?_)
    · have hne : ¬ q_3.1 = 0 := xnm_ne hBX.1
      rw [if_neg hne] at hm
      have hX9 := hBX.1
      have hB := hBX.2
      have hP : va_P (DG G) clP3 (wC G a T F U S D R M N P) H := by rw [← ht]; exact hB.1
      have hD : va_D A (wC G a T F U S D R M N P) := hB.2.weaken (fun _ p _ h => hFc p.1 h)
      simp only [Option.some.injEq, Prod.mk.injEq] at hm
      obtain ⟨rfl, rfl, rfl, rfl, rfl⟩ := hm
      subst hAe
      exact vx_out (fun x hx => (hout0 x hx).elim) hlocks hce hv9 hcl (fun t2 ht2 _ => ⟨(), trivial, ⟨hX9, by rw [ht2]; exact hP, hD⟩, hS.F ht2⟩) hS.2.2 (Nat.le_of_ble_eq_true rfl) (Nat.le_of_ble_eq_true rfl)
    · rw [if_pos hw.1] at hm
      rw [show r = q_3.2 from hw.2]
      have hP : va_P (DG G) clP3 (wC G a T F U S D R M N P) H := by rw [← ht]; exact hB.1
      have hD : va_D A (wC G a T F U S D R M N P) := hB.2.weaken (fun _ p _ h => hFc p.1 h)
      refine W.widen (k := 2) (n := 12) (Nat.le_of_ble_eq_true rfl) (Nat.le_of_ble_eq_true rfl) ?_
      refine lv_istore (lv' := [(4, .int q_3.2), (3, .int q_1.2), (0, .ref (a.1 0)), (1, .int p1), (2, .int p2)]) hx hb dX11_isOf_11 hl (by decide) rfl (fun ls hl => ?_)
      refine lv_aload_n hx hb dX11_isOf_13 rfl (lv_at hl 2 rfl) ?_
      refine va_get (D := DG G) (ci := 10) (v := .ref (a.1 1)) (C := RX11) (T := TX11) (N := 10) hx hb hts inW_X11 hown hK hP 0 rfl rfl 0 (by decide) (hts _ wm284) (fun _ h9 => h9) rfl dX11_isOf_14 ?_
      obtain ⟨q_5, hq_5, hm⟩ := bind_some hm
      have hFc := free_all hD hS hA
      refine va_calli (va_runV (As := []) (rest := []) ⟨hx, hb, hml, hown, hts⟩ (K_X9_mark l hfl G a T F U S D R M N P   q_5 hq_5 H.size) (cwV 0 hts (gV wm410 wm411 wm412 wm2 wm413) rfl rfl rfl (by decide +kernel) ⟨Nat.le_of_ble_eq_true rfl, Nat.le_of_ble_eq_true rfl⟩) (pre_v (pre_w hK hP hD hS hE hFc) (va_recv hK hP (ci := 8) (q0 := 1) rfl rfl)) rfl rfl hl.1 rfl (lv_room (Nat.le_of_ble_eq_true rfl)) dX11_isOf_17 ⟨Nat.le_of_ble_eq_true rfl, Nat.le_of_ble_eq_true rfl⟩) hS (fun q _ h => hFc q h) hFc (fun r u t H locs ht hvm hw hB hz1 hk1 hS => ?_)
      rw [show r = q_5 from hw]
      have hP : va_P (DG G) clP3 (wC G a T F U S D R M N P) H := by rw [← ht]; exact hB.1
      have hD : va_D A (wC G a T F U S D R M N P) := hB.2.weaken (fun _ p _ h => hFc p.1 h)
      clear hB hFc hw hk1
      refine W.widen (k := 2) (n := 12) (Nat.le_of_ble_eq_true rfl) (Nat.le_of_ble_eq_true rfl) ?_
      refine lv_istore (lv' := [(5, .int q_5), (4, .int q_3.2), (3, .int q_1.2), (0, .ref (a.1 0)), (1, .int p1), (2, .int p2)]) hx hb dX11_isOf_20 hl (by decide) rfl (fun ls hl => ?_)
      refine lv_aload_n hx hb dX11_isOf_22 rfl (lv_at hl 3 rfl) ?_
      refine va_get (D := DG G) (ci := 10) (v := .ref (a.1 24)) (C := RX11) (T := TX11) (N := 10) hx hb hts inW_X11 hown hK hP 0 rfl rfl 4 (by decide) (hts _ wm288) (fun _ h9 => h9) rfl dX11_isOf_23 ?_
      refine lv_iload_n hx hb dX11_isOf_26 rfl (lv_at hl 2 rfl) ?_
      obtain ⟨q_6, hq_6, hm⟩ := bind_some hm
      have hFc := free_all hD hS hA
      refine va_calli (va_runV (As := [.int q_1.2]) (rest := []) ⟨hx, hb, hml, hown, hts⟩ (k_X10_formOf l hfl G a T F U S D R M N P hlk q_1.2  q_6.1 q_6.2.1 q_6.2.2.1 q_6.2.2.2 hq_6 H.size) (cwV 1 hts (gV wm414 wm415 wm416 wm6 wm417) rfl rfl rfl (by decide +kernel) ⟨Nat.le_of_ble_eq_true rfl, Nat.le_of_ble_eq_true rfl⟩) (pre_v (pre_w hK hP hD hS hE hFc) (va_recv hK hP (ci := 9) (q0 := 24) rfl rfl)) rfl rfl hl.1 rfl (lv_room (Nat.le_of_ble_eq_true rfl)) dX11_isOf_27 ⟨Nat.le_of_ble_eq_true rfl, Nat.le_of_ble_eq_true rfl⟩) hS (fun q _ h => hFc q h) hFc (fun r u t H locs ht hvm hw hB hz1 hk1 hS => ?_)
      rw [show r = q_6.1 from hw]
      have hP : va_P (DG G) clP3 (wC G a q_6.2.1 q_6.2.2.1 q_6.2.2.2 S D R M N P) H := by rw [← ht]; exact hB.1
      have hD : va_D A (wC G a q_6.2.1 q_6.2.2.1 q_6.2.2.2 S D R M N P) := hB.2.weaken (fun _ p _ h => hFc p.1 h)
      clear hB hFc hw hk1
      refine W.widen (k := 2) (n := 12) (Nat.le_of_ble_eq_true rfl) (Nat.le_of_ble_eq_true rfl) ?_
      refine lv_istore (lv' := [(6, .int q_6.1), (5, .int q_5), (4, .int q_3.2), (3, .int q_1.2), (0, .ref (a.1 0)), (1, .int p1), (2, .int p2)]) hx hb dX11_isOf_30 hl (by decide) rfl (fun ls hl => ?_)
      refine lv_aload_n hx hb dX11_isOf_32 rfl (lv_at hl 4 rfl) ?_
      refine va_get (D := DG G) (ci := 10) (v := .ref (a.1 11)) (C := RX11) (T := TX11) (N := 10) hx hb hts inW_X11 hown hK hP 0 rfl rfl 1 (by decide) (hts _ wm285) (fun _ h9 => h9) rfl dX11_isOf_33 ?_
      refine lv_iload hx hb dX11_isOf_36 (lv_at hl 2 rfl) ?_
      obtain ⟨q_7, hq_7, hm⟩ := bind_some hm
      have hFc := free_all hD hS hA
      refine va_calli (va_runV (As := [.int q_3.2]) (rest := []) ⟨hx, hb, hml, hown, hts⟩ (K_X1_formOf l hfl G a q_6.2.1 q_6.2.2.1 q_6.2.2.2 S D R M N P q_3.2  q_7.1 q_7.2.1 q_7.2.2 hq_7 H.size) (cwV 1 hts (gV wm564 wm495 wm496 wm3 wm497) rfl rfl rfl (by decide +kernel) ⟨Nat.le_of_ble_eq_true rfl, Nat.le_of_ble_eq_true rfl⟩) (pre_v (pre_w hK hP hD hS hE hFc) (va_recv hK hP (ci := 1) (q0 := 11) rfl rfl)) rfl rfl hl.1 rfl (lv_room (Nat.le_of_ble_eq_true rfl)) dX11_isOf_38 ⟨Nat.le_of_ble_eq_true rfl, Nat.le_of_ble_eq_true rfl⟩) hS (fun q _ h => hFc q h) hFc (fun r u t H locs ht hvm hw hB hz1 hk1 hS => ?_)
      rw [show r = q_7.1 from hw]
      have hP : va_P (DG G) clP3 (wC G a q_7.2.1 q_7.2.2 q_6.2.2.2 S D R M N P) H := by rw [← ht]; exact hB.1
      have hD : va_D A (wC G a q_7.2.1 q_7.2.2 q_6.2.2.2 S D R M N P) := hB.2.weaken (fun _ p _ h => hFc p.1 h)
      clear hB hFc hw hk1
      refine W.widen (k := 2) (n := 12) (Nat.le_of_ble_eq_true rfl) (Nat.le_of_ble_eq_true rfl) ?_
      refine lv_istore (lv' := [(7, .int q_7.1), (6, .int q_6.1), (5, .int q_5), (4, .int q_3.2), (3, .int q_1.2), (0, .ref (a.1 0)), (1, .int p1), (2, .int p2)]) hx hb dX11_isOf_41 hl (by decide) rfl (fun ls hl => ?_)
      refine lv_aload_n hx hb dX11_isOf_43 rfl (lv_at hl 5 rfl) ?_
      refine va_get (D := DG G) (ci := 10) (v := .ref (a.1 1)) (C := RX11) (T := TX11) (N := 10) hx hb hts inW_X11 hown hK hP 0 rfl rfl 0 (by decide) (hts _ wm284) (fun _ h9 => h9) rfl dX11_isOf_44 ?_
      refine lv_iload hx hb dX11_isOf_47 (lv_at hl 1 rfl) ?_
      refine lv_iload hx hb dX11_isOf_49 (lv_at hl 0 rfl) ?_
      obtain ⟨q_8, hq_8, hm⟩ := bind_some hm
      have hFc := free_all hD hS hA
      refine va_calli (va_runSN (As := [.ref (a.1 1), .int q_6.1, .int q_7.1]) (rest := []) ⟨hx, hb, hml, hown, hts⟩ (K_X6_same l hfl G a q_7.2.1 q_7.2.2 q_6.2.2.2 S D R M N P q_6.1 q_7.1  q_8 hq_8 H.size) ⟨va_cnB 3 hts (gC wm557) rfl rfl rfl (hE.1 _ nw565) (hts _ wm20) (by decide +kernel) ⟨Nat.le_of_ble_eq_true rfl, Nat.le_of_ble_eq_true rfl⟩, hts _ wm556, trivial⟩ (pre_w hK hP hD hS hE hFc) rfl rfl hl.1 rfl (lv_room (Nat.le_of_ble_eq_true rfl)) dX11_isOf_51 ⟨Nat.le_of_ble_eq_true rfl, Nat.le_of_ble_eq_true rfl⟩) hS (fun q _ h => hFc q h) hFc (fun r u t H locs ht hvm hw hB hz1 hk1 hS => ?_)
      rw [show r = q_8 from hw]
      have hP : va_P (DG G) clP3 (wC G a q_7.2.1 q_7.2.2 q_6.2.2.2 S D R M N P) H := by rw [← ht]; exact hB.1
      have hD : va_D A (wC G a q_7.2.1 q_7.2.2 q_6.2.2.2 S D R M N P) := hB.2.weaken (fun _ p _ h => hFc p.1 h)
      clear hB hFc hw hk1
      refine W.widen (k := 2) (n := 12) (Nat.le_of_ble_eq_true rfl) (Nat.le_of_ble_eq_true rfl) ?_
      refine lv_istore (lv' := [(8, .int q_8), (7, .int q_7.1), (6, .int q_6.1), (5, .int q_5), (4, .int q_3.2), (3, .int q_1.2), (0, .ref (a.1 0)), (1, .int p1), (2, .int p2)]) hx hb dX11_isOf_54 hl (by decide) rfl (fun ls hl => ?_)
      refine lv_aload_n hx hb dX11_isOf_56 rfl (lv_at hl 6 rfl) ?_
      refine va_get (D := DG G) (ci := 10) (v := .ref (a.1 1)) (C := RX11) (T := TX11) (N := 10) hx hb hts inW_X11 hown hK hP 0 rfl rfl 0 (by decide) (hts _ wm284) (fun _ h9 => h9) rfl dX11_isOf_57 ?_
      refine lv_iload hx hb dX11_isOf_60 (lv_at hl 3 rfl) ?_
      obtain ⟨q_9, hq_9, hm⟩ := bind_some hm
      have hFc := free_all hD hS hA
      refine va_callv (va_runV (As := [.int q_5]) (rest := []) ⟨hx, hb, hml, hown, hts⟩ (K_X9_release l hfl G a q_7.2.1 q_7.2.2 q_6.2.2.2 S D R M N P q_5  q_9 hq_9 H.size) (cwV 1 hts (gV wm566 wm509 wm510 wm2 wm511) rfl rfl rfl (by decide +kernel) ⟨Nat.le_of_ble_eq_true rfl, Nat.le_of_ble_eq_true rfl⟩) (pre_v (pre_w hK hP hD hS hE hFc) (va_recv hK hP (ci := 8) (q0 := 1) rfl rfl)) rfl rfl hl.1 rfl (lv_room (Nat.le_of_ble_eq_true rfl)) dX11_isOf_62 ⟨Nat.le_of_ble_eq_true rfl, Nat.le_of_ble_eq_true rfl⟩) hS (fun q _ h => hFc q h) hFc (fun u t H locs ht hvm hw hB hz1 hk1 hS => ?_)
      have hP : va_P (DG G) clP3 (wC G a q_9 q_7.2.2 q_6.2.2.2 S D R M N P) H := by rw [← ht]; exact hB.1
      have hD : va_D A (wC G a q_9 q_7.2.2 q_6.2.2.2 S D R M N P) := hB.2.weaken (fun _ p _ h => hFc p.1 h)
      clear hB hFc hk1
      refine W.widen (k := 2) (n := 12) (Nat.le_of_ble_eq_true rfl) (Nat.le_of_ble_eq_true rfl) ?_
      refine lv_iload hx hb dX11_isOf_65 (lv_at hl 0 rfl) ?_
      obtain ⟨n_10, hm⟩ := ite_some hm
      simp only [Option.some.injEq, Prod.mk.injEq] at hm
      obtain ⟨rfl, rfl, rfl, rfl, rfl⟩ := hm
      subst hAe
      refine W.widen (k := 2) (n := 12) (Nat.le_of_ble_eq_true rfl) (Nat.le_of_ble_eq_true rfl) ?_
      exact vx_ret (W.zret (v := q_8) (ty := .boolean) hx hb hr (nar_bool n_10) (fun t ht hW => ⟨⟨q_8, (), rfl, ⟨rfl, rfl⟩, ⟨by rw [ht]; exact hP, hD⟩⟩, hS.F ht⟩) hS.2.2 dX11_isOf_67 hlocks)
def f_X11_declare (T : TS) (F : FS) (U : US) (S : SS) (D : DS) (N : NS) (P : PS) (p1 : Int32) : Option (Int32 × Int32 × TS × FS × US × DS × PS) := (Option.bind (f_X11_termAt N p1) (fun q_1 => (if q_1.1 = 0 then (Option.bind (g_X9_mark T) (fun q_3 => (Option.bind (f_X10_levelOf T F U S D P q_1.2) (fun q_4 => (if q_4.1 = (-1) then (Option.bind (f_X0_domainsOf q_4.2.1 (-1)) (fun q_18 => (if q_18 < 1 then (Option.bind (g_X9_release q_4.2.1 q_3) (fun q_20 => some (5, 0, q_20, q_4.2.2.1, q_4.2.2.2, D, P))) else (if q_18 ≤ 4 then (if 8 ≤ D.1 then (Option.bind (g_X9_release q_4.2.1 q_3) (fun q_23 => some (2, 0, q_23, q_4.2.2.1, q_4.2.2.2, D, P))) else (if D.2.1 < 40 then (Option.bind (f_X0_enterFunction q_4.2.1 D P (-1) q_18) (fun q_25 => some (0, q_25.1, q_25.2.1, q_4.2.2.1, q_4.2.2.2, q_25.2.2.1, q_25.2.2.2))) else (Option.bind (g_X9_release q_4.2.1 q_3) (fun q_27 => some (2, 0, q_27, q_4.2.2.1, q_4.2.2.2, D, P))))) else (Option.bind (g_X9_release q_4.2.1 q_3) (fun q_28 => some (5, 0, q_28, q_4.2.2.1, q_4.2.2.2, D, P))))))) else (Option.bind (g_X1_formOf q_4.2.1 q_4.2.2.1 q_1.2) (fun q_6 => (Option.bind (f_X0_domainsOf q_6.2.1 q_6.1) (fun q_7 => (if q_7 < 1 then (Option.bind (g_X9_release q_6.2.1 q_3) (fun q_9 => some (5, 0, q_9, q_6.2.2, q_4.2.2.2, D, P))) else (if q_7 ≤ 4 then (if 8 ≤ D.1 then (Option.bind (g_X9_release q_6.2.1 q_3) (fun q_12 => some (2, 0, q_12, q_6.2.2, q_4.2.2.2, D, P))) else (if D.2.1 < 40 then (Option.bind (f_X0_enterFunction q_6.2.1 D P q_6.1 q_7) (fun q_14 => some (0, q_14.1, q_14.2.1, q_6.2.2, q_4.2.2.2, q_14.2.2.1, q_14.2.2.2))) else (Option.bind (g_X9_release q_6.2.1 q_3) (fun q_16 => some (2, 0, q_16, q_6.2.2, q_4.2.2.2, D, P))))) else (Option.bind (g_X9_release q_6.2.1 q_3) (fun q_17 => some (5, 0, q_17, q_6.2.2, q_4.2.2.2, D, P)))))))))))))) else some (q_1.1, 0, T, F, U, D, P))))
set_option maxHeartbeats 2000000 in
set_option maxRecDepth 100000 in
theorem k_X11_declare (l : Launch) (hfl : l.stackTraces = false) (G : GC) (a : AS) (T : TS) (F : FS) (U : US) (S : SS) (D : DS) (R : RS) (M : MS) (N : NS) (P : PS) (hlk : lkA a D.1.toNatClampNeg D.2.1.toNatClampNeg) (p1 : Int32) (k9 : Int32) (r9 : Int32) (T9 : TS) (F9 : FS) (U9 : US) (D9 : DS) (P9 : PS) (hm : f_X11_declare T F U S D N P p1 = some (k9, r9, T9, F9, U9, D9, P9)) (sz : Nat) : vx_Met l yX11_declare (Cond.code yX11_declare cX11_declare 6 (some .int) :: W0) ({ frames := 582, cells := 6, slots := 147, locals := 15247 }) (va_Pc [.ref (a.1 0), .int p1] (WD G (wC G a T F U S D R M N P) sz)) (va_Qi (S := BS) (fun r _ => k9 = 0 ∧ r = r9) (fun b2 t => lkA (a.1, b2) D9.1.toNatClampNeg D9.2.1.toNatClampNeg ∧ PW G (va_A (wC G a T F U S D R M N P) sz) (wC G (a.1, b2) T9 F9 U9 S D9 R M N P9) t) (va_A (wC G a T F U S D R M N P) sz)) (vx_X (fun _ : BS => True) (fun (E : String) (b2 : BS) (t : State) => xnm k9 = some E ∧ lkA (a.1, b2) D9.1.toNatClampNeg D9.2.1.toNatClampNeg ∧ PW G (va_A (wC G a T F U S D R M N P) sz) (wC G (a.1, b2) T9 F9 U9 S D9 R M N P9) t) (va_A (wC G a T F U S D R M N P) sz)) 6 147 (va_A (wC G a T F U S D R M N P) sz) := by
  rw [f_X11_declare] at hm
  refine vx_ofW (cc := cX11_declare) (maxL := 6) (ret := (some .int)) (by decide) rfl ?_
  intro p e s m args below meth c s₁ B hml hout0 hv
  obtain ⟨rfl, hsz, hP, hK, hD0, hE⟩ := hv
  have hx := B.exec
  have hb := B.bytes
  have hr := B.returns
  have hts := w0_tail B.pre
  have hown : s.vm.findClass RX11 = some m.cls := findClass_of_methodNamed B.named
  have hlocks := B.notSynchronized
  have hD := hD0.self (sz := sz)
  obtain ⟨A, hAe⟩ : ∃ A, (va_A (wC G a T F U S D R M N P) sz) = A := ⟨_, rfl⟩
  rw [hAe] at hD hE
  have hA : ∀ q : Nat, s.heap.size ≤ q → A q := fun q h => by rw [← hAe]; exact Or.inr (by rw [← hsz]; exact h)
  have hS : va_S A s.heap s.heap [] := va_S.rf
  obtain ⟨H, hHe⟩ : ∃ H : Heap, H = s.heap := ⟨_, rfl⟩
  have hP : va_P (DG G) clP3 (wC G a T F U S D R M N P) H := by rw [hHe]; exact hP
  have hS : va_S A s.heap H [] := by rw [hHe]; exact hS
  have hl := lv_entry ([.ref (a.1 0), .int p1]) (n := 6) (Nat.le_of_ble_eq_true rfl)
  rw [lg_entry_eq, ← hHe]
  generalize (lg_sl ([.ref (a.1 0), .int p1]) ++ List.replicate (6 - (lg_sl ([.ref (a.1 0), .int p1])).length) Slot.unset).toArray = ls at hl ⊢
  have hl : lv_has ls 6 [(0, .ref (a.1 0)), (1, .int p1)] := hl
  refine lv_aload_n hx hb dX11_declare_0 rfl (lv_at hl 0 rfl) ?_
  refine lv_iload_n hx hb dX11_declare_1 rfl (lv_at hl 1 rfl) ?_
  obtain ⟨q_1, hq_1, hm⟩ := bind_some hm
  have hFc := free_all hD hS hA
  refine vx_calli (vx_runV (As := [.int p1]) (rest := []) ⟨hx, hb, hml, hown, hts⟩ (k_X11_termAt l hfl G a T F U S D R M N P hlk p1  q_1.1 q_1.2 hq_1 H.size) (cwV 1 hts (gV wm319 wm321 ws_p0 wm1 wm322) rfl rfl rfl (by decide +kernel) ⟨Nat.le_of_ble_eq_true rfl, Nat.le_of_ble_eq_true rfl⟩) (pre_v (pre_w hK hP hD hS hE hFc) (va_recv hK hP (ci := 10) (q0 := 0) rfl rfl)) rfl rfl hl.1 rfl (lv_room (Nat.le_of_ble_eq_true rfl)) dX11_declare_2 ⟨Nat.le_of_ble_eq_true rfl, Nat.le_of_ble_eq_true rfl⟩) hS (fun q _ h => hFc q h) hFc (fun q _ h => hFc q h) (fun E ce q9 u_2 t H locs ht hvm hpx hBX hz1 hk1 hS hce hv9 hcl => ?_) (fun r u_2 t H locs ht hvm hw hB hz1 hk1 hS => ?_)
  · have hne : ¬ q_1.1 = 0 := xnm_ne hBX.1
    rw [if_neg hne] at hm
    have hX9 := hBX.1
    have hB := hBX.2
    have hP : va_P (DG G) clP3 (wC G a T F U S D R M N P) H := by rw [← ht]; exact hB.1
    have hD : va_D A (wC G a T F U S D R M N P) := hB.2.weaken (fun _ p _ h => hFc p.1 h)
    simp only [Option.some.injEq, Prod.mk.injEq] at hm
    obtain ⟨rfl, rfl, rfl, rfl, rfl, rfl, rfl⟩ := hm
    subst hAe
    exact vx_out (fun x hx => (hout0 x hx).elim) hlocks hce hv9 hcl (fun t2 ht2 _ => ⟨a.2, trivial, ⟨hX9, hlk, by rw [ht2]; exact hP, hD⟩, hS.F ht2⟩) hS.2.2 (Nat.le_of_ble_eq_true rfl) (Nat.le_of_ble_eq_true rfl)
  · rw [if_pos hw.1] at hm
    rw [show r = q_1.2 from hw.2]
    have hP : va_P (DG G) clP3 (wC G a T F U S D R M N P) H := by rw [← ht]; exact hB.1
    have hD : va_D A (wC G a T F U S D R M N P) := hB.2.weaken (fun _ p _ h => hFc p.1 h)
    refine W.widen (k := 1) (n := 6) (Nat.le_of_ble_eq_true rfl) (Nat.le_of_ble_eq_true rfl) ?_
    refine lv_istore_n (lv' := [(2, .int q_1.2), (0, .ref (a.1 0)), (1, .int p1)]) hx hb dX11_declare_5 rfl hl (by decide) rfl (fun ls hl => ?_)
    refine lv_aload_n hx hb dX11_declare_6 rfl (lv_at hl 1 rfl) ?_
    refine va_get (D := DG G) (ci := 10) (v := .ref (a.1 1)) (C := RX11) (T := TX11) (N := 10) hx hb hts inW_X11 hown hK hP 0 rfl rfl 0 (by decide) (hts _ wm284) (fun _ h9 => h9) rfl dX11_declare_7 ?_
    obtain ⟨q_3, hq_3, hm⟩ := bind_some hm
    have hFc := free_all hD hS hA
    refine va_calli (va_runV (As := []) (rest := []) ⟨hx, hb, hml, hown, hts⟩ (K_X9_mark l hfl G a T F U S D R M N P   q_3 hq_3 H.size) (cwV 0 hts (gV wm410 wm411 wm412 wm2 wm413) rfl rfl rfl (by decide +kernel) ⟨Nat.le_of_ble_eq_true rfl, Nat.le_of_ble_eq_true rfl⟩) (pre_v (pre_w hK hP hD hS hE hFc) (va_recv hK hP (ci := 8) (q0 := 1) rfl rfl)) rfl rfl hl.1 rfl (lv_room (Nat.le_of_ble_eq_true rfl)) dX11_declare_10 ⟨Nat.le_of_ble_eq_true rfl, Nat.le_of_ble_eq_true rfl⟩) hS (fun q _ h => hFc q h) hFc (fun r u t H locs ht hvm hw hB hz1 hk1 hS => ?_)
    rw [show r = q_3 from hw]
    have hP : va_P (DG G) clP3 (wC G a T F U S D R M N P) H := by rw [← ht]; exact hB.1
    have hD : va_D A (wC G a T F U S D R M N P) := hB.2.weaken (fun _ p _ h => hFc p.1 h)
    clear hB hFc hw hk1
    refine W.widen (k := 1) (n := 6) (Nat.le_of_ble_eq_true rfl) (Nat.le_of_ble_eq_true rfl) ?_
    refine lv_istore_n (lv' := [(3, .int q_3), (2, .int q_1.2), (0, .ref (a.1 0)), (1, .int p1)]) hx hb dX11_declare_13 rfl hl (by decide) rfl (fun ls hl => ?_)
    refine lv_aload_n hx hb dX11_declare_14 rfl (lv_at hl 2 rfl) ?_
    refine va_get (D := DG G) (ci := 10) (v := .ref (a.1 24)) (C := RX11) (T := TX11) (N := 10) hx hb hts inW_X11 hown hK hP 0 rfl rfl 4 (by decide) (hts _ wm288) (fun _ h9 => h9) rfl dX11_declare_15 ?_
    refine lv_iload_n hx hb dX11_declare_18 rfl (lv_at hl 1 rfl) ?_
    obtain ⟨q_4, hq_4, hm⟩ := bind_some hm
    have hFc := free_all hD hS hA
    refine va_calli (va_runV (As := [.int q_1.2]) (rest := []) ⟨hx, hb, hml, hown, hts⟩ (k_X10_levelOf l hfl G a T F U S D R M N P hlk q_1.2  q_4.1 q_4.2.1 q_4.2.2.1 q_4.2.2.2 hq_4 H.size) (cwV 1 hts (gV wm850 wm851 wm852 wm6 wm853) rfl rfl rfl (by decide +kernel) ⟨Nat.le_of_ble_eq_true rfl, Nat.le_of_ble_eq_true rfl⟩) (pre_v (pre_w hK hP hD hS hE hFc) (va_recv hK hP (ci := 9) (q0 := 24) rfl rfl)) rfl rfl hl.1 rfl (lv_room (Nat.le_of_ble_eq_true rfl)) dX11_declare_19 ⟨Nat.le_of_ble_eq_true rfl, Nat.le_of_ble_eq_true rfl⟩) hS (fun q _ h => hFc q h) hFc (fun r u t H locs ht hvm hw hB hz1 hk1 hS => ?_)
    rw [show r = q_4.1 from hw]
    have hP : va_P (DG G) clP3 (wC G a q_4.2.1 q_4.2.2.1 q_4.2.2.2 S D R M N P) H := by rw [← ht]; exact hB.1
    have hD : va_D A (wC G a q_4.2.1 q_4.2.2.1 q_4.2.2.2 S D R M N P) := hB.2.weaken (fun _ p _ h => hFc p.1 h)
    clear hB hFc hw hk1
    refine W.widen (k := 1) (n := 6) (Nat.le_of_ble_eq_true rfl) (Nat.le_of_ble_eq_true rfl) ?_
    refine lv_iconst (v := (-1)) hx hb dX11_declare_22 (by decide) ?_
    refine lv_icmp_ne (tgt := 30) hx hb dX11_declare_23 (by decide) (fun c_5 => ?_) (fun c_5 => ?_)
    · rw [if_neg c_5] at hm
      refine lv_aload_n hx hb dX11_declare_30 rfl (lv_at hl 2 rfl) ?_
      refine va_get (D := DG G) (ci := 10) (v := .ref (a.1 11)) (C := RX11) (T := TX11) (N := 10) hx hb hts inW_X11 hown hK hP 0 rfl rfl 1 (by decide) (hts _ wm285) (fun _ h9 => h9) rfl dX11_declare_31 ?_
      refine lv_iload_n hx hb dX11_declare_34 rfl (lv_at hl 1 rfl) ?_
      obtain ⟨q_6, hq_6, hm⟩ := bind_some hm
      have hFc := free_all hD hS hA
      refine va_calli (va_runV (As := [.int q_1.2]) (rest := []) ⟨hx, hb, hml, hown, hts⟩ (K_X1_formOf l hfl G a q_4.2.1 q_4.2.2.1 q_4.2.2.2 S D R M N P q_1.2  q_6.1 q_6.2.1 q_6.2.2 hq_6 H.size) (cwV 1 hts (gV wm564 wm495 wm496 wm3 wm497) rfl rfl rfl (by decide +kernel) ⟨Nat.le_of_ble_eq_true rfl, Nat.le_of_ble_eq_true rfl⟩) (pre_v (pre_w hK hP hD hS hE hFc) (va_recv hK hP (ci := 1) (q0 := 11) rfl rfl)) rfl rfl hl.1 rfl (lv_room (Nat.le_of_ble_eq_true rfl)) dX11_declare_35 ⟨Nat.le_of_ble_eq_true rfl, Nat.le_of_ble_eq_true rfl⟩) hS (fun q _ h => hFc q h) hFc (fun r u t H locs ht hvm hw hB hz1 hk1 hS => ?_)
      rw [show r = q_6.1 from hw]
      have hP : va_P (DG G) clP3 (wC G a q_6.2.1 q_6.2.2 q_4.2.2.2 S D R M N P) H := by rw [← ht]; exact hB.1
      have hD : va_D A (wC G a q_6.2.1 q_6.2.2 q_4.2.2.2 S D R M N P) := hB.2.weaken (fun _ p _ h => hFc p.1 h)
      clear hB hFc hw hk1
      refine W.widen (k := 1) (n := 6) (Nat.le_of_ble_eq_true rfl) (Nat.le_of_ble_eq_true rfl) ?_
      refine lv_istore (lv' := [(4, .int q_6.1), (3, .int q_3), (2, .int q_1.2), (0, .ref (a.1 0)), (1, .int p1)]) hx hb dX11_declare_38 hl (by decide) rfl (fun ls hl => ?_)
      refine lv_aload_n hx hb dX11_declare_40 rfl (lv_at hl 3 rfl) ?_
      refine va_get (D := DG G) (ci := 10) (v := .ref (a.1 21)) (C := RX11) (T := TX11) (N := 10) hx hb hts inW_X11 hown hK hP 0 rfl rfl 3 (by decide) (hts _ wm287) (fun _ h9 => h9) rfl dX11_declare_41 ?_
      refine lv_iload hx hb dX11_declare_44 (lv_at hl 0 rfl) ?_
      obtain ⟨q_7, hq_7, hm⟩ := bind_some hm
      have hFc := free_all hD hS hA
      refine va_calli (va_runV (As := [.int q_6.1]) (rest := []) ⟨hx, hb, hml, hown, hts⟩ (k_X0_domainsOf l hfl G a q_6.2.1 q_6.2.2 q_4.2.2.2 S D R M N P hlk q_6.1  q_7 hq_7 H.size) (cwV 1 hts (gV wm862 wm863 wm864 wm5 wm865) rfl rfl rfl (by decide +kernel) ⟨Nat.le_of_ble_eq_true rfl, Nat.le_of_ble_eq_true rfl⟩) (pre_v (pre_w hK hP hD hS hE hFc) (va_recv hK hP (ci := 0) (q0 := 21) rfl rfl)) rfl rfl hl.1 rfl (lv_room (Nat.le_of_ble_eq_true rfl)) dX11_declare_46 ⟨Nat.le_of_ble_eq_true rfl, Nat.le_of_ble_eq_true rfl⟩) hS (fun q _ h => hFc q h) hFc (fun r u t H locs ht hvm hw hB hz1 hk1 hS => ?_)
      rw [show r = q_7 from hw]
      have hP : va_P (DG G) clP3 (wC G a q_6.2.1 q_6.2.2 q_4.2.2.2 S D R M N P) H := by rw [← ht]; exact hB.1
      have hD : va_D A (wC G a q_6.2.1 q_6.2.2 q_4.2.2.2 S D R M N P) := hB.2.weaken (fun _ p _ h => hFc p.1 h)
      clear hB hFc hw hk1
      refine W.widen (k := 1) (n := 6) (Nat.le_of_ble_eq_true rfl) (Nat.le_of_ble_eq_true rfl) ?_
      refine lv_istore (lv' := [(5, .int q_7), (4, .int q_6.1), (3, .int q_3), (2, .int q_1.2), (0, .ref (a.1 0)), (1, .int p1)]) hx hb dX11_declare_49 hl (by decide) rfl (fun ls hl => ?_)
      refine lv_iload hx hb dX11_declare_51 (lv_at hl 0 rfl) ?_
      refine lv_iconst (v := 1) hx hb dX11_declare_53 (by decide) ?_
      refine lv_icmp_lt (tgt := 63) hx hb dX11_declare_54 (by decide) (fun c_8 => ?_) (fun c_8 => ?_)
      · rw [if_pos c_8] at hm
        refine lv_aload_n hx hb dX11_declare_63 rfl (lv_at hl 4 rfl) ?_
        refine va_get (D := DG G) (ci := 10) (v := .ref (a.1 1)) (C := RX11) (T := TX11) (N := 10) hx hb hts inW_X11 hown hK hP 0 rfl rfl 0 (by decide) (hts _ wm284) (fun _ h9 => h9) rfl dX11_declare_64 ?_
        refine lv_iload_n hx hb dX11_declare_67 rfl (lv_at hl 2 rfl) ?_
        obtain ⟨q_9, hq_9, hm⟩ := bind_some hm
        have hFc := free_all hD hS hA
        refine va_callv (va_runV (As := [.int q_3]) (rest := []) ⟨hx, hb, hml, hown, hts⟩ (K_X9_release l hfl G a q_6.2.1 q_6.2.2 q_4.2.2.2 S D R M N P q_3  q_9 hq_9 H.size) (cwV 1 hts (gV wm566 wm509 wm510 wm2 wm511) rfl rfl rfl (by decide +kernel) ⟨Nat.le_of_ble_eq_true rfl, Nat.le_of_ble_eq_true rfl⟩) (pre_v (pre_w hK hP hD hS hE hFc) (va_recv hK hP (ci := 8) (q0 := 1) rfl rfl)) rfl rfl hl.1 rfl (lv_room (Nat.le_of_ble_eq_true rfl)) dX11_declare_68 ⟨Nat.le_of_ble_eq_true rfl, Nat.le_of_ble_eq_true rfl⟩) hS (fun q _ h => hFc q h) hFc (fun u t H locs ht hvm hw hB hz1 hk1 hS => ?_)
        have hP : va_P (DG G) clP3 (wC G a q_9 q_6.2.2 q_4.2.2.2 S D R M N P) H := by rw [← ht]; exact hB.1
        have hD : va_D A (wC G a q_9 q_6.2.2 q_4.2.2.2 S D R M N P) := hB.2.weaken (fun _ p _ h => hFc p.1 h)
        clear hB hFc hk1
        refine W.widen (k := 1) (n := 6) (Nat.le_of_ble_eq_true rfl) (Nat.le_of_ble_eq_true rfl) ?_
        simp only [Option.some.injEq, Prod.mk.injEq] at hm
        obtain ⟨rfl, rfl, rfl, rfl, rfl, rfl, rfl⟩ := hm
        subst hAe
        obtain ⟨sa, hsa⟩ := hE.2.1 _ stm16
        exact vx_throwS (names := ["java/lang/RuntimeException", "java/lang/Exception"]) (A := _) (free := _) hx hb hfl hown (by decide +kernel) (by decide +kernel) (hts _ wm819) (hts _ wm21) hsa (xX11_162_hat hts hE) xX11_162_good (EV.un hE) (EV.su hE) hS (hl.1.trans hml.symm) dX11_declare_71 dX11_declare_74 dX11_declare_75 dX11_declare_77 dX11_declare_80 (fun x hx => (hout0 x hx).elim) (Nat.le_of_ble_eq_true rfl) (Nat.le_of_ble_eq_true rfl) (Nat.le_of_ble_eq_true rfl) (Nat.le_of_ble_eq_true rfl) hlocks (fun t ha hz hk => ⟨a.2, trivial, ⟨rfl, hlk, va_Pgrow hP hk, hD⟩, xF hS hz hk⟩) hS.2.2 (Nat.le_of_ble_eq_true rfl) (Nat.le_of_ble_eq_true rfl)
      · rw [if_neg c_8] at hm
        refine lv_iload hx hb dX11_declare_57 (lv_at hl 0 rfl) ?_
        refine lv_iconst (v := 4) hx hb dX11_declare_59 (by decide) ?_
        refine lv_icmp_le (tgt := 81) hx hb dX11_declare_60 (by decide) (fun c_10 => ?_) (fun c_10 => ?_)
        · rw [if_pos c_10] at hm
          refine lv_aload_n hx hb dX11_declare_81 rfl (lv_at hl 4 rfl) ?_
          refine va_get (D := DG G) (ci := 10) (v := .ref (a.1 21)) (C := RX11) (T := TX11) (N := 10) hx hb hts inW_X11 hown hK hP 0 rfl rfl 3 (by decide) (hts _ wm287) (fun _ h9 => h9) rfl dX11_declare_82 ?_
          refine va_getN (D := DG G) (ci := 0) (v := .int D.1) (C := RX0) (T := TX0) (N := 8) hx hb hts inW_X0 hown hK hP 21 rfl rfl 5 (by decide) (va_Nw.use rfl (hE.1 _ nw145)) (fun _ h9 => h9) rfl dX11_declare_85 ?_
          refine lv_bipush (v := 8) hx hb dX11_declare_88 (by decide) ?_
          refine lv_icmp_ge (tgt := 105) hx hb dX11_declare_90 (by decide) (fun c_11 => ?_) (fun c_11 => ?_)
          · rw [if_pos c_11] at hm
            refine lv_aload_n hx hb dX11_declare_105 rfl (lv_at hl 4 rfl) ?_
            refine va_get (D := DG G) (ci := 10) (v := .ref (a.1 1)) (C := RX11) (T := TX11) (N := 10) hx hb hts inW_X11 hown hK hP 0 rfl rfl 0 (by decide) (hts _ wm284) (fun _ h9 => h9) rfl dX11_declare_106 ?_
            refine lv_iload_n hx hb dX11_declare_109 rfl (lv_at hl 2 rfl) ?_
            obtain ⟨q_12, hq_12, hm⟩ := bind_some hm
            have hFc := free_all hD hS hA
            refine va_callv (va_runV (As := [.int q_3]) (rest := []) ⟨hx, hb, hml, hown, hts⟩ (K_X9_release l hfl G a q_6.2.1 q_6.2.2 q_4.2.2.2 S D R M N P q_3  q_12 hq_12 H.size) (cwV 1 hts (gV wm566 wm509 wm510 wm2 wm511) rfl rfl rfl (by decide +kernel) ⟨Nat.le_of_ble_eq_true rfl, Nat.le_of_ble_eq_true rfl⟩) (pre_v (pre_w hK hP hD hS hE hFc) (va_recv hK hP (ci := 8) (q0 := 1) rfl rfl)) rfl rfl hl.1 rfl (lv_room (Nat.le_of_ble_eq_true rfl)) dX11_declare_110 ⟨Nat.le_of_ble_eq_true rfl, Nat.le_of_ble_eq_true rfl⟩) hS (fun q _ h => hFc q h) hFc (fun u t H locs ht hvm hw hB hz1 hk1 hS => ?_)
            have hP : va_P (DG G) clP3 (wC G a q_12 q_6.2.2 q_4.2.2.2 S D R M N P) H := by rw [← ht]; exact hB.1
            have hD : va_D A (wC G a q_12 q_6.2.2 q_4.2.2.2 S D R M N P) := hB.2.weaken (fun _ p _ h => hFc p.1 h)
            clear hB hFc hk1
            refine W.widen (k := 1) (n := 6) (Nat.le_of_ble_eq_true rfl) (Nat.le_of_ble_eq_true rfl) ?_
            simp only [Option.some.injEq, Prod.mk.injEq] at hm
            obtain ⟨rfl, rfl, rfl, rfl, rfl, rfl, rfl⟩ := hm
            subst hAe
            obtain ⟨sa, hsa⟩ := hE.2.1 _ stm17
            exact vx_throwS (names := ["java/lang/RuntimeException", "java/lang/Exception"]) (A := _) (free := _) hx hb hfl hown (by decide +kernel) (by decide +kernel) (hts _ wm669) (hts _ wm14) hsa (xX11_113_hat hts hE) xX11_113_good (EV.un hE) (EV.su hE) hS (hl.1.trans hml.symm) dX11_declare_113 dX11_declare_116 dX11_declare_117 dX11_declare_119 dX11_declare_122 (fun x hx => (hout0 x hx).elim) (Nat.le_of_ble_eq_true rfl) (Nat.le_of_ble_eq_true rfl) (Nat.le_of_ble_eq_true rfl) (Nat.le_of_ble_eq_true rfl) hlocks (fun t ha hz hk => ⟨a.2, trivial, ⟨rfl, hlk, va_Pgrow hP hk, hD⟩, xF hS hz hk⟩) hS.2.2 (Nat.le_of_ble_eq_true rfl) (Nat.le_of_ble_eq_true rfl)
          · rw [if_neg c_11] at hm
            refine lv_aload_n hx hb dX11_declare_93 rfl (lv_at hl 4 rfl) ?_
            refine va_get (D := DG G) (ci := 10) (v := .ref (a.1 21)) (C := RX11) (T := TX11) (N := 10) hx hb hts inW_X11 hown hK hP 0 rfl rfl 3 (by decide) (hts _ wm287) (fun _ h9 => h9) rfl dX11_declare_94 ?_
            refine va_getN (D := DG G) (ci := 0) (v := .int D.2.1) (C := RX0) (T := TX0) (N := 8) hx hb hts inW_X0 hown hK hP 21 rfl rfl 6 (by decide) (va_Nw.use rfl (hE.1 _ nw148)) (fun _ h9 => h9) rfl dX11_declare_97 ?_
            refine lv_bipush (v := 40) hx hb dX11_declare_100 (by decide) ?_
            refine lv_icmp_lt (tgt := 123) hx hb dX11_declare_102 (by decide) (fun c_13 => ?_) (fun c_13 => ?_)
            · rw [if_pos c_13] at hm
              refine lv_aload_n hx hb dX11_declare_123 rfl (lv_at hl 4 rfl) ?_
              refine va_get (D := DG G) (ci := 10) (v := .ref (a.1 21)) (C := RX11) (T := TX11) (N := 10) hx hb hts inW_X11 hown hK hP 0 rfl rfl 3 (by decide) (hts _ wm287) (fun _ h9 => h9) rfl dX11_declare_124 ?_
              refine lv_iload hx hb dX11_declare_127 (lv_at hl 1 rfl) ?_
              refine lv_iload hx hb dX11_declare_129 (lv_at hl 0 rfl) ?_
              obtain ⟨q_14, hq_14, hm⟩ := bind_some hm
              have hFc := free_all hD hS hA
              refine va_calli (va_runV (As := [.int q_6.1, .int q_7]) (rest := []) ⟨hx, hb, hml, hown, hts⟩ (k_X0_enterFunction l hfl G a q_6.2.1 q_6.2.2 q_4.2.2.2 S D R M N P hlk q_6.1 q_7  q_14.1 q_14.2.1 q_14.2.2.1 q_14.2.2.2 hq_14 H.size) (cwV 2 hts (gV wm870 wm871 wm872 wm5 wm873) rfl rfl rfl (by decide +kernel) ⟨Nat.le_of_ble_eq_true rfl, Nat.le_of_ble_eq_true rfl⟩) (pre_v (pre_w hK hP hD hS hE hFc) (va_recv hK hP (ci := 0) (q0 := 21) rfl rfl)) rfl rfl hl.1 rfl (lv_room (Nat.le_of_ble_eq_true rfl)) dX11_declare_131 ⟨Nat.le_of_ble_eq_true rfl, Nat.le_of_ble_eq_true rfl⟩) hS (fun q _ h => hFc q h) hFc (fun r u_15 t H locs ht hvm hw hB hz1 hk1 hS => ?_)
              rw [show r = q_14.1 from hw]
              have hlk9 := hB.1
              have hlk : lkA (a.1, u_15) (Int32.toNatClampNeg q_14.2.2.1.1) (Int32.toNatClampNeg q_14.2.2.1.2.1) := hlk9
              have hP : va_P (DG G) clP3 (wC G (a.1, u_15) q_14.2.1 q_6.2.2 q_4.2.2.2 S q_14.2.2.1 R M N q_14.2.2.2) H := by rw [← ht]; exact hB.2.1
              have hD : va_D A (wC G (a.1, u_15) q_14.2.1 q_6.2.2 q_4.2.2.2 S q_14.2.2.1 R M N q_14.2.2.2) := hB.2.2.weaken (fun _ p _ h => hFc p.1 h)
              clear hB hFc hk1 hw
              refine W.widen (k := 6) (n := 147) (Nat.le_of_ble_eq_true rfl) (Nat.le_of_ble_eq_true rfl) ?_
              simp only [Option.some.injEq, Prod.mk.injEq] at hm
              obtain ⟨rfl, rfl, rfl, rfl, rfl, rfl, rfl⟩ := hm
              subst hAe
              refine W.widen (k := 6) (n := 147) (Nat.le_of_ble_eq_true rfl) (Nat.le_of_ble_eq_true rfl) ?_
              exact vx_ret (W.iret (v := q_14.1) hx hb hr (fun t ht hW => ⟨⟨q_14.1, u_15, rfl, ⟨rfl, rfl⟩, ⟨hlk9, by rw [ht]; exact hP, hD⟩⟩, hS.F ht⟩) hS.2.2 dX11_declare_134 hlocks)
            · rw [if_neg c_13] at hm
              refine lv_aload_n hx hb dX11_declare_105 rfl (lv_at hl 4 rfl) ?_
              refine va_get (D := DG G) (ci := 10) (v := .ref (a.1 1)) (C := RX11) (T := TX11) (N := 10) hx hb hts inW_X11 hown hK hP 0 rfl rfl 0 (by decide) (hts _ wm284) (fun _ h9 => h9) rfl dX11_declare_106 ?_
              refine lv_iload_n hx hb dX11_declare_109 rfl (lv_at hl 2 rfl) ?_
              obtain ⟨q_16, hq_16, hm⟩ := bind_some hm
              have hFc := free_all hD hS hA
              refine va_callv (va_runV (As := [.int q_3]) (rest := []) ⟨hx, hb, hml, hown, hts⟩ (K_X9_release l hfl G a q_6.2.1 q_6.2.2 q_4.2.2.2 S D R M N P q_3  q_16 hq_16 H.size) (cwV 1 hts (gV wm566 wm509 wm510 wm2 wm511) rfl rfl rfl (by decide +kernel) ⟨Nat.le_of_ble_eq_true rfl, Nat.le_of_ble_eq_true rfl⟩) (pre_v (pre_w hK hP hD hS hE hFc) (va_recv hK hP (ci := 8) (q0 := 1) rfl rfl)) rfl rfl hl.1 rfl (lv_room (Nat.le_of_ble_eq_true rfl)) dX11_declare_110 ⟨Nat.le_of_ble_eq_true rfl, Nat.le_of_ble_eq_true rfl⟩) hS (fun q _ h => hFc q h) hFc (fun u t H locs ht hvm hw hB hz1 hk1 hS => ?_)
              have hP : va_P (DG G) clP3 (wC G a q_16 q_6.2.2 q_4.2.2.2 S D R M N P) H := by rw [← ht]; exact hB.1
              have hD : va_D A (wC G a q_16 q_6.2.2 q_4.2.2.2 S D R M N P) := hB.2.weaken (fun _ p _ h => hFc p.1 h)
              clear hB hFc hk1
              refine W.widen (k := 1) (n := 6) (Nat.le_of_ble_eq_true rfl) (Nat.le_of_ble_eq_true rfl) ?_
              simp only [Option.some.injEq, Prod.mk.injEq] at hm
              obtain ⟨rfl, rfl, rfl, rfl, rfl, rfl, rfl⟩ := hm
              subst hAe
              obtain ⟨sa, hsa⟩ := hE.2.1 _ stm17
              exact vx_throwS (names := ["java/lang/RuntimeException", "java/lang/Exception"]) (A := _) (free := _) hx hb hfl hown (by decide +kernel) (by decide +kernel) (hts _ wm669) (hts _ wm14) hsa (xX11_113_hat hts hE) xX11_113_good (EV.un hE) (EV.su hE) hS (hl.1.trans hml.symm) dX11_declare_113 dX11_declare_116 dX11_declare_117 dX11_declare_119 dX11_declare_122 (fun x hx => (hout0 x hx).elim) (Nat.le_of_ble_eq_true rfl) (Nat.le_of_ble_eq_true rfl) (Nat.le_of_ble_eq_true rfl) (Nat.le_of_ble_eq_true rfl) hlocks (fun t ha hz hk => ⟨a.2, trivial, ⟨rfl, hlk, va_Pgrow hP hk, hD⟩, xF hS hz hk⟩) hS.2.2 (Nat.le_of_ble_eq_true rfl) (Nat.le_of_ble_eq_true rfl)
        · rw [if_neg c_10] at hm
          refine lv_aload_n hx hb dX11_declare_63 rfl (lv_at hl 4 rfl) ?_
          refine va_get (D := DG G) (ci := 10) (v := .ref (a.1 1)) (C := RX11) (T := TX11) (N := 10) hx hb hts inW_X11 hown hK hP 0 rfl rfl 0 (by decide) (hts _ wm284) (fun _ h9 => h9) rfl dX11_declare_64 ?_
          refine lv_iload_n hx hb dX11_declare_67 rfl (lv_at hl 2 rfl) ?_
          obtain ⟨q_17, hq_17, hm⟩ := bind_some hm
          have hFc := free_all hD hS hA
          refine va_callv (va_runV (As := [.int q_3]) (rest := []) ⟨hx, hb, hml, hown, hts⟩ (K_X9_release l hfl G a q_6.2.1 q_6.2.2 q_4.2.2.2 S D R M N P q_3  q_17 hq_17 H.size) (cwV 1 hts (gV wm566 wm509 wm510 wm2 wm511) rfl rfl rfl (by decide +kernel) ⟨Nat.le_of_ble_eq_true rfl, Nat.le_of_ble_eq_true rfl⟩) (pre_v (pre_w hK hP hD hS hE hFc) (va_recv hK hP (ci := 8) (q0 := 1) rfl rfl)) rfl rfl hl.1 rfl (lv_room (Nat.le_of_ble_eq_true rfl)) dX11_declare_68 ⟨Nat.le_of_ble_eq_true rfl, Nat.le_of_ble_eq_true rfl⟩) hS (fun q _ h => hFc q h) hFc (fun u t H locs ht hvm hw hB hz1 hk1 hS => ?_)
          have hP : va_P (DG G) clP3 (wC G a q_17 q_6.2.2 q_4.2.2.2 S D R M N P) H := by rw [← ht]; exact hB.1
          have hD : va_D A (wC G a q_17 q_6.2.2 q_4.2.2.2 S D R M N P) := hB.2.weaken (fun _ p _ h => hFc p.1 h)
          clear hB hFc hk1
          refine W.widen (k := 1) (n := 6) (Nat.le_of_ble_eq_true rfl) (Nat.le_of_ble_eq_true rfl) ?_
          simp only [Option.some.injEq, Prod.mk.injEq] at hm
          obtain ⟨rfl, rfl, rfl, rfl, rfl, rfl, rfl⟩ := hm
          subst hAe
          obtain ⟨sa, hsa⟩ := hE.2.1 _ stm16
          exact vx_throwS (names := ["java/lang/RuntimeException", "java/lang/Exception"]) (A := _) (free := _) hx hb hfl hown (by decide +kernel) (by decide +kernel) (hts _ wm819) (hts _ wm21) hsa (xX11_162_hat hts hE) xX11_162_good (EV.un hE) (EV.su hE) hS (hl.1.trans hml.symm) dX11_declare_71 dX11_declare_74 dX11_declare_75 dX11_declare_77 dX11_declare_80 (fun x hx => (hout0 x hx).elim) (Nat.le_of_ble_eq_true rfl) (Nat.le_of_ble_eq_true rfl) (Nat.le_of_ble_eq_true rfl) (Nat.le_of_ble_eq_true rfl) hlocks (fun t ha hz hk => ⟨a.2, trivial, ⟨rfl, hlk, va_Pgrow hP hk, hD⟩, xF hS hz hk⟩) hS.2.2 (Nat.le_of_ble_eq_true rfl) (Nat.le_of_ble_eq_true rfl)
    · rw [if_pos c_5] at hm
      refine lv_iconst (v := (-1)) hx hb dX11_declare_26 (by decide) ?_
      refine lv_goto (tgt := 38) hx hb dX11_declare_27 (by decide) ?_
      refine lv_istore (lv' := [(4, .int (-1)), (3, .int q_3), (2, .int q_1.2), (0, .ref (a.1 0)), (1, .int p1)]) hx hb dX11_declare_38 hl (by decide) rfl (fun ls hl => ?_)
      refine lv_aload_n hx hb dX11_declare_40 rfl (lv_at hl 3 rfl) ?_
      refine va_get (D := DG G) (ci := 10) (v := .ref (a.1 21)) (C := RX11) (T := TX11) (N := 10) hx hb hts inW_X11 hown hK hP 0 rfl rfl 3 (by decide) (hts _ wm287) (fun _ h9 => h9) rfl dX11_declare_41 ?_
      refine lv_iload hx hb dX11_declare_44 (lv_at hl 0 rfl) ?_
      obtain ⟨q_18, hq_18, hm⟩ := bind_some hm
      have hFc := free_all hD hS hA
      refine va_calli (va_runV (As := [.int (-1)]) (rest := []) ⟨hx, hb, hml, hown, hts⟩ (k_X0_domainsOf l hfl G a q_4.2.1 q_4.2.2.1 q_4.2.2.2 S D R M N P hlk (-1)  q_18 hq_18 H.size) (cwV 1 hts (gV wm862 wm863 wm864 wm5 wm865) rfl rfl rfl (by decide +kernel) ⟨Nat.le_of_ble_eq_true rfl, Nat.le_of_ble_eq_true rfl⟩) (pre_v (pre_w hK hP hD hS hE hFc) (va_recv hK hP (ci := 0) (q0 := 21) rfl rfl)) rfl rfl hl.1 rfl (lv_room (Nat.le_of_ble_eq_true rfl)) dX11_declare_46 ⟨Nat.le_of_ble_eq_true rfl, Nat.le_of_ble_eq_true rfl⟩) hS (fun q _ h => hFc q h) hFc (fun r u t H locs ht hvm hw hB hz1 hk1 hS => ?_)
      rw [show r = q_18 from hw]
      have hP : va_P (DG G) clP3 (wC G a q_4.2.1 q_4.2.2.1 q_4.2.2.2 S D R M N P) H := by rw [← ht]; exact hB.1
      have hD : va_D A (wC G a q_4.2.1 q_4.2.2.1 q_4.2.2.2 S D R M N P) := hB.2.weaken (fun _ p _ h => hFc p.1 h)
      clear hB hFc hw hk1
      refine W.widen (k := 1) (n := 6) (Nat.le_of_ble_eq_true rfl) (Nat.le_of_ble_eq_true rfl) ?_
      refine lv_istore (lv' := [(5, .int q_18), (4, .int (-1)), (3, .int q_3), (2, .int q_1.2), (0, .ref (a.1 0)), (1, .int p1)]) hx hb dX11_declare_49 hl (by decide) rfl (fun ls hl => ?_)
      refine lv_iload hx hb dX11_declare_51 (lv_at hl 0 rfl) ?_
      refine lv_iconst (v := 1) hx hb dX11_declare_53 (by decide) ?_
      refine lv_icmp_lt (tgt := 63) hx hb dX11_declare_54 (by decide) (fun c_19 => ?_) (fun c_19 => ?_)
      · rw [if_pos c_19] at hm
        refine lv_aload_n hx hb dX11_declare_63 rfl (lv_at hl 4 rfl) ?_
        refine va_get (D := DG G) (ci := 10) (v := .ref (a.1 1)) (C := RX11) (T := TX11) (N := 10) hx hb hts inW_X11 hown hK hP 0 rfl rfl 0 (by decide) (hts _ wm284) (fun _ h9 => h9) rfl dX11_declare_64 ?_
        refine lv_iload_n hx hb dX11_declare_67 rfl (lv_at hl 2 rfl) ?_
        obtain ⟨q_20, hq_20, hm⟩ := bind_some hm
        have hFc := free_all hD hS hA
        refine va_callv (va_runV (As := [.int q_3]) (rest := []) ⟨hx, hb, hml, hown, hts⟩ (K_X9_release l hfl G a q_4.2.1 q_4.2.2.1 q_4.2.2.2 S D R M N P q_3  q_20 hq_20 H.size) (cwV 1 hts (gV wm566 wm509 wm510 wm2 wm511) rfl rfl rfl (by decide +kernel) ⟨Nat.le_of_ble_eq_true rfl, Nat.le_of_ble_eq_true rfl⟩) (pre_v (pre_w hK hP hD hS hE hFc) (va_recv hK hP (ci := 8) (q0 := 1) rfl rfl)) rfl rfl hl.1 rfl (lv_room (Nat.le_of_ble_eq_true rfl)) dX11_declare_68 ⟨Nat.le_of_ble_eq_true rfl, Nat.le_of_ble_eq_true rfl⟩) hS (fun q _ h => hFc q h) hFc (fun u t H locs ht hvm hw hB hz1 hk1 hS => ?_)
        have hP : va_P (DG G) clP3 (wC G a q_20 q_4.2.2.1 q_4.2.2.2 S D R M N P) H := by rw [← ht]; exact hB.1
        have hD : va_D A (wC G a q_20 q_4.2.2.1 q_4.2.2.2 S D R M N P) := hB.2.weaken (fun _ p _ h => hFc p.1 h)
        clear hB hFc hk1
        refine W.widen (k := 1) (n := 6) (Nat.le_of_ble_eq_true rfl) (Nat.le_of_ble_eq_true rfl) ?_
        simp only [Option.some.injEq, Prod.mk.injEq] at hm
        obtain ⟨rfl, rfl, rfl, rfl, rfl, rfl, rfl⟩ := hm
        subst hAe
        obtain ⟨sa, hsa⟩ := hE.2.1 _ stm16
        exact vx_throwS (names := ["java/lang/RuntimeException", "java/lang/Exception"]) (A := _) (free := _) hx hb hfl hown (by decide +kernel) (by decide +kernel) (hts _ wm819) (hts _ wm21) hsa (xX11_162_hat hts hE) xX11_162_good (EV.un hE) (EV.su hE) hS (hl.1.trans hml.symm) dX11_declare_71 dX11_declare_74 dX11_declare_75 dX11_declare_77 dX11_declare_80 (fun x hx => (hout0 x hx).elim) (Nat.le_of_ble_eq_true rfl) (Nat.le_of_ble_eq_true rfl) (Nat.le_of_ble_eq_true rfl) (Nat.le_of_ble_eq_true rfl) hlocks (fun t ha hz hk => ⟨a.2, trivial, ⟨rfl, hlk, va_Pgrow hP hk, hD⟩, xF hS hz hk⟩) hS.2.2 (Nat.le_of_ble_eq_true rfl) (Nat.le_of_ble_eq_true rfl)
      · rw [if_neg c_19] at hm
        refine lv_iload hx hb dX11_declare_57 (lv_at hl 0 rfl) ?_
        refine lv_iconst (v := 4) hx hb dX11_declare_59 (by decide) ?_
        refine lv_icmp_le (tgt := 81) hx hb dX11_declare_60 (by decide) (fun c_21 => ?_) (fun c_21 => ?_)
        · rw [if_pos c_21] at hm
          refine lv_aload_n hx hb dX11_declare_81 rfl (lv_at hl 4 rfl) ?_
          refine va_get (D := DG G) (ci := 10) (v := .ref (a.1 21)) (C := RX11) (T := TX11) (N := 10) hx hb hts inW_X11 hown hK hP 0 rfl rfl 3 (by decide) (hts _ wm287) (fun _ h9 => h9) rfl dX11_declare_82 ?_
          refine va_getN (D := DG G) (ci := 0) (v := .int D.1) (C := RX0) (T := TX0) (N := 8) hx hb hts inW_X0 hown hK hP 21 rfl rfl 5 (by decide) (va_Nw.use rfl (hE.1 _ nw145)) (fun _ h9 => h9) rfl dX11_declare_85 ?_
          refine lv_bipush (v := 8) hx hb dX11_declare_88 (by decide) ?_
          refine lv_icmp_ge (tgt := 105) hx hb dX11_declare_90 (by decide) (fun c_22 => ?_) (fun c_22 => ?_)
          · rw [if_pos c_22] at hm
            refine lv_aload_n hx hb dX11_declare_105 rfl (lv_at hl 4 rfl) ?_
            refine va_get (D := DG G) (ci := 10) (v := .ref (a.1 1)) (C := RX11) (T := TX11) (N := 10) hx hb hts inW_X11 hown hK hP 0 rfl rfl 0 (by decide) (hts _ wm284) (fun _ h9 => h9) rfl dX11_declare_106 ?_
            refine lv_iload_n hx hb dX11_declare_109 rfl (lv_at hl 2 rfl) ?_
            obtain ⟨q_23, hq_23, hm⟩ := bind_some hm
            have hFc := free_all hD hS hA
            refine va_callv (va_runV (As := [.int q_3]) (rest := []) ⟨hx, hb, hml, hown, hts⟩ (K_X9_release l hfl G a q_4.2.1 q_4.2.2.1 q_4.2.2.2 S D R M N P q_3  q_23 hq_23 H.size) (cwV 1 hts (gV wm566 wm509 wm510 wm2 wm511) rfl rfl rfl (by decide +kernel) ⟨Nat.le_of_ble_eq_true rfl, Nat.le_of_ble_eq_true rfl⟩) (pre_v (pre_w hK hP hD hS hE hFc) (va_recv hK hP (ci := 8) (q0 := 1) rfl rfl)) rfl rfl hl.1 rfl (lv_room (Nat.le_of_ble_eq_true rfl)) dX11_declare_110 ⟨Nat.le_of_ble_eq_true rfl, Nat.le_of_ble_eq_true rfl⟩) hS (fun q _ h => hFc q h) hFc (fun u t H locs ht hvm hw hB hz1 hk1 hS => ?_)
            have hP : va_P (DG G) clP3 (wC G a q_23 q_4.2.2.1 q_4.2.2.2 S D R M N P) H := by rw [← ht]; exact hB.1
            have hD : va_D A (wC G a q_23 q_4.2.2.1 q_4.2.2.2 S D R M N P) := hB.2.weaken (fun _ p _ h => hFc p.1 h)
            clear hB hFc hk1
            refine W.widen (k := 1) (n := 6) (Nat.le_of_ble_eq_true rfl) (Nat.le_of_ble_eq_true rfl) ?_
            simp only [Option.some.injEq, Prod.mk.injEq] at hm
            obtain ⟨rfl, rfl, rfl, rfl, rfl, rfl, rfl⟩ := hm
            subst hAe
            obtain ⟨sa, hsa⟩ := hE.2.1 _ stm17
            exact vx_throwS (names := ["java/lang/RuntimeException", "java/lang/Exception"]) (A := _) (free := _) hx hb hfl hown (by decide +kernel) (by decide +kernel) (hts _ wm669) (hts _ wm14) hsa (xX11_113_hat hts hE) xX11_113_good (EV.un hE) (EV.su hE) hS (hl.1.trans hml.symm) dX11_declare_113 dX11_declare_116 dX11_declare_117 dX11_declare_119 dX11_declare_122 (fun x hx => (hout0 x hx).elim) (Nat.le_of_ble_eq_true rfl) (Nat.le_of_ble_eq_true rfl) (Nat.le_of_ble_eq_true rfl) (Nat.le_of_ble_eq_true rfl) hlocks (fun t ha hz hk => ⟨a.2, trivial, ⟨rfl, hlk, va_Pgrow hP hk, hD⟩, xF hS hz hk⟩) hS.2.2 (Nat.le_of_ble_eq_true rfl) (Nat.le_of_ble_eq_true rfl)
          · rw [if_neg c_22] at hm
            refine lv_aload_n hx hb dX11_declare_93 rfl (lv_at hl 4 rfl) ?_
            refine va_get (D := DG G) (ci := 10) (v := .ref (a.1 21)) (C := RX11) (T := TX11) (N := 10) hx hb hts inW_X11 hown hK hP 0 rfl rfl 3 (by decide) (hts _ wm287) (fun _ h9 => h9) rfl dX11_declare_94 ?_
            refine va_getN (D := DG G) (ci := 0) (v := .int D.2.1) (C := RX0) (T := TX0) (N := 8) hx hb hts inW_X0 hown hK hP 21 rfl rfl 6 (by decide) (va_Nw.use rfl (hE.1 _ nw148)) (fun _ h9 => h9) rfl dX11_declare_97 ?_
            refine lv_bipush (v := 40) hx hb dX11_declare_100 (by decide) ?_
            refine lv_icmp_lt (tgt := 123) hx hb dX11_declare_102 (by decide) (fun c_24 => ?_) (fun c_24 => ?_)
            · rw [if_pos c_24] at hm
              refine lv_aload_n hx hb dX11_declare_123 rfl (lv_at hl 4 rfl) ?_
              refine va_get (D := DG G) (ci := 10) (v := .ref (a.1 21)) (C := RX11) (T := TX11) (N := 10) hx hb hts inW_X11 hown hK hP 0 rfl rfl 3 (by decide) (hts _ wm287) (fun _ h9 => h9) rfl dX11_declare_124 ?_
              refine lv_iload hx hb dX11_declare_127 (lv_at hl 1 rfl) ?_
              refine lv_iload hx hb dX11_declare_129 (lv_at hl 0 rfl) ?_
              obtain ⟨q_25, hq_25, hm⟩ := bind_some hm
              have hFc := free_all hD hS hA
              refine va_calli (va_runV (As := [.int (-1), .int q_18]) (rest := []) ⟨hx, hb, hml, hown, hts⟩ (k_X0_enterFunction l hfl G a q_4.2.1 q_4.2.2.1 q_4.2.2.2 S D R M N P hlk (-1) q_18  q_25.1 q_25.2.1 q_25.2.2.1 q_25.2.2.2 hq_25 H.size) (cwV 2 hts (gV wm870 wm871 wm872 wm5 wm873) rfl rfl rfl (by decide +kernel) ⟨Nat.le_of_ble_eq_true rfl, Nat.le_of_ble_eq_true rfl⟩) (pre_v (pre_w hK hP hD hS hE hFc) (va_recv hK hP (ci := 0) (q0 := 21) rfl rfl)) rfl rfl hl.1 rfl (lv_room (Nat.le_of_ble_eq_true rfl)) dX11_declare_131 ⟨Nat.le_of_ble_eq_true rfl, Nat.le_of_ble_eq_true rfl⟩) hS (fun q _ h => hFc q h) hFc (fun r u_26 t H locs ht hvm hw hB hz1 hk1 hS => ?_)
              rw [show r = q_25.1 from hw]
              have hlk9 := hB.1
              have hlk : lkA (a.1, u_26) (Int32.toNatClampNeg q_25.2.2.1.1) (Int32.toNatClampNeg q_25.2.2.1.2.1) := hlk9
              have hP : va_P (DG G) clP3 (wC G (a.1, u_26) q_25.2.1 q_4.2.2.1 q_4.2.2.2 S q_25.2.2.1 R M N q_25.2.2.2) H := by rw [← ht]; exact hB.2.1
              have hD : va_D A (wC G (a.1, u_26) q_25.2.1 q_4.2.2.1 q_4.2.2.2 S q_25.2.2.1 R M N q_25.2.2.2) := hB.2.2.weaken (fun _ p _ h => hFc p.1 h)
              clear hB hFc hk1 hw
              refine W.widen (k := 6) (n := 147) (Nat.le_of_ble_eq_true rfl) (Nat.le_of_ble_eq_true rfl) ?_
              simp only [Option.some.injEq, Prod.mk.injEq] at hm
              obtain ⟨rfl, rfl, rfl, rfl, rfl, rfl, rfl⟩ := hm
              subst hAe
              refine W.widen (k := 6) (n := 147) (Nat.le_of_ble_eq_true rfl) (Nat.le_of_ble_eq_true rfl) ?_
              exact vx_ret (W.iret (v := q_25.1) hx hb hr (fun t ht hW => ⟨⟨q_25.1, u_26, rfl, ⟨rfl, rfl⟩, ⟨hlk9, by rw [ht]; exact hP, hD⟩⟩, hS.F ht⟩) hS.2.2 dX11_declare_134 hlocks)
            · rw [if_neg c_24] at hm
              refine lv_aload_n hx hb dX11_declare_105 rfl (lv_at hl 4 rfl) ?_
              refine va_get (D := DG G) (ci := 10) (v := .ref (a.1 1)) (C := RX11) (T := TX11) (N := 10) hx hb hts inW_X11 hown hK hP 0 rfl rfl 0 (by decide) (hts _ wm284) (fun _ h9 => h9) rfl dX11_declare_106 ?_
              refine lv_iload_n hx hb dX11_declare_109 rfl (lv_at hl 2 rfl) ?_
              obtain ⟨q_27, hq_27, hm⟩ := bind_some hm
              have hFc := free_all hD hS hA
              refine va_callv (va_runV (As := [.int q_3]) (rest := []) ⟨hx, hb, hml, hown, hts⟩ (K_X9_release l hfl G a q_4.2.1 q_4.2.2.1 q_4.2.2.2 S D R M N P q_3  q_27 hq_27 H.size) (cwV 1 hts (gV wm566 wm509 wm510 wm2 wm511) rfl rfl rfl (by decide +kernel) ⟨Nat.le_of_ble_eq_true rfl, Nat.le_of_ble_eq_true rfl⟩) (pre_v (pre_w hK hP hD hS hE hFc) (va_recv hK hP (ci := 8) (q0 := 1) rfl rfl)) rfl rfl hl.1 rfl (lv_room (Nat.le_of_ble_eq_true rfl)) dX11_declare_110 ⟨Nat.le_of_ble_eq_true rfl, Nat.le_of_ble_eq_true rfl⟩) hS (fun q _ h => hFc q h) hFc (fun u t H locs ht hvm hw hB hz1 hk1 hS => ?_)
              have hP : va_P (DG G) clP3 (wC G a q_27 q_4.2.2.1 q_4.2.2.2 S D R M N P) H := by rw [← ht]; exact hB.1
              have hD : va_D A (wC G a q_27 q_4.2.2.1 q_4.2.2.2 S D R M N P) := hB.2.weaken (fun _ p _ h => hFc p.1 h)
              clear hB hFc hk1
              refine W.widen (k := 1) (n := 6) (Nat.le_of_ble_eq_true rfl) (Nat.le_of_ble_eq_true rfl) ?_
              simp only [Option.some.injEq, Prod.mk.injEq] at hm
              obtain ⟨rfl, rfl, rfl, rfl, rfl, rfl, rfl⟩ := hm
              subst hAe
              obtain ⟨sa, hsa⟩ := hE.2.1 _ stm17
              exact vx_throwS (names := ["java/lang/RuntimeException", "java/lang/Exception"]) (A := _) (free := _) hx hb hfl hown (by decide +kernel) (by decide +kernel) (hts _ wm669) (hts _ wm14) hsa (xX11_113_hat hts hE) xX11_113_good (EV.un hE) (EV.su hE) hS (hl.1.trans hml.symm) dX11_declare_113 dX11_declare_116 dX11_declare_117 dX11_declare_119 dX11_declare_122 (fun x hx => (hout0 x hx).elim) (Nat.le_of_ble_eq_true rfl) (Nat.le_of_ble_eq_true rfl) (Nat.le_of_ble_eq_true rfl) (Nat.le_of_ble_eq_true rfl) hlocks (fun t ha hz hk => ⟨a.2, trivial, ⟨rfl, hlk, va_Pgrow hP hk, hD⟩, xF hS hz hk⟩) hS.2.2 (Nat.le_of_ble_eq_true rfl) (Nat.le_of_ble_eq_true rfl)
        · rw [if_neg c_21] at hm
          refine lv_aload_n hx hb dX11_declare_63 rfl (lv_at hl 4 rfl) ?_
          refine va_get (D := DG G) (ci := 10) (v := .ref (a.1 1)) (C := RX11) (T := TX11) (N := 10) hx hb hts inW_X11 hown hK hP 0 rfl rfl 0 (by decide) (hts _ wm284) (fun _ h9 => h9) rfl dX11_declare_64 ?_
          refine lv_iload_n hx hb dX11_declare_67 rfl (lv_at hl 2 rfl) ?_
          obtain ⟨q_28, hq_28, hm⟩ := bind_some hm
          have hFc := free_all hD hS hA
          refine va_callv (va_runV (As := [.int q_3]) (rest := []) ⟨hx, hb, hml, hown, hts⟩ (K_X9_release l hfl G a q_4.2.1 q_4.2.2.1 q_4.2.2.2 S D R M N P q_3  q_28 hq_28 H.size) (cwV 1 hts (gV wm566 wm509 wm510 wm2 wm511) rfl rfl rfl (by decide +kernel) ⟨Nat.le_of_ble_eq_true rfl, Nat.le_of_ble_eq_true rfl⟩) (pre_v (pre_w hK hP hD hS hE hFc) (va_recv hK hP (ci := 8) (q0 := 1) rfl rfl)) rfl rfl hl.1 rfl (lv_room (Nat.le_of_ble_eq_true rfl)) dX11_declare_68 ⟨Nat.le_of_ble_eq_true rfl, Nat.le_of_ble_eq_true rfl⟩) hS (fun q _ h => hFc q h) hFc (fun u t H locs ht hvm hw hB hz1 hk1 hS => ?_)
          have hP : va_P (DG G) clP3 (wC G a q_28 q_4.2.2.1 q_4.2.2.2 S D R M N P) H := by rw [← ht]; exact hB.1
          have hD : va_D A (wC G a q_28 q_4.2.2.1 q_4.2.2.2 S D R M N P) := hB.2.weaken (fun _ p _ h => hFc p.1 h)
          clear hB hFc hk1
          refine W.widen (k := 1) (n := 6) (Nat.le_of_ble_eq_true rfl) (Nat.le_of_ble_eq_true rfl) ?_
          simp only [Option.some.injEq, Prod.mk.injEq] at hm
          obtain ⟨rfl, rfl, rfl, rfl, rfl, rfl, rfl⟩ := hm
          subst hAe
          obtain ⟨sa, hsa⟩ := hE.2.1 _ stm16
          exact vx_throwS (names := ["java/lang/RuntimeException", "java/lang/Exception"]) (A := _) (free := _) hx hb hfl hown (by decide +kernel) (by decide +kernel) (hts _ wm819) (hts _ wm21) hsa (xX11_162_hat hts hE) xX11_162_good (EV.un hE) (EV.su hE) hS (hl.1.trans hml.symm) dX11_declare_71 dX11_declare_74 dX11_declare_75 dX11_declare_77 dX11_declare_80 (fun x hx => (hout0 x hx).elim) (Nat.le_of_ble_eq_true rfl) (Nat.le_of_ble_eq_true rfl) (Nat.le_of_ble_eq_true rfl) (Nat.le_of_ble_eq_true rfl) hlocks (fun t ha hz hk => ⟨a.2, trivial, ⟨rfl, hlk, va_Pgrow hP hk, hD⟩, xF hS hz hk⟩) hS.2.2 (Nat.le_of_ble_eq_true rfl) (Nat.le_of_ble_eq_true rfl)
def f_X11_split (T : TS) (F : FS) (S : SS) (D : DS) (P : PS) (p1 : Int32) (p2 : Int32) : Option (Int32 × Int32 × TS × FS × SS × DS × PS) := (Option.bind (f_X11_goalAt D p1) (fun q_1 => (if q_1.1 = 0 then (if gix D q_1.2 = true then (Option.bind (f_X11_needPlace D P q_1.2 p2) (fun q_4 => (if q_4 = 0 then (if (P.2.2.2.2.2.1 (Int32.toNatClampNeg q_1.2)) = 111 then (Option.bind (f_X0_splitIsTooMuch T S D P q_1.2 p2) (fun q_7 => (if q_7 = 0 then (Option.bind (f_X0_splitBy T F S D P q_1.2 p2) (fun q_9 => (if q_9.1 = (-1) then some (5, 0, q_9.2.1, q_9.2.2.1, q_9.2.2.2.1, q_9.2.2.2.2.1, q_9.2.2.2.2.2) else some (0, q_9.1, q_9.2.1, q_9.2.2.1, q_9.2.2.2.1, q_9.2.2.2.2.1, q_9.2.2.2.2.2)))) else some (2, 0, T, F, S, D, P)))) else some (2, 0, T, F, S, D, P)) else some (q_4, 0, T, F, S, D, P)))) else none) else some (q_1.1, 0, T, F, S, D, P))))
set_option maxHeartbeats 2000000 in
set_option maxRecDepth 100000 in
theorem k_X11_split (l : Launch) (hfl : l.stackTraces = false) (G : GC) (a : AS) (T : TS) (F : FS) (U : US) (S : SS) (D : DS) (R : RS) (M : MS) (N : NS) (P : PS) (hlk : lkA a D.1.toNatClampNeg D.2.1.toNatClampNeg) (p1 : Int32) (p2 : Int32) (k9 : Int32) (r9 : Int32) (T9 : TS) (F9 : FS) (S9 : SS) (D9 : DS) (P9 : PS) (hm : f_X11_split T F S D P p1 p2 = some (k9, r9, T9, F9, S9, D9, P9)) (sz : Nat) : vx_Met l yX11_split (Cond.code yX11_split cX11_split 5 (some .int) :: W0) ({ frames := 408, cells := 167, slots := 5676, locals := 10601 }) (va_Pc [.ref (a.1 0), .int p1, .int p2] (WD G (wC G a T F U S D R M N P) sz)) (va_Qi (S := BS) (fun r _ => k9 = 0 ∧ r = r9) (fun b2 t => lkA (a.1, b2) D9.1.toNatClampNeg D9.2.1.toNatClampNeg ∧ PW G (va_A (wC G a T F U S D R M N P) sz) (wC G (a.1, b2) T9 F9 U S9 D9 R M N P9) t) (va_A (wC G a T F U S D R M N P) sz)) (vx_X (fun _ : BS => True) (fun (E : String) (b2 : BS) (t : State) => xnm k9 = some E ∧ lkA (a.1, b2) D9.1.toNatClampNeg D9.2.1.toNatClampNeg ∧ PW G (va_A (wC G a T F U S D R M N P) sz) (wC G (a.1, b2) T9 F9 U S9 D9 R M N P9) t) (va_A (wC G a T F U S D R M N P) sz)) 167 5676 (va_A (wC G a T F U S D R M N P) sz) := by
  rw [f_X11_split] at hm
  refine vx_ofW (cc := cX11_split) (maxL := 5) (ret := (some .int)) (by decide) rfl ?_
  intro p e s m args below meth c s₁ B hml hout0 hv
  obtain ⟨rfl, hsz, hP, hK, hD0, hE⟩ := hv
  have hx := B.exec
  have hb := B.bytes
  have hr := B.returns
  have hts := w0_tail B.pre
  have hown : s.vm.findClass RX11 = some m.cls := findClass_of_methodNamed B.named
  have hlocks := B.notSynchronized
  have hD := hD0.self (sz := sz)
  obtain ⟨A, hAe⟩ : ∃ A, (va_A (wC G a T F U S D R M N P) sz) = A := ⟨_, rfl⟩
  rw [hAe] at hD hE
  have hA : ∀ q : Nat, s.heap.size ≤ q → A q := fun q h => by rw [← hAe]; exact Or.inr (by rw [← hsz]; exact h)
  have hS : va_S A s.heap s.heap [] := va_S.rf
  obtain ⟨H, hHe⟩ : ∃ H : Heap, H = s.heap := ⟨_, rfl⟩
  have hP : va_P (DG G) clP3 (wC G a T F U S D R M N P) H := by rw [hHe]; exact hP
  have hS : va_S A s.heap H [] := by rw [hHe]; exact hS
  have hl := lv_entry ([.ref (a.1 0), .int p1, .int p2]) (n := 5) (Nat.le_of_ble_eq_true rfl)
  rw [lg_entry_eq, ← hHe]
  generalize (lg_sl ([.ref (a.1 0), .int p1, .int p2]) ++ List.replicate (5 - (lg_sl ([.ref (a.1 0), .int p1, .int p2])).length) Slot.unset).toArray = ls at hl ⊢
  have hl : lv_has ls 5 [(0, .ref (a.1 0)), (1, .int p1), (2, .int p2)] := hl
  refine lv_aload_n hx hb dX11_split_0 rfl (lv_at hl 0 rfl) ?_
  refine lv_iload_n hx hb dX11_split_1 rfl (lv_at hl 1 rfl) ?_
  obtain ⟨q_1, hq_1, hm⟩ := bind_some hm
  have hFc := free_all hD hS hA
  refine vx_callq (vx_runV (As := [.int p1]) (rest := []) ⟨hx, hb, hml, hown, hts⟩ (k_X11_goalAt l hfl G a T F U S D R M N P hlk p1  q_1.1 q_1.2 hq_1 H.size) (cwV 1 hts (gV wm956 wm958 ws_p12 wm1 wm959) rfl rfl rfl (by decide +kernel) ⟨Nat.le_of_ble_eq_true rfl, Nat.le_of_ble_eq_true rfl⟩) (pre_v (pre_w hK hP hD hS hE hFc) (va_recv hK hP (ci := 10) (q0 := 0) rfl rfl)) rfl rfl hl.1 rfl (lv_room (Nat.le_of_ble_eq_true rfl)) dX11_split_2 ⟨Nat.le_of_ble_eq_true rfl, Nat.le_of_ble_eq_true rfl⟩) hS (fun q _ h => hFc q h) hFc (fun q _ h => hFc q h) (fun E ce q9 u_2 t H locs ht hvm hpx hBX hz1 hk1 hS hce hv9 hcl => ?_) (fun r u_2 t H locs ht hvm hw hB hz1 hk1 hS => ?_)
  · have hne : ¬ q_1.1 = 0 := xnm_ne hBX.1
    rw [if_neg hne] at hm
    have hX9 := hBX.1
    have hB := hBX.2
    have hP : va_P (DG G) clP3 (wC G a T F U S D R M N P) H := by rw [← ht]; exact hB.1
    have hD : va_D A (wC G a T F U S D R M N P) := hB.2.weaken (fun _ p _ h => hFc p.1 h)
    simp only [Option.some.injEq, Prod.mk.injEq] at hm
    obtain ⟨rfl, rfl, rfl, rfl, rfl, rfl, rfl⟩ := hm
    subst hAe
    exact vx_out (fun x hx => (hout0 x hx).elim) hlocks hce hv9 hcl (fun t2 ht2 _ => ⟨a.2, trivial, ⟨hX9, hlk, by rw [ht2]; exact hP, hD⟩, hS.F ht2⟩) hS.2.2 (Nat.le_of_ble_eq_true rfl) (Nat.le_of_ble_eq_true rfl)
  · rw [if_pos hw.1] at hm
    rw [show r = rfG a q_1.2 from hw.2]
    have hP : va_P (DG G) clP3 (wC G a T F U S D R M N P) H := by rw [← ht]; exact hB.1
    have hD : va_D A (wC G a T F U S D R M N P) := hB.2.weaken (fun _ p _ h => hFc p.1 h)
    refine W.widen (k := 1) (n := 6) (Nat.le_of_ble_eq_true rfl) (Nat.le_of_ble_eq_true rfl) ?_
    obtain ⟨g_3, hm⟩ := ite_some hm
    rw [rfG_pos g_3]
    refine W.eq (g2 := F0 m 5 ls [.ref (a.2.2.1 (Int32.toNatClampNeg q_1.2) 0)]) rfl ?_
    refine lv_astore_n (lv' := [(3, .ref (a.2.2.1 (Int32.toNatClampNeg q_1.2) 0)), (0, .ref (a.1 0)), (1, .int p1), (2, .int p2)]) hx hb dX11_split_5 rfl hl (by decide) rfl (fun ls hl => ?_)
    refine lv_aload_n hx hb dX11_split_6 rfl (lv_at hl 0 rfl) ?_
    refine lv_iload_n hx hb dX11_split_7 rfl (lv_at hl 3 rfl) ?_
    obtain ⟨q_4, hq_4, hm⟩ := bind_some hm
    have hFc := free_all hD hS hA
    refine vx_callv (vx_runS (As := [.ref (a.2.2.1 (Int32.toNatClampNeg q_1.2) 0), .int p2]) (rest := []) ⟨hx, hb, hml, hown, hts⟩ (k_X11_needPlace l hfl G a T F U S D R M N P hlk q_1.2 p2 g_3 q_4 hq_4 H.size) (cwS 2 hts (gS wm961 wm962 wm1 wm963) rfl rfl rfl (by decide +kernel) ⟨Nat.le_of_ble_eq_true rfl, Nat.le_of_ble_eq_true rfl⟩) (pre_w hK hP hD hS hE hFc) rfl rfl hl.1 rfl (lv_room (Nat.le_of_ble_eq_true rfl)) dX11_split_8 ⟨Nat.le_of_ble_eq_true rfl, Nat.le_of_ble_eq_true rfl⟩) hS (fun q _ h => hFc q h) hFc (fun q _ h => hFc q h) (fun E ce q9 u_5 t H locs ht hvm hpx hBX hz1 hk1 hS hce hv9 hcl => ?_) (fun u_5 t H locs ht hvm hw hB hz1 hk1 hS => ?_)
    · have hne : ¬ q_4 = 0 := xnm_ne hBX.1
      rw [if_neg hne] at hm
      have hX9 := hBX.1
      have hB := hBX.2
      have hP : va_P (DG G) clP3 (wC G a T F U S D R M N P) H := by rw [← ht]; exact hB.1
      have hD : va_D A (wC G a T F U S D R M N P) := hB.2.weaken (fun _ p _ h => hFc p.1 h)
      simp only [Option.some.injEq, Prod.mk.injEq] at hm
      obtain ⟨rfl, rfl, rfl, rfl, rfl, rfl, rfl⟩ := hm
      subst hAe
      exact vx_out (fun x hx => (hout0 x hx).elim) hlocks hce hv9 hcl (fun t2 ht2 _ => ⟨a.2, trivial, ⟨hX9, hlk, by rw [ht2]; exact hP, hD⟩, hS.F ht2⟩) hS.2.2 (Nat.le_of_ble_eq_true rfl) (Nat.le_of_ble_eq_true rfl)
    · rw [if_pos hw] at hm
      have hP : va_P (DG G) clP3 (wC G a T F U S D R M N P) H := by rw [← ht]; exact hB.1
      have hD : va_D A (wC G a T F U S D R M N P) := hB.2.weaken (fun _ p _ h => hFc p.1 h)
      refine W.widen (k := 2) (n := 12) (Nat.le_of_ble_eq_true rfl) (Nat.le_of_ble_eq_true rfl) ?_
      refine lv_aload_n hx hb dX11_split_11 rfl (lv_at hl 0 rfl) ?_
      refine va_getN (D := DG G) (ci := 3) (v := .int (P.2.2.2.2.2.1 (Int32.toNatClampNeg q_1.2))) (C := RX3) (T := TX3) (N := 8) hx hb hts inW_X3 hown hK hP _ ((at_goalC (c := 0) (gix_lt g_3) (by decide)).trans rfl) rfl 4 (by decide) (va_Nw.use rfl (hE.1 _ nw923)) (fun _ h9 => h9) rfl dX11_split_12 ?_
      refine lv_bipush (v := 111) hx hb dX11_split_15 (by decide) ?_
      refine lv_icmp_ne (tgt := 32) hx hb dX11_split_17 (by decide) (fun c_6 => ?_) (fun c_6 => ?_)
      · rw [if_neg c_6] at hm
        simp only [Option.some.injEq, Prod.mk.injEq] at hm
        obtain ⟨rfl, rfl, rfl, rfl, rfl, rfl, rfl⟩ := hm
        subst hAe
        obtain ⟨sa, hsa⟩ := hE.2.1 _ stm18
        exact vx_throwS (names := ["java/lang/RuntimeException", "java/lang/Exception"]) (A := _) (free := _) hx hb hfl hown (by decide +kernel) (by decide +kernel) (hts _ wm669) (hts _ wm14) hsa (xX11_113_hat hts hE) xX11_113_good (EV.un hE) (EV.su hE) hS (hl.1.trans hml.symm) dX11_split_32 dX11_split_35 dX11_split_36 dX11_split_38 dX11_split_41 (fun x hx => (hout0 x hx).elim) (Nat.le_of_ble_eq_true rfl) (Nat.le_of_ble_eq_true rfl) (Nat.le_of_ble_eq_true rfl) (Nat.le_of_ble_eq_true rfl) hlocks (fun t ha hz hk => ⟨a.2, trivial, ⟨rfl, hlk, va_Pgrow hP hk, hD⟩, xF hS hz hk⟩) hS.2.2 (Nat.le_of_ble_eq_true rfl) (Nat.le_of_ble_eq_true rfl)
      · rw [if_pos c_6] at hm
        refine lv_aload_n hx hb dX11_split_20 rfl (lv_at hl 1 rfl) ?_
        refine va_get (D := DG G) (ci := 10) (v := .ref (a.1 21)) (C := RX11) (T := TX11) (N := 10) hx hb hts inW_X11 hown hK hP 0 rfl rfl 3 (by decide) (hts _ wm287) (fun _ h9 => h9) rfl dX11_split_21 ?_
        refine lv_aload_n hx hb dX11_split_24 rfl (lv_at hl 0 rfl) ?_
        refine lv_iload_n hx hb dX11_split_25 rfl (lv_at hl 3 rfl) ?_
        obtain ⟨q_7, hq_7, hm⟩ := bind_some hm
        have hFc := free_all hD hS hA
        refine va_calli (va_runV (As := [.ref (a.2.2.1 (Int32.toNatClampNeg q_1.2) 0), .int p2]) (rest := []) ⟨hx, hb, hml, hown, hts⟩ (k_X0_splitIsTooMuch l hfl G a T F U S D R M N P hlk q_1.2 p2 g_3 q_7 hq_7 H.size) (cwV 2 hts (gV wm965 wm966 wm967 wm5 wm968) rfl rfl rfl (by decide +kernel) ⟨Nat.le_of_ble_eq_true rfl, Nat.le_of_ble_eq_true rfl⟩) (pre_v (pre_w hK hP hD hS hE hFc) (va_recv hK hP (ci := 0) (q0 := 21) rfl rfl)) rfl rfl hl.1 rfl (lv_room (Nat.le_of_ble_eq_true rfl)) dX11_split_26 ⟨Nat.le_of_ble_eq_true rfl, Nat.le_of_ble_eq_true rfl⟩) hS (fun q _ h => hFc q h) hFc (fun r u t H locs ht hvm hw hB hz1 hk1 hS => ?_)
        rw [show r = q_7 from hw]
        have hP : va_P (DG G) clP3 (wC G a T F U S D R M N P) H := by rw [← ht]; exact hB.1
        have hD : va_D A (wC G a T F U S D R M N P) := hB.2.weaken (fun _ p _ h => hFc p.1 h)
        clear hB hFc hw hk1
        refine W.widen (k := 2) (n := 12) (Nat.le_of_ble_eq_true rfl) (Nat.le_of_ble_eq_true rfl) ?_
        refine lv_if_eq (tgt := 42) hx hb dX11_split_29 (by decide) (fun c_8 => ?_) (fun c_8 => ?_)
        · rw [if_pos c_8] at hm
          refine lv_aload_n hx hb dX11_split_42 rfl (lv_at hl 1 rfl) ?_
          refine va_get (D := DG G) (ci := 10) (v := .ref (a.1 21)) (C := RX11) (T := TX11) (N := 10) hx hb hts inW_X11 hown hK hP 0 rfl rfl 3 (by decide) (hts _ wm287) (fun _ h9 => h9) rfl dX11_split_43 ?_
          refine lv_aload_n hx hb dX11_split_46 rfl (lv_at hl 0 rfl) ?_
          refine lv_iload_n hx hb dX11_split_47 rfl (lv_at hl 3 rfl) ?_
          obtain ⟨q_9, hq_9, hm⟩ := bind_some hm
          have hFc := free_all hD hS hA
          refine va_calli (va_runV (As := [.ref (a.2.2.1 (Int32.toNatClampNeg q_1.2) 0), .int p2]) (rest := []) ⟨hx, hb, hml, hown, hts⟩ (k_X0_splitBy l hfl G a T F U S D R M N P hlk q_1.2 p2 g_3 q_9.1 q_9.2.1 q_9.2.2.1 q_9.2.2.2.1 q_9.2.2.2.2.1 q_9.2.2.2.2.2 hq_9 H.size) (cwV 2 hts (gV wm983 wm984 wm985 wm5 wm986) rfl rfl rfl (by decide +kernel) ⟨Nat.le_of_ble_eq_true rfl, Nat.le_of_ble_eq_true rfl⟩) (pre_v (pre_w hK hP hD hS hE hFc) (va_recv hK hP (ci := 0) (q0 := 21) rfl rfl)) rfl rfl hl.1 rfl (lv_room (Nat.le_of_ble_eq_true rfl)) dX11_split_48 ⟨Nat.le_of_ble_eq_true rfl, Nat.le_of_ble_eq_true rfl⟩) hS (fun q _ h => hFc q h) hFc (fun r u_10 t H locs ht hvm hw hB hz1 hk1 hS => ?_)
          rw [show r = q_9.1 from hw]
          have hlk9 := hB.1
          have hlk : lkA (a.1, u_10) (Int32.toNatClampNeg q_9.2.2.2.2.1.1) (Int32.toNatClampNeg q_9.2.2.2.2.1.2.1) := hlk9
          have hP : va_P (DG G) clP3 (wC G (a.1, u_10) q_9.2.1 q_9.2.2.1 U q_9.2.2.2.1 q_9.2.2.2.2.1 R M N q_9.2.2.2.2.2) H := by rw [← ht]; exact hB.2.1
          have hD : va_D A (wC G (a.1, u_10) q_9.2.1 q_9.2.2.1 U q_9.2.2.2.1 q_9.2.2.2.2.1 R M N q_9.2.2.2.2.2) := hB.2.2.weaken (fun _ p _ h => hFc p.1 h)
          clear hB hFc hk1 hw
          refine W.widen (k := 166) (n := 5670) (Nat.le_of_ble_eq_true rfl) (Nat.le_of_ble_eq_true rfl) ?_
          refine lv_istore (lv' := [(4, .int q_9.1), (3, .ref (a.2.2.1 (Int32.toNatClampNeg q_1.2) 0)), (0, .ref (a.1 0)), (1, .int p1), (2, .int p2)]) hx hb dX11_split_51 hl (by decide) rfl (fun ls hl => ?_)
          refine lv_iload hx hb dX11_split_53 (lv_at hl 0 rfl) ?_
          refine lv_iconst (v := (-1)) hx hb dX11_split_55 (by decide) ?_
          refine lv_icmp_ne (tgt := 69) hx hb dX11_split_56 (by decide) (fun c_11 => ?_) (fun c_11 => ?_)
          · rw [if_neg c_11] at hm
            refine lv_iload hx hb dX11_split_69 (lv_at hl 0 rfl) ?_
            simp only [Option.some.injEq, Prod.mk.injEq] at hm
            obtain ⟨rfl, rfl, rfl, rfl, rfl, rfl, rfl⟩ := hm
            subst hAe
            refine W.widen (k := 167) (n := 5676) (Nat.le_of_ble_eq_true rfl) (Nat.le_of_ble_eq_true rfl) ?_
            exact vx_ret (W.iret (v := q_9.1) hx hb hr (fun t ht hW => ⟨⟨q_9.1, u_10, rfl, ⟨rfl, rfl⟩, ⟨hlk9, by rw [ht]; exact hP, hD⟩⟩, hS.F ht⟩) hS.2.2 dX11_split_71 hlocks)
          · rw [if_pos c_11] at hm
            simp only [Option.some.injEq, Prod.mk.injEq] at hm
            obtain ⟨rfl, rfl, rfl, rfl, rfl, rfl, rfl⟩ := hm
            subst hAe
            obtain ⟨sa, hsa⟩ := hE.2.1 _ stm19
            exact vx_throwS (names := ["java/lang/RuntimeException", "java/lang/Exception"]) (A := _) (free := _) hx hb hfl hown (by decide +kernel) (by decide +kernel) (hts _ wm819) (hts _ wm21) hsa (xX11_162_hat hts hE) xX11_162_good (EV.un hE) (EV.su hE) hS (hl.1.trans hml.symm) dX11_split_59 dX11_split_62 dX11_split_63 dX11_split_65 dX11_split_68 (fun x hx => (hout0 x hx).elim) (Nat.le_of_ble_eq_true rfl) (Nat.le_of_ble_eq_true rfl) (Nat.le_of_ble_eq_true rfl) (Nat.le_of_ble_eq_true rfl) hlocks (fun t ha hz hk => ⟨u_10, trivial, ⟨rfl, hlk9, va_Pgrow hP hk, hD⟩, xF hS hz hk⟩) hS.2.2 (Nat.le_of_ble_eq_true rfl) (Nat.le_of_ble_eq_true rfl)
        · rw [if_neg c_8] at hm
          simp only [Option.some.injEq, Prod.mk.injEq] at hm
          obtain ⟨rfl, rfl, rfl, rfl, rfl, rfl, rfl⟩ := hm
          subst hAe
          obtain ⟨sa, hsa⟩ := hE.2.1 _ stm18
          exact vx_throwS (names := ["java/lang/RuntimeException", "java/lang/Exception"]) (A := _) (free := _) hx hb hfl hown (by decide +kernel) (by decide +kernel) (hts _ wm669) (hts _ wm14) hsa (xX11_113_hat hts hE) xX11_113_good (EV.un hE) (EV.su hE) hS (hl.1.trans hml.symm) dX11_split_32 dX11_split_35 dX11_split_36 dX11_split_38 dX11_split_41 (fun x hx => (hout0 x hx).elim) (Nat.le_of_ble_eq_true rfl) (Nat.le_of_ble_eq_true rfl) (Nat.le_of_ble_eq_true rfl) (Nat.le_of_ble_eq_true rfl) hlocks (fun t ha hz hk => ⟨a.2, trivial, ⟨rfl, hlk, va_Pgrow hP hk, hD⟩, xF hS hz hk⟩) hS.2.2 (Nat.le_of_ble_eq_true rfl) (Nat.le_of_ble_eq_true rfl)
def f_X11_fill (T : TS) (F : FS) (U : US) (S : SS) (D : DS) (N : NS) (P : PS) (p1 : Int32) (p2 : Int32) : Option (Int32 × Int32 × TS × FS × US × PS) := (Option.bind (f_X11_goalAt D p1) (fun q_1 => (if q_1.1 = 0 then (if gix D q_1.2 = true then (Option.bind (f_X11_termAt N p2) (fun q_4 => (if q_4.1 = 0 then (Option.bind (f_X11_needOpen D P q_1.2) (fun q_6 => (if q_6 = 0 then (Option.bind (some (D.2.2 ||| ((1 : Int32) <<< ((P.2.2.2.1 (Int32.toNatClampNeg q_1.2)) &&& 31)))) (fun yz_8 => (Option.bind (g_X9_callsOf T q_4.2) (fun q_9 => (if (q_9 &&& (yz_8 ^^^ ((-1) : Int32))) = 0 then (Option.bind (f_X10_fits T F U S D P q_1.2 q_4.2 (P.2.2.2.2.1 (Int32.toNatClampNeg q_1.2))) (fun q_11 => (if q_11.1 = 0 then some (5, 0, q_11.2.1, q_11.2.2.1, q_11.2.2.2, P) else (Option.bind (g_X3_fillWith P q_1.2 q_4.2) (fun q_13 => (Option.bind (f_X0_openOnesOf D q_13 (q_13.2.2.2.1 (Int32.toNatClampNeg q_1.2))) (fun q_14 => some (0, q_14, q_11.2.1, q_11.2.2.1, q_11.2.2.2, q_13)))))))) else some (5, 0, T, F, U, P)))))) else some (q_6, 0, T, F, U, P)))) else some (q_4.1, 0, T, F, U, P)))) else none) else some (q_1.1, 0, T, F, U, P))))
set_option maxHeartbeats 2000000 in
set_option maxRecDepth 100000 in
theorem k_X11_fill (l : Launch) (hfl : l.stackTraces = false) (G : GC) (a : AS) (T : TS) (F : FS) (U : US) (S : SS) (D : DS) (R : RS) (M : MS) (N : NS) (P : PS) (hlk : lkA a D.1.toNatClampNeg D.2.1.toNatClampNeg) (p1 : Int32) (p2 : Int32) (k9 : Int32) (r9 : Int32) (T9 : TS) (F9 : FS) (U9 : US) (P9 : PS) (hm : f_X11_fill T F U S D N P p1 p2 = some (k9, r9, T9, F9, U9, P9)) (sz : Nat) : vx_Met l yX11_fill (Cond.code yX11_fill cX11_fill 6 (some .int) :: W0) ({ frames := 582, cells := 4, slots := 24, locals := 15248 }) (va_Pc [.ref (a.1 0), .int p1, .int p2] (WD G (wC G a T F U S D R M N P) sz)) (va_Qi (S := Unit) (fun r _ => k9 = 0 ∧ r = r9) (fun _ t => PW G (va_A (wC G a T F U S D R M N P) sz) (wC G a T9 F9 U9 S D R M N P9) t) (va_A (wC G a T F U S D R M N P) sz)) (vx_X (fun _ : Unit => True) (fun (E : String) (_ : Unit) (t : State) => xnm k9 = some E ∧ PW G (va_A (wC G a T F U S D R M N P) sz) (wC G a T9 F9 U9 S D R M N P9) t) (va_A (wC G a T F U S D R M N P) sz)) 4 24 (va_A (wC G a T F U S D R M N P) sz) := by
  rw [f_X11_fill] at hm
  refine vx_ofW (cc := cX11_fill) (maxL := 6) (ret := (some .int)) (by decide) rfl ?_
  intro p e s m args below meth c s₁ B hml hout0 hv
  obtain ⟨rfl, hsz, hP, hK, hD0, hE⟩ := hv
  have hx := B.exec
  have hb := B.bytes
  have hr := B.returns
  have hts := w0_tail B.pre
  have hown : s.vm.findClass RX11 = some m.cls := findClass_of_methodNamed B.named
  have hlocks := B.notSynchronized
  have hD := hD0.self (sz := sz)
  obtain ⟨A, hAe⟩ : ∃ A, (va_A (wC G a T F U S D R M N P) sz) = A := ⟨_, rfl⟩
  rw [hAe] at hD hE
  have hA : ∀ q : Nat, s.heap.size ≤ q → A q := fun q h => by rw [← hAe]; exact Or.inr (by rw [← hsz]; exact h)
  have hS : va_S A s.heap s.heap [] := va_S.rf
  obtain ⟨H, hHe⟩ : ∃ H : Heap, H = s.heap := ⟨_, rfl⟩
  have hP : va_P (DG G) clP3 (wC G a T F U S D R M N P) H := by rw [hHe]; exact hP
  have hS : va_S A s.heap H [] := by rw [hHe]; exact hS
  have hl := lv_entry ([.ref (a.1 0), .int p1, .int p2]) (n := 6) (Nat.le_of_ble_eq_true rfl)
  rw [lg_entry_eq, ← hHe]
  generalize (lg_sl ([.ref (a.1 0), .int p1, .int p2]) ++ List.replicate (6 - (lg_sl ([.ref (a.1 0), .int p1, .int p2])).length) Slot.unset).toArray = ls at hl ⊢
  have hl : lv_has ls 6 [(0, .ref (a.1 0)), (1, .int p1), (2, .int p2)] := hl
  refine lv_aload_n hx hb dX11_fill_0 rfl (lv_at hl 0 rfl) ?_
  refine lv_iload_n hx hb dX11_fill_1 rfl (lv_at hl 1 rfl) ?_
  obtain ⟨q_1, hq_1, hm⟩ := bind_some hm
  have hFc := free_all hD hS hA
  refine vx_callq (vx_runV (As := [.int p1]) (rest := []) ⟨hx, hb, hml, hown, hts⟩ (k_X11_goalAt l hfl G a T F U S D R M N P hlk p1  q_1.1 q_1.2 hq_1 H.size) (cwV 1 hts (gV wm956 wm958 ws_p12 wm1 wm959) rfl rfl rfl (by decide +kernel) ⟨Nat.le_of_ble_eq_true rfl, Nat.le_of_ble_eq_true rfl⟩) (pre_v (pre_w hK hP hD hS hE hFc) (va_recv hK hP (ci := 10) (q0 := 0) rfl rfl)) rfl rfl hl.1 rfl (lv_room (Nat.le_of_ble_eq_true rfl)) dX11_fill_2 ⟨Nat.le_of_ble_eq_true rfl, Nat.le_of_ble_eq_true rfl⟩) hS (fun q _ h => hFc q h) hFc (fun q _ h => hFc q h) (fun E ce q9 u_2 t H locs ht hvm hpx hBX hz1 hk1 hS hce hv9 hcl => ?_) (fun r u_2 t H locs ht hvm hw hB hz1 hk1 hS => ?_)
  · have hne : ¬ q_1.1 = 0 := xnm_ne hBX.1
    rw [if_neg hne] at hm
    have hX9 := hBX.1
    have hB := hBX.2
    have hP : va_P (DG G) clP3 (wC G a T F U S D R M N P) H := by rw [← ht]; exact hB.1
    have hD : va_D A (wC G a T F U S D R M N P) := hB.2.weaken (fun _ p _ h => hFc p.1 h)
    simp only [Option.some.injEq, Prod.mk.injEq] at hm
    obtain ⟨rfl, rfl, rfl, rfl, rfl, rfl⟩ := hm
    subst hAe
    exact vx_out (fun x hx => (hout0 x hx).elim) hlocks hce hv9 hcl (fun t2 ht2 _ => ⟨(), trivial, ⟨hX9, by rw [ht2]; exact hP, hD⟩, hS.F ht2⟩) hS.2.2 (Nat.le_of_ble_eq_true rfl) (Nat.le_of_ble_eq_true rfl)
  · rw [if_pos hw.1] at hm
    rw [show r = rfG a q_1.2 from hw.2]
    have hP : va_P (DG G) clP3 (wC G a T F U S D R M N P) H := by rw [← ht]; exact hB.1
    have hD : va_D A (wC G a T F U S D R M N P) := hB.2.weaken (fun _ p _ h => hFc p.1 h)
    refine W.widen (k := 1) (n := 6) (Nat.le_of_ble_eq_true rfl) (Nat.le_of_ble_eq_true rfl) ?_
    obtain ⟨g_3, hm⟩ := ite_some hm
    rw [rfG_pos g_3]
    refine W.eq (g2 := F0 m 5 ls [.ref (a.2.2.1 (Int32.toNatClampNeg q_1.2) 0)]) rfl ?_
    refine lv_astore_n (lv' := [(3, .ref (a.2.2.1 (Int32.toNatClampNeg q_1.2) 0)), (0, .ref (a.1 0)), (1, .int p1), (2, .int p2)]) hx hb dX11_fill_5 rfl hl (by decide) rfl (fun ls hl => ?_)
    refine lv_aload_n hx hb dX11_fill_6 rfl (lv_at hl 1 rfl) ?_
    refine lv_iload_n hx hb dX11_fill_7 rfl (lv_at hl 3 rfl) ?_
    obtain ⟨q_4, hq_4, hm⟩ := bind_some hm
    have hFc := free_all hD hS hA
    refine vx_calli (vx_runV (As := [.int p2]) (rest := []) ⟨hx, hb, hml, hown, hts⟩ (k_X11_termAt l hfl G a T F U S D R M N P hlk p2  q_4.1 q_4.2 hq_4 H.size) (cwV 1 hts (gV wm319 wm321 ws_p0 wm1 wm322) rfl rfl rfl (by decide +kernel) ⟨Nat.le_of_ble_eq_true rfl, Nat.le_of_ble_eq_true rfl⟩) (pre_v (pre_w hK hP hD hS hE hFc) (va_recv hK hP (ci := 10) (q0 := 0) rfl rfl)) rfl rfl hl.1 rfl (lv_room (Nat.le_of_ble_eq_true rfl)) dX11_fill_8 ⟨Nat.le_of_ble_eq_true rfl, Nat.le_of_ble_eq_true rfl⟩) hS (fun q _ h => hFc q h) hFc (fun q _ h => hFc q h) (fun E ce q9 u_5 t H locs ht hvm hpx hBX hz1 hk1 hS hce hv9 hcl => ?_) (fun r u_5 t H locs ht hvm hw hB hz1 hk1 hS => ?_)
    · have hne : ¬ q_4.1 = 0 := xnm_ne hBX.1
      rw [if_neg hne] at hm
      have hX9 := hBX.1
      have hB := hBX.2
      have hP : va_P (DG G) clP3 (wC G a T F U S D R M N P) H := by rw [← ht]; exact hB.1
      have hD : va_D A (wC G a T F U S D R M N P) := hB.2.weaken (fun _ p _ h => hFc p.1 h)
      simp only [Option.some.injEq, Prod.mk.injEq] at hm
      obtain ⟨rfl, rfl, rfl, rfl, rfl, rfl⟩ := hm
      subst hAe
      exact vx_out (fun x hx => (hout0 x hx).elim) hlocks hce hv9 hcl (fun t2 ht2 _ => ⟨(), trivial, ⟨hX9, by rw [ht2]; exact hP, hD⟩, hS.F ht2⟩) hS.2.2 (Nat.le_of_ble_eq_true rfl) (Nat.le_of_ble_eq_true rfl)
    · rw [if_pos hw.1] at hm
      rw [show r = q_4.2 from hw.2]
      have hP : va_P (DG G) clP3 (wC G a T F U S D R M N P) H := by rw [← ht]; exact hB.1
      have hD : va_D A (wC G a T F U S D R M N P) := hB.2.weaken (fun _ p _ h => hFc p.1 h)
      refine W.widen (k := 2) (n := 12) (Nat.le_of_ble_eq_true rfl) (Nat.le_of_ble_eq_true rfl) ?_
      refine lv_istore (lv' := [(4, .int q_4.2), (3, .ref (a.2.2.1 (Int32.toNatClampNeg q_1.2) 0)), (0, .ref (a.1 0)), (1, .int p1), (2, .int p2)]) hx hb dX11_fill_11 hl (by decide) rfl (fun ls hl => ?_)
      refine lv_aload_n hx hb dX11_fill_13 rfl (lv_at hl 1 rfl) ?_
      obtain ⟨q_6, hq_6, hm⟩ := bind_some hm
      have hFc := free_all hD hS hA
      refine vx_callv (vx_runS (As := [.ref (a.2.2.1 (Int32.toNatClampNeg q_1.2) 0)]) (rest := []) ⟨hx, hb, hml, hown, hts⟩ (k_X11_needOpen l hfl G a T F U S D R M N P hlk q_1.2 g_3 q_6 hq_6 H.size) (cwS 1 hts (gS wm1026 wm1027 wm1 wm1028) rfl rfl rfl (by decide +kernel) ⟨Nat.le_of_ble_eq_true rfl, Nat.le_of_ble_eq_true rfl⟩) (pre_w hK hP hD hS hE hFc) rfl rfl hl.1 rfl (lv_room (Nat.le_of_ble_eq_true rfl)) dX11_fill_14 ⟨Nat.le_of_ble_eq_true rfl, Nat.le_of_ble_eq_true rfl⟩) hS (fun q _ h => hFc q h) hFc (fun q _ h => hFc q h) (fun E ce q9 u_7 t H locs ht hvm hpx hBX hz1 hk1 hS hce hv9 hcl => ?_) (fun u_7 t H locs ht hvm hw hB hz1 hk1 hS => ?_)
      · have hne : ¬ q_6 = 0 := xnm_ne hBX.1
        rw [if_neg hne] at hm
        have hX9 := hBX.1
        have hB := hBX.2
        have hP : va_P (DG G) clP3 (wC G a T F U S D R M N P) H := by rw [← ht]; exact hB.1
        have hD : va_D A (wC G a T F U S D R M N P) := hB.2.weaken (fun _ p _ h => hFc p.1 h)
        simp only [Option.some.injEq, Prod.mk.injEq] at hm
        obtain ⟨rfl, rfl, rfl, rfl, rfl, rfl⟩ := hm
        subst hAe
        exact vx_out (fun x hx => (hout0 x hx).elim) hlocks hce hv9 hcl (fun t2 ht2 _ => ⟨(), trivial, ⟨hX9, by rw [ht2]; exact hP, hD⟩, hS.F ht2⟩) hS.2.2 (Nat.le_of_ble_eq_true rfl) (Nat.le_of_ble_eq_true rfl)
      · rw [if_pos hw] at hm
        have hP : va_P (DG G) clP3 (wC G a T F U S D R M N P) H := by rw [← ht]; exact hB.1
        have hD : va_D A (wC G a T F U S D R M N P) := hB.2.weaken (fun _ p _ h => hFc p.1 h)
        refine W.widen (k := 3) (n := 18) (Nat.le_of_ble_eq_true rfl) (Nat.le_of_ble_eq_true rfl) ?_
        refine lv_aload_n hx hb dX11_fill_17 rfl (lv_at hl 2 rfl) ?_
        refine va_get (D := DG G) (ci := 10) (v := .ref (a.1 21)) (C := RX11) (T := TX11) (N := 10) hx hb hts inW_X11 hown hK hP 0 rfl rfl 3 (by decide) (hts _ wm287) (fun _ h9 => h9) rfl dX11_fill_18 ?_
        refine va_getN (D := DG G) (ci := 0) (v := .int D.2.2) (C := RX0) (T := TX0) (N := 8) hx hb hts inW_X0 hown hK hP 21 rfl rfl 7 (by decide) (va_Nw.use rfl (hE.1 _ nw151)) (fun _ h9 => h9) rfl dX11_fill_21 ?_
        refine lv_iconst (v := 1) hx hb dX11_fill_24 (by decide) ?_
        refine lv_aload_n hx hb dX11_fill_25 rfl (lv_at hl 1 rfl) ?_
        refine va_getN (D := DG G) (ci := 3) (v := .int (P.2.2.2.1 (Int32.toNatClampNeg q_1.2))) (C := RX3) (T := TX3) (N := 8) hx hb hts inW_X3 hown hK hP _ ((at_goalC (c := 0) (gix_lt g_3) (by decide)).trans rfl) rfl 0 (by decide) (va_Nw.use rfl (hE.1 _ nw907)) (fun _ h9 => h9) rfl dX11_fill_26 ?_
        refine lv_ishl hx hb dX11_fill_29 ?_
        refine lv_ior hx hb dX11_fill_30 ?_
        refine lv_topi (fun yz_8 eyz_8 => ?_)
        obtain ⟨z_8, hz_8, hm⟩ := bind_some hm
        obtain rfl : yz_8 = z_8 := eyz_8.trans (Option.some.inj hz_8)
        refine lv_istore (lv' := [(5, .int yz_8), (4, .int q_4.2), (3, .ref (a.2.2.1 (Int32.toNatClampNeg q_1.2) 0)), (0, .ref (a.1 0)), (1, .int p1), (2, .int p2)]) hx hb dX11_fill_31 hl (by decide) rfl (fun ls hl => ?_)
        refine lv_aload_n hx hb dX11_fill_33 rfl (lv_at hl 3 rfl) ?_
        refine va_get (D := DG G) (ci := 10) (v := .ref (a.1 1)) (C := RX11) (T := TX11) (N := 10) hx hb hts inW_X11 hown hK hP 0 rfl rfl 0 (by decide) (hts _ wm284) (fun _ h9 => h9) rfl dX11_fill_34 ?_
        refine lv_iload hx hb dX11_fill_37 (lv_at hl 1 rfl) ?_
        obtain ⟨q_9, hq_9, hm⟩ := bind_some hm
        have hFc := free_all hD hS hA
        refine va_calli (va_runV (As := [.int q_4.2]) (rest := []) ⟨hx, hb, hml, hown, hts⟩ (K_X9_callsOf l hfl G a T F U S D R M N P q_4.2  q_9 hq_9 H.size) (cwV 1 hts (gV wm1030 wm1031 wm1032 wm2 wm1033) rfl rfl rfl (by decide +kernel) ⟨Nat.le_of_ble_eq_true rfl, Nat.le_of_ble_eq_true rfl⟩) (pre_v (pre_w hK hP hD hS hE hFc) (va_recv hK hP (ci := 8) (q0 := 1) rfl rfl)) rfl rfl hl.1 rfl (lv_room (Nat.le_of_ble_eq_true rfl)) dX11_fill_39 ⟨Nat.le_of_ble_eq_true rfl, Nat.le_of_ble_eq_true rfl⟩) hS (fun q _ h => hFc q h) hFc (fun r u t H locs ht hvm hw hB hz1 hk1 hS => ?_)
        rw [show r = q_9 from hw]
        have hP : va_P (DG G) clP3 (wC G a T F U S D R M N P) H := by rw [← ht]; exact hB.1
        have hD : va_D A (wC G a T F U S D R M N P) := hB.2.weaken (fun _ p _ h => hFc p.1 h)
        clear hB hFc hw hk1
        refine W.widen (k := 3) (n := 18) (Nat.le_of_ble_eq_true rfl) (Nat.le_of_ble_eq_true rfl) ?_
        refine lv_iload hx hb dX11_fill_42 (lv_at hl 0 rfl) ?_
        refine lv_iconst (v := (-1)) hx hb dX11_fill_44 (by decide) ?_
        refine lv_ixor hx hb dX11_fill_45 ?_
        refine lv_iand hx hb dX11_fill_46 ?_
        refine lv_if_ne (tgt := 70) hx hb dX11_fill_47 (by decide) (fun c_10 => ?_) (fun c_10 => ?_)
        · rw [if_neg c_10] at hm
          simp only [Option.some.injEq, Prod.mk.injEq] at hm
          obtain ⟨rfl, rfl, rfl, rfl, rfl, rfl⟩ := hm
          subst hAe
          obtain ⟨sa, hsa⟩ := hE.2.1 _ stm20
          exact vx_throwS (names := ["java/lang/RuntimeException", "java/lang/Exception"]) (A := _) (free := _) hx hb hfl hown (by decide +kernel) (by decide +kernel) (hts _ wm819) (hts _ wm21) hsa (xX11_162_hat hts hE) xX11_162_good (EV.un hE) (EV.su hE) hS (hl.1.trans hml.symm) dX11_fill_70 dX11_fill_73 dX11_fill_74 dX11_fill_76 dX11_fill_79 (fun x hx => (hout0 x hx).elim) (Nat.le_of_ble_eq_true rfl) (Nat.le_of_ble_eq_true rfl) (Nat.le_of_ble_eq_true rfl) (Nat.le_of_ble_eq_true rfl) hlocks (fun t ha hz hk => ⟨(), trivial, ⟨rfl, va_Pgrow hP hk, hD⟩, xF hS hz hk⟩) hS.2.2 (Nat.le_of_ble_eq_true rfl) (Nat.le_of_ble_eq_true rfl)
        · rw [if_pos c_10] at hm
          refine lv_aload_n hx hb dX11_fill_50 rfl (lv_at hl 3 rfl) ?_
          refine va_get (D := DG G) (ci := 10) (v := .ref (a.1 24)) (C := RX11) (T := TX11) (N := 10) hx hb hts inW_X11 hown hK hP 0 rfl rfl 4 (by decide) (hts _ wm288) (fun _ h9 => h9) rfl dX11_fill_51 ?_
          refine lv_aload_n hx hb dX11_fill_54 rfl (lv_at hl 2 rfl) ?_
          refine va_getN (D := DG G) (ci := 3) (v := .ref (a.2.2.1 (Int32.toNatClampNeg q_1.2) 1)) (C := RX3) (T := TX3) (N := 8) hx hb hts inW_X3 hown hK hP _ ((at_goalC (c := 0) (gix_lt g_3) (by decide)).trans rfl) rfl 1 (by decide) (va_Nw.use rfl (hE.1 _ nw911)) (fun _ h9 => h9) rfl dX11_fill_55 ?_
          refine lv_iload hx hb dX11_fill_58 (lv_at hl 1 rfl) ?_
          refine lv_aload_n hx hb dX11_fill_60 rfl (lv_at hl 2 rfl) ?_
          refine va_getN (D := DG G) (ci := 3) (v := .int (P.2.2.2.2.1 (Int32.toNatClampNeg q_1.2))) (C := RX3) (T := TX3) (N := 8) hx hb hts inW_X3 hown hK hP _ ((at_goalC (c := 0) (gix_lt g_3) (by decide)).trans rfl) rfl 2 (by decide) (va_Nw.use rfl (hE.1 _ nw914)) (fun _ h9 => h9) rfl dX11_fill_61 ?_
          obtain ⟨q_11, hq_11, hm⟩ := bind_some hm
          have hFc := free_all hD hS hA
          refine va_calli (va_runV (As := [.ref (a.2.2.1 (Int32.toNatClampNeg q_1.2) 1), .int q_4.2, .int (P.2.2.2.2.1 (Int32.toNatClampNeg q_1.2))]) (rest := []) ⟨hx, hb, hml, hown, hts⟩ (k_X10_fits l hfl G a T F U S D R M N P hlk q_1.2 q_4.2 (P.2.2.2.2.1 (Int32.toNatClampNeg q_1.2)) g_3 q_11.1 q_11.2.1 q_11.2.2.1 q_11.2.2.2 hq_11 H.size) (cwV 3 hts (gV wm608 wm609 wm610 wm6 wm611) rfl rfl rfl (by decide +kernel) ⟨Nat.le_of_ble_eq_true rfl, Nat.le_of_ble_eq_true rfl⟩) (pre_v (pre_w hK hP hD hS hE hFc) (va_recv hK hP (ci := 9) (q0 := 24) rfl rfl)) rfl rfl hl.1 rfl (lv_room (Nat.le_of_ble_eq_true rfl)) dX11_fill_64 ⟨Nat.le_of_ble_eq_true rfl, Nat.le_of_ble_eq_true rfl⟩) hS (fun q _ h => hFc q h) hFc (fun r u t H locs ht hvm hw hB hz1 hk1 hS => ?_)
          rw [show r = q_11.1 from hw]
          have hP : va_P (DG G) clP3 (wC G a q_11.2.1 q_11.2.2.1 q_11.2.2.2 S D R M N P) H := by rw [← ht]; exact hB.1
          have hD : va_D A (wC G a q_11.2.1 q_11.2.2.1 q_11.2.2.2 S D R M N P) := hB.2.weaken (fun _ p _ h => hFc p.1 h)
          clear hB hFc hw hk1
          refine W.widen (k := 3) (n := 18) (Nat.le_of_ble_eq_true rfl) (Nat.le_of_ble_eq_true rfl) ?_
          refine lv_if_ne (tgt := 80) hx hb dX11_fill_67 (by decide) (fun c_12 => ?_) (fun c_12 => ?_)
          · rw [if_neg c_12] at hm
            refine lv_aload_n hx hb dX11_fill_80 rfl (lv_at hl 2 rfl) ?_
            refine lv_iload hx hb dX11_fill_81 (lv_at hl 1 rfl) ?_
            obtain ⟨q_13, hq_13, hm⟩ := bind_some hm
            have hFc := free_all hD hS hA
            refine va_callv (va_runV (As := [.int q_4.2]) (rest := []) ⟨hx, hb, hml, hown, hts⟩ (K_X3_fillWith l hfl G a q_11.2.1 q_11.2.2.1 q_11.2.2.2 S D R M N P q_1.2 q_4.2 g_3 q_13 hq_13 H.size) (cwV 1 hts (gV wm1035 wm1036 wm1037 wm23 wm1038) rfl rfl rfl (by decide +kernel) ⟨Nat.le_of_ble_eq_true rfl, Nat.le_of_ble_eq_true rfl⟩) (pre_v (pre_w hK hP hD hS hE hFc) (va_recv hK hP (ci := 3) (q0 := _) rfl ((at_goalC (c := 0) (gix_lt g_3) (by decide)).trans rfl))) rfl rfl hl.1 rfl (lv_room (Nat.le_of_ble_eq_true rfl)) dX11_fill_83 ⟨Nat.le_of_ble_eq_true rfl, Nat.le_of_ble_eq_true rfl⟩) hS (fun q _ h => hFc q h) hFc (fun u t H locs ht hvm hw hB hz1 hk1 hS => ?_)
            have hP : va_P (DG G) clP3 (wC G a q_11.2.1 q_11.2.2.1 q_11.2.2.2 S D R M N q_13) H := by rw [← ht]; exact hB.1
            have hD : va_D A (wC G a q_11.2.1 q_11.2.2.1 q_11.2.2.2 S D R M N q_13) := hB.2.weaken (fun _ p _ h => hFc p.1 h)
            clear hB hFc hk1
            refine W.widen (k := 3) (n := 18) (Nat.le_of_ble_eq_true rfl) (Nat.le_of_ble_eq_true rfl) ?_
            refine lv_aload_n hx hb dX11_fill_86 rfl (lv_at hl 3 rfl) ?_
            refine va_get (D := DG G) (ci := 10) (v := .ref (a.1 21)) (C := RX11) (T := TX11) (N := 10) hx hb hts inW_X11 hown hK hP 0 rfl rfl 3 (by decide) (hts _ wm287) (fun _ h9 => h9) rfl dX11_fill_87 ?_
            refine lv_aload_n hx hb dX11_fill_90 rfl (lv_at hl 2 rfl) ?_
            refine va_getN (D := DG G) (ci := 3) (v := .int (q_13.2.2.2.1 (Int32.toNatClampNeg q_1.2))) (C := RX3) (T := TX3) (N := 8) hx hb hts inW_X3 hown hK hP _ ((at_goalC (c := 0) (gix_lt g_3) (by decide)).trans rfl) rfl 0 (by decide) (va_Nw.use rfl (hE.1 _ nw907)) (fun _ h9 => h9) rfl dX11_fill_91 ?_
            obtain ⟨q_14, hq_14, hm⟩ := bind_some hm
            have hFc := free_all hD hS hA
            refine va_calli (va_runV (As := [.int (q_13.2.2.2.1 (Int32.toNatClampNeg q_1.2))]) (rest := []) ⟨hx, hb, hml, hown, hts⟩ (k_X0_openOnesOf l hfl G a q_11.2.1 q_11.2.2.1 q_11.2.2.2 S D R M N q_13 hlk (q_13.2.2.2.1 (Int32.toNatClampNeg q_1.2))  q_14 hq_14 H.size) (cwV 1 hts (gV wm1039 wm618 wm619 wm5 wm620) rfl rfl rfl (by decide +kernel) ⟨Nat.le_of_ble_eq_true rfl, Nat.le_of_ble_eq_true rfl⟩) (pre_v (pre_w hK hP hD hS hE hFc) (va_recv hK hP (ci := 0) (q0 := 21) rfl rfl)) rfl rfl hl.1 rfl (lv_room (Nat.le_of_ble_eq_true rfl)) dX11_fill_94 ⟨Nat.le_of_ble_eq_true rfl, Nat.le_of_ble_eq_true rfl⟩) hS (fun q _ h => hFc q h) hFc (fun r u t H locs ht hvm hw hB hz1 hk1 hS => ?_)
            rw [show r = q_14 from hw]
            have hP : va_P (DG G) clP3 (wC G a q_11.2.1 q_11.2.2.1 q_11.2.2.2 S D R M N q_13) H := by rw [← ht]; exact hB.1
            have hD : va_D A (wC G a q_11.2.1 q_11.2.2.1 q_11.2.2.2 S D R M N q_13) := hB.2.weaken (fun _ p _ h => hFc p.1 h)
            clear hB hFc hw hk1
            refine W.widen (k := 3) (n := 18) (Nat.le_of_ble_eq_true rfl) (Nat.le_of_ble_eq_true rfl) ?_
            simp only [Option.some.injEq, Prod.mk.injEq] at hm
            obtain ⟨rfl, rfl, rfl, rfl, rfl, rfl⟩ := hm
            subst hAe
            refine W.widen (k := 4) (n := 24) (Nat.le_of_ble_eq_true rfl) (Nat.le_of_ble_eq_true rfl) ?_
            exact vx_ret (W.iret (v := q_14) hx hb hr (fun t ht hW => ⟨⟨q_14, (), rfl, ⟨rfl, rfl⟩, ⟨by rw [ht]; exact hP, hD⟩⟩, hS.F ht⟩) hS.2.2 dX11_fill_97 hlocks)
          · rw [if_pos c_12] at hm
            simp only [Option.some.injEq, Prod.mk.injEq] at hm
            obtain ⟨rfl, rfl, rfl, rfl, rfl, rfl⟩ := hm
            subst hAe
            obtain ⟨sa, hsa⟩ := hE.2.1 _ stm20
            exact vx_throwS (names := ["java/lang/RuntimeException", "java/lang/Exception"]) (A := _) (free := _) hx hb hfl hown (by decide +kernel) (by decide +kernel) (hts _ wm819) (hts _ wm21) hsa (xX11_162_hat hts hE) xX11_162_good (EV.un hE) (EV.su hE) hS (hl.1.trans hml.symm) dX11_fill_70 dX11_fill_73 dX11_fill_74 dX11_fill_76 dX11_fill_79 (fun x hx => (hout0 x hx).elim) (Nat.le_of_ble_eq_true rfl) (Nat.le_of_ble_eq_true rfl) (Nat.le_of_ble_eq_true rfl) (Nat.le_of_ble_eq_true rfl) hlocks (fun t ha hz hk => ⟨(), trivial, ⟨rfl, va_Pgrow hP hk, hD⟩, xF hS hz hk⟩) hS.2.2 (Nat.le_of_ble_eq_true rfl) (Nat.le_of_ble_eq_true rfl)
def f_X11_auto (T : TS) (D : DS) (P : PS) (p1 : Int32) : Option (Int32 × Int32 × TS × PS) := (Option.bind (f_X11_goalAt D p1) (fun q_1 => (if q_1.1 = 0 then (if gix D q_1.2 = true then (Option.bind (f_X11_needOpen D P q_1.2) (fun q_4 => (if q_4 = 0 then (Option.bind (f_X0_innermostThatFits T D P q_1.2) (fun q_6 => (if q_6.1 = (-1) then some (5, 0, q_6.2, P) else (Option.bind (g_X9_leaf q_6.2 1 (((P.2.2.2.2.2.2.2.2.2.2.1 (Int32.toNatClampNeg q_1.2)) - (1 : Int32)) - q_6.1)) (fun q_8 => (Option.bind (g_X3_fillWith P q_1.2 q_8.1) (fun q_9 => some (0, q_6.1, q_8.2, q_9)))))))) else some (q_4, 0, T, P)))) else none) else some (q_1.1, 0, T, P))))
set_option maxHeartbeats 2000000 in
set_option maxRecDepth 100000 in
theorem k_X11_auto (l : Launch) (hfl : l.stackTraces = false) (G : GC) (a : AS) (T : TS) (F : FS) (U : US) (S : SS) (D : DS) (R : RS) (M : MS) (N : NS) (P : PS) (hlk : lkA a D.1.toNatClampNeg D.2.1.toNatClampNeg) (p1 : Int32) (k9 : Int32) (r9 : Int32) (T9 : TS) (P9 : PS) (hm : f_X11_auto T D P p1 = some (k9, r9, T9, P9)) (sz : Nat) : vx_Met l yX11_auto (Cond.code yX11_auto cX11_auto 4 (some .int) :: W0) ({ frames := 204, cells := 3, slots := 18, locals := 5291 }) (va_Pc [.ref (a.1 0), .int p1] (WD G (wC G a T F U S D R M N P) sz)) (va_Qi (S := Unit) (fun r _ => k9 = 0 ∧ r = r9) (fun _ t => PW G (va_A (wC G a T F U S D R M N P) sz) (wC G a T9 F U S D R M N P9) t) (va_A (wC G a T F U S D R M N P) sz)) (vx_X (fun _ : Unit => True) (fun (E : String) (_ : Unit) (t : State) => xnm k9 = some E ∧ PW G (va_A (wC G a T F U S D R M N P) sz) (wC G a T9 F U S D R M N P9) t) (va_A (wC G a T F U S D R M N P) sz)) 3 18 (va_A (wC G a T F U S D R M N P) sz) := by
  rw [f_X11_auto] at hm
  refine vx_ofW (cc := cX11_auto) (maxL := 4) (ret := (some .int)) (by decide) rfl ?_
  intro p e s m args below meth c s₁ B hml hout0 hv
  obtain ⟨rfl, hsz, hP, hK, hD0, hE⟩ := hv
  have hx := B.exec
  have hb := B.bytes
  have hr := B.returns
  have hts := w0_tail B.pre
  have hown : s.vm.findClass RX11 = some m.cls := findClass_of_methodNamed B.named
  have hlocks := B.notSynchronized
  have hD := hD0.self (sz := sz)
  obtain ⟨A, hAe⟩ : ∃ A, (va_A (wC G a T F U S D R M N P) sz) = A := ⟨_, rfl⟩
  rw [hAe] at hD hE
  have hA : ∀ q : Nat, s.heap.size ≤ q → A q := fun q h => by rw [← hAe]; exact Or.inr (by rw [← hsz]; exact h)
  have hS : va_S A s.heap s.heap [] := va_S.rf
  obtain ⟨H, hHe⟩ : ∃ H : Heap, H = s.heap := ⟨_, rfl⟩
  have hP : va_P (DG G) clP3 (wC G a T F U S D R M N P) H := by rw [hHe]; exact hP
  have hS : va_S A s.heap H [] := by rw [hHe]; exact hS
  have hl := lv_entry ([.ref (a.1 0), .int p1]) (n := 4) (Nat.le_of_ble_eq_true rfl)
  rw [lg_entry_eq, ← hHe]
  generalize (lg_sl ([.ref (a.1 0), .int p1]) ++ List.replicate (4 - (lg_sl ([.ref (a.1 0), .int p1])).length) Slot.unset).toArray = ls at hl ⊢
  have hl : lv_has ls 4 [(0, .ref (a.1 0)), (1, .int p1)] := hl
  refine lv_aload_n hx hb dX11_auto_0 rfl (lv_at hl 0 rfl) ?_
  refine lv_iload_n hx hb dX11_auto_1 rfl (lv_at hl 1 rfl) ?_
  obtain ⟨q_1, hq_1, hm⟩ := bind_some hm
  have hFc := free_all hD hS hA
  refine vx_callq (vx_runV (As := [.int p1]) (rest := []) ⟨hx, hb, hml, hown, hts⟩ (k_X11_goalAt l hfl G a T F U S D R M N P hlk p1  q_1.1 q_1.2 hq_1 H.size) (cwV 1 hts (gV wm956 wm958 ws_p12 wm1 wm959) rfl rfl rfl (by decide +kernel) ⟨Nat.le_of_ble_eq_true rfl, Nat.le_of_ble_eq_true rfl⟩) (pre_v (pre_w hK hP hD hS hE hFc) (va_recv hK hP (ci := 10) (q0 := 0) rfl rfl)) rfl rfl hl.1 rfl (lv_room (Nat.le_of_ble_eq_true rfl)) dX11_auto_2 ⟨Nat.le_of_ble_eq_true rfl, Nat.le_of_ble_eq_true rfl⟩) hS (fun q _ h => hFc q h) hFc (fun q _ h => hFc q h) (fun E ce q9 u_2 t H locs ht hvm hpx hBX hz1 hk1 hS hce hv9 hcl => ?_) (fun r u_2 t H locs ht hvm hw hB hz1 hk1 hS => ?_)
  · have hne : ¬ q_1.1 = 0 := xnm_ne hBX.1
    rw [if_neg hne] at hm
    have hX9 := hBX.1
    have hB := hBX.2
    have hP : va_P (DG G) clP3 (wC G a T F U S D R M N P) H := by rw [← ht]; exact hB.1
    have hD : va_D A (wC G a T F U S D R M N P) := hB.2.weaken (fun _ p _ h => hFc p.1 h)
    simp only [Option.some.injEq, Prod.mk.injEq] at hm
    obtain ⟨rfl, rfl, rfl, rfl⟩ := hm
    subst hAe
    exact vx_out (fun x hx => (hout0 x hx).elim) hlocks hce hv9 hcl (fun t2 ht2 _ => ⟨(), trivial, ⟨hX9, by rw [ht2]; exact hP, hD⟩, hS.F ht2⟩) hS.2.2 (Nat.le_of_ble_eq_true rfl) (Nat.le_of_ble_eq_true rfl)
  · rw [if_pos hw.1] at hm
    rw [show r = rfG a q_1.2 from hw.2]
    have hP : va_P (DG G) clP3 (wC G a T F U S D R M N P) H := by rw [← ht]; exact hB.1
    have hD : va_D A (wC G a T F U S D R M N P) := hB.2.weaken (fun _ p _ h => hFc p.1 h)
    refine W.widen (k := 1) (n := 6) (Nat.le_of_ble_eq_true rfl) (Nat.le_of_ble_eq_true rfl) ?_
    obtain ⟨g_3, hm⟩ := ite_some hm
    rw [rfG_pos g_3]
    refine W.eq (g2 := F0 m 5 ls [.ref (a.2.2.1 (Int32.toNatClampNeg q_1.2) 0)]) rfl ?_
    refine lv_astore_n (lv' := [(2, .ref (a.2.2.1 (Int32.toNatClampNeg q_1.2) 0)), (0, .ref (a.1 0)), (1, .int p1)]) hx hb dX11_auto_5 rfl hl (by decide) rfl (fun ls hl => ?_)
    refine lv_aload_n hx hb dX11_auto_6 rfl (lv_at hl 0 rfl) ?_
    obtain ⟨q_4, hq_4, hm⟩ := bind_some hm
    have hFc := free_all hD hS hA
    refine vx_callv (vx_runS (As := [.ref (a.2.2.1 (Int32.toNatClampNeg q_1.2) 0)]) (rest := []) ⟨hx, hb, hml, hown, hts⟩ (k_X11_needOpen l hfl G a T F U S D R M N P hlk q_1.2 g_3 q_4 hq_4 H.size) (cwS 1 hts (gS wm1026 wm1027 wm1 wm1028) rfl rfl rfl (by decide +kernel) ⟨Nat.le_of_ble_eq_true rfl, Nat.le_of_ble_eq_true rfl⟩) (pre_w hK hP hD hS hE hFc) rfl rfl hl.1 rfl (lv_room (Nat.le_of_ble_eq_true rfl)) dX11_auto_7 ⟨Nat.le_of_ble_eq_true rfl, Nat.le_of_ble_eq_true rfl⟩) hS (fun q _ h => hFc q h) hFc (fun q _ h => hFc q h) (fun E ce q9 u_5 t H locs ht hvm hpx hBX hz1 hk1 hS hce hv9 hcl => ?_) (fun u_5 t H locs ht hvm hw hB hz1 hk1 hS => ?_)
    · have hne : ¬ q_4 = 0 := xnm_ne hBX.1
      rw [if_neg hne] at hm
      have hX9 := hBX.1
      have hB := hBX.2
      have hP : va_P (DG G) clP3 (wC G a T F U S D R M N P) H := by rw [← ht]; exact hB.1
      have hD : va_D A (wC G a T F U S D R M N P) := hB.2.weaken (fun _ p _ h => hFc p.1 h)
      simp only [Option.some.injEq, Prod.mk.injEq] at hm
      obtain ⟨rfl, rfl, rfl, rfl⟩ := hm
      subst hAe
      exact vx_out (fun x hx => (hout0 x hx).elim) hlocks hce hv9 hcl (fun t2 ht2 _ => ⟨(), trivial, ⟨hX9, by rw [ht2]; exact hP, hD⟩, hS.F ht2⟩) hS.2.2 (Nat.le_of_ble_eq_true rfl) (Nat.le_of_ble_eq_true rfl)
    · rw [if_pos hw] at hm
      have hP : va_P (DG G) clP3 (wC G a T F U S D R M N P) H := by rw [← ht]; exact hB.1
      have hD : va_D A (wC G a T F U S D R M N P) := hB.2.weaken (fun _ p _ h => hFc p.1 h)
      refine W.widen (k := 2) (n := 12) (Nat.le_of_ble_eq_true rfl) (Nat.le_of_ble_eq_true rfl) ?_
      refine lv_aload_n hx hb dX11_auto_10 rfl (lv_at hl 1 rfl) ?_
      refine va_get (D := DG G) (ci := 10) (v := .ref (a.1 21)) (C := RX11) (T := TX11) (N := 10) hx hb hts inW_X11 hown hK hP 0 rfl rfl 3 (by decide) (hts _ wm287) (fun _ h9 => h9) rfl dX11_auto_11 ?_
      refine lv_aload_n hx hb dX11_auto_14 rfl (lv_at hl 0 rfl) ?_
      obtain ⟨q_6, hq_6, hm⟩ := bind_some hm
      have hFc := free_all hD hS hA
      refine va_calli (va_runV (As := [.ref (a.2.2.1 (Int32.toNatClampNeg q_1.2) 0)]) (rest := []) ⟨hx, hb, hml, hown, hts⟩ (k_X0_innermostThatFits l hfl G a T F U S D R M N P hlk q_1.2 g_3 q_6.1 q_6.2 hq_6 H.size) (cwV 1 hts (gV wm1047 wm1048 wm1049 wm5 wm1050) rfl rfl rfl (by decide +kernel) ⟨Nat.le_of_ble_eq_true rfl, Nat.le_of_ble_eq_true rfl⟩) (pre_v (pre_w hK hP hD hS hE hFc) (va_recv hK hP (ci := 0) (q0 := 21) rfl rfl)) rfl rfl hl.1 rfl (lv_room (Nat.le_of_ble_eq_true rfl)) dX11_auto_15 ⟨Nat.le_of_ble_eq_true rfl, Nat.le_of_ble_eq_true rfl⟩) hS (fun q _ h => hFc q h) hFc (fun r u t H locs ht hvm hw hB hz1 hk1 hS => ?_)
      rw [show r = q_6.1 from hw]
      have hP : va_P (DG G) clP3 (wC G a q_6.2 F U S D R M N P) H := by rw [← ht]; exact hB.1
      have hD : va_D A (wC G a q_6.2 F U S D R M N P) := hB.2.weaken (fun _ p _ h => hFc p.1 h)
      clear hB hFc hw hk1
      refine W.widen (k := 2) (n := 12) (Nat.le_of_ble_eq_true rfl) (Nat.le_of_ble_eq_true rfl) ?_
      refine lv_istore_n (lv' := [(3, .int q_6.1), (2, .ref (a.2.2.1 (Int32.toNatClampNeg q_1.2) 0)), (0, .ref (a.1 0)), (1, .int p1)]) hx hb dX11_auto_18 rfl hl (by decide) rfl (fun ls hl => ?_)
      refine lv_iload_n hx hb dX11_auto_19 rfl (lv_at hl 0 rfl) ?_
      refine lv_iconst (v := (-1)) hx hb dX11_auto_20 (by decide) ?_
      refine lv_icmp_ne (tgt := 34) hx hb dX11_auto_21 (by decide) (fun c_7 => ?_) (fun c_7 => ?_)
      · rw [if_neg c_7] at hm
        refine lv_aload_n hx hb dX11_auto_34 rfl (lv_at hl 1 rfl) ?_
        refine lv_aload_n hx hb dX11_auto_35 rfl (lv_at hl 2 rfl) ?_
        refine va_get (D := DG G) (ci := 10) (v := .ref (a.1 1)) (C := RX11) (T := TX11) (N := 10) hx hb hts inW_X11 hown hK hP 0 rfl rfl 0 (by decide) (hts _ wm284) (fun _ h9 => h9) rfl dX11_auto_36 ?_
        refine lv_iconst (v := 1) hx hb dX11_auto_39 (by decide) ?_
        refine lv_aload_n hx hb dX11_auto_40 rfl (lv_at hl 1 rfl) ?_
        refine va_getN (D := DG G) (ci := 3) (v := .ref (a.2.2.1 (Int32.toNatClampNeg q_1.2) 1)) (C := RX3) (T := TX3) (N := 8) hx hb hts inW_X3 hown hK hP _ ((at_goalC (c := 0) (gix_lt g_3) (by decide)).trans rfl) rfl 1 (by decide) (va_Nw.use rfl (hE.1 _ nw911)) (fun _ h9 => h9) rfl dX11_auto_41 ?_
        refine va_getN (D := DG G) (ci := 7) (v := .int (P.2.2.2.2.2.2.2.2.2.2.1 (Int32.toNatClampNeg q_1.2))) (C := RX8) (T := TX8) (N := 2) hx hb hts inW_X8 hown hK hP _ ((at_goalC (c := 1) (gix_lt g_3) (by decide)).trans rfl) rfl 1 (by decide) (va_Nw.use rfl (hE.1 _ nw189)) (fun _ h9 => h9) rfl dX11_auto_44 ?_
        refine lv_iconst (v := 1) hx hb dX11_auto_47 (by decide) ?_
        refine lv_isub hx hb dX11_auto_48 ?_
        refine lv_iload_n hx hb dX11_auto_49 rfl (lv_at hl 0 rfl) ?_
        refine lv_isub hx hb dX11_auto_50 ?_
        obtain ⟨q_8, hq_8, hm⟩ := bind_some hm
        have hFc := free_all hD hS hA
        refine va_calli (va_runV (As := [.int 1, .int (((P.2.2.2.2.2.2.2.2.2.2.1 (Int32.toNatClampNeg q_1.2)) - (1 : Int32)) - q_6.1)]) (rest := [.ref (a.2.2.1 (Int32.toNatClampNeg q_1.2) 0)]) ⟨hx, hb, hml, hown, hts⟩ (K_X9_leaf l hfl G a q_6.2 F U S D R M N P 1 (((P.2.2.2.2.2.2.2.2.2.2.1 (Int32.toNatClampNeg q_1.2)) - (1 : Int32)) - q_6.1)  q_8.1 q_8.2 hq_8 H.size) (cwV 2 hts (gV wm685 wm439 wm440 wm2 wm441) rfl rfl rfl (by decide +kernel) ⟨Nat.le_of_ble_eq_true rfl, Nat.le_of_ble_eq_true rfl⟩) (pre_v (pre_w hK hP hD hS hE hFc) (va_recv hK hP (ci := 8) (q0 := 1) rfl rfl)) rfl rfl hl.1 rfl (lv_room (Nat.le_of_ble_eq_true rfl)) dX11_auto_51 ⟨Nat.le_of_ble_eq_true rfl, Nat.le_of_ble_eq_true rfl⟩) hS (fun q _ h => hFc q h) hFc (fun r u t H locs ht hvm hw hB hz1 hk1 hS => ?_)
        rw [show r = q_8.1 from hw]
        have hP : va_P (DG G) clP3 (wC G a q_8.2 F U S D R M N P) H := by rw [← ht]; exact hB.1
        have hD : va_D A (wC G a q_8.2 F U S D R M N P) := hB.2.weaken (fun _ p _ h => hFc p.1 h)
        clear hB hFc hw hk1
        refine W.widen (k := 2) (n := 12) (Nat.le_of_ble_eq_true rfl) (Nat.le_of_ble_eq_true rfl) ?_
        obtain ⟨q_9, hq_9, hm⟩ := bind_some hm
        have hFc := free_all hD hS hA
        refine va_callv (va_runV (As := [.int q_8.1]) (rest := []) ⟨hx, hb, hml, hown, hts⟩ (K_X3_fillWith l hfl G a q_8.2 F U S D R M N P q_1.2 q_8.1 g_3 q_9 hq_9 H.size) (cwV 1 hts (gV wm1035 wm1036 wm1037 wm23 wm1038) rfl rfl rfl (by decide +kernel) ⟨Nat.le_of_ble_eq_true rfl, Nat.le_of_ble_eq_true rfl⟩) (pre_v (pre_w hK hP hD hS hE hFc) (va_recv hK hP (ci := 3) (q0 := _) rfl ((at_goalC (c := 0) (gix_lt g_3) (by decide)).trans rfl))) rfl rfl hl.1 rfl (lv_room (Nat.le_of_ble_eq_true rfl)) dX11_auto_54 ⟨Nat.le_of_ble_eq_true rfl, Nat.le_of_ble_eq_true rfl⟩) hS (fun q _ h => hFc q h) hFc (fun u t H locs ht hvm hw hB hz1 hk1 hS => ?_)
        have hP : va_P (DG G) clP3 (wC G a q_8.2 F U S D R M N q_9) H := by rw [← ht]; exact hB.1
        have hD : va_D A (wC G a q_8.2 F U S D R M N q_9) := hB.2.weaken (fun _ p _ h => hFc p.1 h)
        clear hB hFc hk1
        refine W.widen (k := 2) (n := 12) (Nat.le_of_ble_eq_true rfl) (Nat.le_of_ble_eq_true rfl) ?_
        refine lv_iload_n hx hb dX11_auto_57 rfl (lv_at hl 0 rfl) ?_
        simp only [Option.some.injEq, Prod.mk.injEq] at hm
        obtain ⟨rfl, rfl, rfl, rfl⟩ := hm
        subst hAe
        refine W.widen (k := 3) (n := 18) (Nat.le_of_ble_eq_true rfl) (Nat.le_of_ble_eq_true rfl) ?_
        exact vx_ret (W.iret (v := q_6.1) hx hb hr (fun t ht hW => ⟨⟨q_6.1, (), rfl, ⟨rfl, rfl⟩, ⟨by rw [ht]; exact hP, hD⟩⟩, hS.F ht⟩) hS.2.2 dX11_auto_58 hlocks)
      · rw [if_pos c_7] at hm
        simp only [Option.some.injEq, Prod.mk.injEq] at hm
        obtain ⟨rfl, rfl, rfl, rfl⟩ := hm
        subst hAe
        obtain ⟨sa, hsa⟩ := hE.2.1 _ stm21
        exact vx_throwS (names := ["java/lang/RuntimeException", "java/lang/Exception"]) (A := _) (free := _) hx hb hfl hown (by decide +kernel) (by decide +kernel) (hts _ wm819) (hts _ wm21) hsa (xX11_162_hat hts hE) xX11_162_good (EV.un hE) (EV.su hE) hS (hl.1.trans hml.symm) dX11_auto_24 dX11_auto_27 dX11_auto_28 dX11_auto_30 dX11_auto_33 (fun x hx => (hout0 x hx).elim) (Nat.le_of_ble_eq_true rfl) (Nat.le_of_ble_eq_true rfl) (Nat.le_of_ble_eq_true rfl) (Nat.le_of_ble_eq_true rfl) hlocks (fun t ha hz hk => ⟨(), trivial, ⟨rfl, va_Pgrow hP hk, hD⟩, xF hS hz hk⟩) hS.2.2 (Nat.le_of_ble_eq_true rfl) (Nat.le_of_ble_eq_true rfl)
def f_X11_reopen (T : TS) (D : DS) (P : PS) (p1 : Int32) : Option (Int32 × Int32 × PS) := (Option.bind (f_X11_goalAt D p1) (fun q_1 => (if q_1.1 = 0 then (if gix D q_1.2 = true then (if (P.2.2.2.2.2.1 (Int32.toNatClampNeg q_1.2)) = 102 then (Option.bind (f_X0_hasAccepted D (P.2.2.2.1 (Int32.toNatClampNeg q_1.2))) (fun q_5 => (if q_5 = 0 then (Option.bind (g_X9_sizeOf T (P.2.2.2.2.2.2.1 (Int32.toNatClampNeg q_1.2))) (fun q_7 => (Option.bind (g_X3_open P q_1.2) (fun q_8 => some (0, q_7, q_8))))) else some (2, 0, P)))) else some (2, 0, P)) else none) else some (q_1.1, 0, P))))
set_option maxHeartbeats 2000000 in
set_option maxRecDepth 100000 in
theorem k_X11_reopen (l : Launch) (hfl : l.stackTraces = false) (G : GC) (a : AS) (T : TS) (F : FS) (U : US) (S : SS) (D : DS) (R : RS) (M : MS) (N : NS) (P : PS) (hlk : lkA a D.1.toNatClampNeg D.2.1.toNatClampNeg) (p1 : Int32) (k9 : Int32) (r9 : Int32) (P9 : PS) (hm : f_X11_reopen T D P p1 = some (k9, r9, P9)) (sz : Nat) : vx_Met l yX11_reopen (Cond.code yX11_reopen cX11_reopen 4 (some .int) :: W0) ({ frames := 7, cells := 2, slots := 12, locals := 104 }) (va_Pc [.ref (a.1 0), .int p1] (WD G (wC G a T F U S D R M N P) sz)) (va_Qi (S := Unit) (fun r _ => k9 = 0 ∧ r = r9) (fun _ t => PW G (va_A (wC G a T F U S D R M N P) sz) (wC G a T F U S D R M N P9) t) (va_A (wC G a T F U S D R M N P) sz)) (vx_X (fun _ : Unit => True) (fun (E : String) (_ : Unit) (t : State) => xnm k9 = some E ∧ PW G (va_A (wC G a T F U S D R M N P) sz) (wC G a T F U S D R M N P9) t) (va_A (wC G a T F U S D R M N P) sz)) 2 12 (va_A (wC G a T F U S D R M N P) sz) := by
  rw [f_X11_reopen] at hm
  refine vx_ofW (cc := cX11_reopen) (maxL := 4) (ret := (some .int)) (by decide) rfl ?_
  intro p e s m args below meth c s₁ B hml hout0 hv
  obtain ⟨rfl, hsz, hP, hK, hD0, hE⟩ := hv
  have hx := B.exec
  have hb := B.bytes
  have hr := B.returns
  have hts := w0_tail B.pre
  have hown : s.vm.findClass RX11 = some m.cls := findClass_of_methodNamed B.named
  have hlocks := B.notSynchronized
  have hD := hD0.self (sz := sz)
  obtain ⟨A, hAe⟩ : ∃ A, (va_A (wC G a T F U S D R M N P) sz) = A := ⟨_, rfl⟩
  rw [hAe] at hD hE
  have hA : ∀ q : Nat, s.heap.size ≤ q → A q := fun q h => by rw [← hAe]; exact Or.inr (by rw [← hsz]; exact h)
  have hS : va_S A s.heap s.heap [] := va_S.rf
  obtain ⟨H, hHe⟩ : ∃ H : Heap, H = s.heap := ⟨_, rfl⟩
  have hP : va_P (DG G) clP3 (wC G a T F U S D R M N P) H := by rw [hHe]; exact hP
  have hS : va_S A s.heap H [] := by rw [hHe]; exact hS
  have hl := lv_entry ([.ref (a.1 0), .int p1]) (n := 4) (Nat.le_of_ble_eq_true rfl)
  rw [lg_entry_eq, ← hHe]
  generalize (lg_sl ([.ref (a.1 0), .int p1]) ++ List.replicate (4 - (lg_sl ([.ref (a.1 0), .int p1])).length) Slot.unset).toArray = ls at hl ⊢
  have hl : lv_has ls 4 [(0, .ref (a.1 0)), (1, .int p1)] := hl
  refine lv_aload_n hx hb dX11_reopen_0 rfl (lv_at hl 0 rfl) ?_
  refine lv_iload_n hx hb dX11_reopen_1 rfl (lv_at hl 1 rfl) ?_
  obtain ⟨q_1, hq_1, hm⟩ := bind_some hm
  have hFc := free_all hD hS hA
  refine vx_callq (vx_runV (As := [.int p1]) (rest := []) ⟨hx, hb, hml, hown, hts⟩ (k_X11_goalAt l hfl G a T F U S D R M N P hlk p1  q_1.1 q_1.2 hq_1 H.size) (cwV 1 hts (gV wm956 wm958 ws_p12 wm1 wm959) rfl rfl rfl (by decide +kernel) ⟨Nat.le_of_ble_eq_true rfl, Nat.le_of_ble_eq_true rfl⟩) (pre_v (pre_w hK hP hD hS hE hFc) (va_recv hK hP (ci := 10) (q0 := 0) rfl rfl)) rfl rfl hl.1 rfl (lv_room (Nat.le_of_ble_eq_true rfl)) dX11_reopen_2 ⟨Nat.le_of_ble_eq_true rfl, Nat.le_of_ble_eq_true rfl⟩) hS (fun q _ h => hFc q h) hFc (fun q _ h => hFc q h) (fun E ce q9 u_2 t H locs ht hvm hpx hBX hz1 hk1 hS hce hv9 hcl => ?_) (fun r u_2 t H locs ht hvm hw hB hz1 hk1 hS => ?_)
  · have hne : ¬ q_1.1 = 0 := xnm_ne hBX.1
    rw [if_neg hne] at hm
    have hX9 := hBX.1
    have hB := hBX.2
    have hP : va_P (DG G) clP3 (wC G a T F U S D R M N P) H := by rw [← ht]; exact hB.1
    have hD : va_D A (wC G a T F U S D R M N P) := hB.2.weaken (fun _ p _ h => hFc p.1 h)
    simp only [Option.some.injEq, Prod.mk.injEq] at hm
    obtain ⟨rfl, rfl, rfl⟩ := hm
    subst hAe
    exact vx_out (fun x hx => (hout0 x hx).elim) hlocks hce hv9 hcl (fun t2 ht2 _ => ⟨(), trivial, ⟨hX9, by rw [ht2]; exact hP, hD⟩, hS.F ht2⟩) hS.2.2 (Nat.le_of_ble_eq_true rfl) (Nat.le_of_ble_eq_true rfl)
  · rw [if_pos hw.1] at hm
    rw [show r = rfG a q_1.2 from hw.2]
    have hP : va_P (DG G) clP3 (wC G a T F U S D R M N P) H := by rw [← ht]; exact hB.1
    have hD : va_D A (wC G a T F U S D R M N P) := hB.2.weaken (fun _ p _ h => hFc p.1 h)
    refine W.widen (k := 1) (n := 6) (Nat.le_of_ble_eq_true rfl) (Nat.le_of_ble_eq_true rfl) ?_
    obtain ⟨g_3, hm⟩ := ite_some hm
    rw [rfG_pos g_3]
    refine W.eq (g2 := F0 m 5 ls [.ref (a.2.2.1 (Int32.toNatClampNeg q_1.2) 0)]) rfl ?_
    refine lv_astore_n (lv' := [(2, .ref (a.2.2.1 (Int32.toNatClampNeg q_1.2) 0)), (0, .ref (a.1 0)), (1, .int p1)]) hx hb dX11_reopen_5 rfl hl (by decide) rfl (fun ls hl => ?_)
    refine lv_aload_n hx hb dX11_reopen_6 rfl (lv_at hl 0 rfl) ?_
    refine va_getN (D := DG G) (ci := 3) (v := .int (P.2.2.2.2.2.1 (Int32.toNatClampNeg q_1.2))) (C := RX3) (T := TX3) (N := 8) hx hb hts inW_X3 hown hK hP _ ((at_goalC (c := 0) (gix_lt g_3) (by decide)).trans rfl) rfl 4 (by decide) (va_Nw.use rfl (hE.1 _ nw923)) (fun _ h9 => h9) rfl dX11_reopen_7 ?_
    refine lv_bipush (v := 102) hx hb dX11_reopen_10 (by decide) ?_
    refine lv_icmp_ne (tgt := 29) hx hb dX11_reopen_12 (by decide) (fun c_4 => ?_) (fun c_4 => ?_)
    · rw [if_neg c_4] at hm
      simp only [Option.some.injEq, Prod.mk.injEq] at hm
      obtain ⟨rfl, rfl, rfl⟩ := hm
      subst hAe
      obtain ⟨sa, hsa⟩ := hE.2.1 _ stm22
      exact vx_throwSW (names := ["java/lang/RuntimeException", "java/lang/Exception"]) (A := _) (free := _) hx hb hfl hown (by decide +kernel) (by decide +kernel) (hts _ wm669) (hts _ wm14) hsa (xX11_113_hat hts hE) xX11_113_good (EV.un hE) (EV.su hE) hS (hl.1.trans hml.symm) dX11_reopen_29 dX11_reopen_32 dX11_reopen_33 dX11_reopen_36 dX11_reopen_39 (fun x hx => (hout0 x hx).elim) (Nat.le_of_ble_eq_true rfl) (Nat.le_of_ble_eq_true rfl) (Nat.le_of_ble_eq_true rfl) (Nat.le_of_ble_eq_true rfl) hlocks (fun t ha hz hk => ⟨(), trivial, ⟨rfl, va_Pgrow hP hk, hD⟩, xF hS hz hk⟩) hS.2.2 (Nat.le_of_ble_eq_true rfl) (Nat.le_of_ble_eq_true rfl)
    · rw [if_pos c_4] at hm
      refine lv_aload_n hx hb dX11_reopen_15 rfl (lv_at hl 1 rfl) ?_
      refine va_get (D := DG G) (ci := 10) (v := .ref (a.1 21)) (C := RX11) (T := TX11) (N := 10) hx hb hts inW_X11 hown hK hP 0 rfl rfl 3 (by decide) (hts _ wm287) (fun _ h9 => h9) rfl dX11_reopen_16 ?_
      refine lv_aload_n hx hb dX11_reopen_19 rfl (lv_at hl 0 rfl) ?_
      refine va_getN (D := DG G) (ci := 3) (v := .int (P.2.2.2.1 (Int32.toNatClampNeg q_1.2))) (C := RX3) (T := TX3) (N := 8) hx hb hts inW_X3 hown hK hP _ ((at_goalC (c := 0) (gix_lt g_3) (by decide)).trans rfl) rfl 0 (by decide) (va_Nw.use rfl (hE.1 _ nw907)) (fun _ h9 => h9) rfl dX11_reopen_20 ?_
      obtain ⟨q_5, hq_5, hm⟩ := bind_some hm
      have hFc := free_all hD hS hA
      refine va_calli (va_runV (As := [.int (P.2.2.2.1 (Int32.toNatClampNeg q_1.2))]) (rest := []) ⟨hx, hb, hml, hown, hts⟩ (k_X0_hasAccepted l hfl G a T F U S D R M N P hlk (P.2.2.2.1 (Int32.toNatClampNeg q_1.2))  q_5 hq_5 H.size) (cwV 1 hts (gV wm592 wm593 wm594 wm5 wm595) rfl rfl rfl (by decide +kernel) ⟨Nat.le_of_ble_eq_true rfl, Nat.le_of_ble_eq_true rfl⟩) (pre_v (pre_w hK hP hD hS hE hFc) (va_recv hK hP (ci := 0) (q0 := 21) rfl rfl)) rfl rfl hl.1 rfl (lv_room (Nat.le_of_ble_eq_true rfl)) dX11_reopen_23 ⟨Nat.le_of_ble_eq_true rfl, Nat.le_of_ble_eq_true rfl⟩) hS (fun q _ h => hFc q h) hFc (fun r u t H locs ht hvm hw hB hz1 hk1 hS => ?_)
      rw [show r = q_5 from hw]
      have hP : va_P (DG G) clP3 (wC G a T F U S D R M N P) H := by rw [← ht]; exact hB.1
      have hD : va_D A (wC G a T F U S D R M N P) := hB.2.weaken (fun _ p _ h => hFc p.1 h)
      clear hB hFc hw hk1
      refine W.widen (k := 1) (n := 6) (Nat.le_of_ble_eq_true rfl) (Nat.le_of_ble_eq_true rfl) ?_
      refine lv_if_eq (tgt := 40) hx hb dX11_reopen_26 (by decide) (fun c_6 => ?_) (fun c_6 => ?_)
      · rw [if_pos c_6] at hm
        refine lv_aload_n hx hb dX11_reopen_40 rfl (lv_at hl 1 rfl) ?_
        refine va_get (D := DG G) (ci := 10) (v := .ref (a.1 1)) (C := RX11) (T := TX11) (N := 10) hx hb hts inW_X11 hown hK hP 0 rfl rfl 0 (by decide) (hts _ wm284) (fun _ h9 => h9) rfl dX11_reopen_41 ?_
        refine lv_aload_n hx hb dX11_reopen_44 rfl (lv_at hl 0 rfl) ?_
        refine va_getN (D := DG G) (ci := 3) (v := .int (P.2.2.2.2.2.2.1 (Int32.toNatClampNeg q_1.2))) (C := RX3) (T := TX3) (N := 8) hx hb hts inW_X3 hown hK hP _ ((at_goalC (c := 0) (gix_lt g_3) (by decide)).trans rfl) rfl 5 (by decide) (va_Nw.use rfl (hE.1 _ nw927)) (fun _ h9 => h9) rfl dX11_reopen_45 ?_
        obtain ⟨q_7, hq_7, hm⟩ := bind_some hm
        have hFc := free_all hD hS hA
        refine va_calli (va_runV (As := [.int (P.2.2.2.2.2.2.1 (Int32.toNatClampNeg q_1.2))]) (rest := []) ⟨hx, hb, hml, hown, hts⟩ (K_X9_sizeOf l hfl G a T F U S D R M N P (P.2.2.2.2.2.2.1 (Int32.toNatClampNeg q_1.2))  q_7 hq_7 H.size) (cwV 1 hts (gV wm394 wm395 wm396 wm2 wm397) rfl rfl rfl (by decide +kernel) ⟨Nat.le_of_ble_eq_true rfl, Nat.le_of_ble_eq_true rfl⟩) (pre_v (pre_w hK hP hD hS hE hFc) (va_recv hK hP (ci := 8) (q0 := 1) rfl rfl)) rfl rfl hl.1 rfl (lv_room (Nat.le_of_ble_eq_true rfl)) dX11_reopen_48 ⟨Nat.le_of_ble_eq_true rfl, Nat.le_of_ble_eq_true rfl⟩) hS (fun q _ h => hFc q h) hFc (fun r u t H locs ht hvm hw hB hz1 hk1 hS => ?_)
        rw [show r = q_7 from hw]
        have hP : va_P (DG G) clP3 (wC G a T F U S D R M N P) H := by rw [← ht]; exact hB.1
        have hD : va_D A (wC G a T F U S D R M N P) := hB.2.weaken (fun _ p _ h => hFc p.1 h)
        clear hB hFc hw hk1
        refine W.widen (k := 1) (n := 6) (Nat.le_of_ble_eq_true rfl) (Nat.le_of_ble_eq_true rfl) ?_
        refine lv_istore_n (lv' := [(3, .int q_7), (2, .ref (a.2.2.1 (Int32.toNatClampNeg q_1.2) 0)), (0, .ref (a.1 0)), (1, .int p1)]) hx hb dX11_reopen_51 rfl hl (by decide) rfl (fun ls hl => ?_)
        refine lv_aload_n hx hb dX11_reopen_52 rfl (lv_at hl 1 rfl) ?_
        obtain ⟨q_8, hq_8, hm⟩ := bind_some hm
        have hFc := free_all hD hS hA
        refine va_callv (va_runV (As := []) (rest := []) ⟨hx, hb, hml, hown, hts⟩ (K_X3_open l hfl G a T F U S D R M N P q_1.2 g_3 q_8 hq_8 H.size) (cwV 0 hts (gV wm1061 wm1062 wm1063 wm23 wm1064) rfl rfl rfl (by decide +kernel) ⟨Nat.le_of_ble_eq_true rfl, Nat.le_of_ble_eq_true rfl⟩) (pre_v (pre_w hK hP hD hS hE hFc) (va_recv hK hP (ci := 3) (q0 := _) rfl ((at_goalC (c := 0) (gix_lt g_3) (by decide)).trans rfl))) rfl rfl hl.1 rfl (lv_room (Nat.le_of_ble_eq_true rfl)) dX11_reopen_53 ⟨Nat.le_of_ble_eq_true rfl, Nat.le_of_ble_eq_true rfl⟩) hS (fun q _ h => hFc q h) hFc (fun u t H locs ht hvm hw hB hz1 hk1 hS => ?_)
        have hP : va_P (DG G) clP3 (wC G a T F U S D R M N q_8) H := by rw [← ht]; exact hB.1
        have hD : va_D A (wC G a T F U S D R M N q_8) := hB.2.weaken (fun _ p _ h => hFc p.1 h)
        clear hB hFc hk1
        refine W.widen (k := 1) (n := 6) (Nat.le_of_ble_eq_true rfl) (Nat.le_of_ble_eq_true rfl) ?_
        refine lv_iload_n hx hb dX11_reopen_56 rfl (lv_at hl 0 rfl) ?_
        simp only [Option.some.injEq, Prod.mk.injEq] at hm
        obtain ⟨rfl, rfl, rfl⟩ := hm
        subst hAe
        refine W.widen (k := 2) (n := 12) (Nat.le_of_ble_eq_true rfl) (Nat.le_of_ble_eq_true rfl) ?_
        exact vx_ret (W.iret (v := q_7) hx hb hr (fun t ht hW => ⟨⟨q_7, (), rfl, ⟨rfl, rfl⟩, ⟨by rw [ht]; exact hP, hD⟩⟩, hS.F ht⟩) hS.2.2 dX11_reopen_57 hlocks)
      · rw [if_neg c_6] at hm
        simp only [Option.some.injEq, Prod.mk.injEq] at hm
        obtain ⟨rfl, rfl, rfl⟩ := hm
        subst hAe
        obtain ⟨sa, hsa⟩ := hE.2.1 _ stm22
        exact vx_throwSW (names := ["java/lang/RuntimeException", "java/lang/Exception"]) (A := _) (free := _) hx hb hfl hown (by decide +kernel) (by decide +kernel) (hts _ wm669) (hts _ wm14) hsa (xX11_113_hat hts hE) xX11_113_good (EV.un hE) (EV.su hE) hS (hl.1.trans hml.symm) dX11_reopen_29 dX11_reopen_32 dX11_reopen_33 dX11_reopen_36 dX11_reopen_39 (fun x hx => (hout0 x hx).elim) (Nat.le_of_ble_eq_true rfl) (Nat.le_of_ble_eq_true rfl) (Nat.le_of_ble_eq_true rfl) (Nat.le_of_ble_eq_true rfl) hlocks (fun t ha hz hk => ⟨(), trivial, ⟨rfl, va_Pgrow hP hk, hD⟩, xF hS hz hk⟩) hS.2.2 (Nat.le_of_ble_eq_true rfl) (Nat.le_of_ble_eq_true rfl)
def f_X11_goalState (D : DS) (P : PS) (p1 : Int32) : Option (Int32 × Int32) := (Option.bind (f_X11_goalAt D p1) (fun q_1 => (if q_1.1 = 0 then (if gix D q_1.2 = true then (if chb (P.2.2.2.2.2.1 (Int32.toNatClampNeg q_1.2)) = true then some (0, (P.2.2.2.2.2.1 (Int32.toNatClampNeg q_1.2))) else none) else none) else some (q_1.1, 0))))
set_option maxHeartbeats 2000000 in
set_option maxRecDepth 100000 in
theorem k_X11_goalState (l : Launch) (hfl : l.stackTraces = false) (G : GC) (a : AS) (T : TS) (F : FS) (U : US) (S : SS) (D : DS) (R : RS) (M : MS) (N : NS) (P : PS) (hlk : lkA a D.1.toNatClampNeg D.2.1.toNatClampNeg) (p1 : Int32) (k9 : Int32) (r9 : Int32) (hm : f_X11_goalState D P p1 = some (k9, r9)) (sz : Nat) : vx_Met l yX11_goalState (Cond.code yX11_goalState cX11_goalState 2 (some .char) :: W0) ({ frames := 7, cells := 1, slots := 6, locals := 104 }) (va_Pc [.ref (a.1 0), .int p1] (WD G (wC G a T F U S D R M N P) sz)) (va_Qi (S := Unit) (fun r _ => k9 = 0 ∧ r = r9) (fun _ t => PW G (va_A (wC G a T F U S D R M N P) sz) (wC G a T F U S D R M N P) t) (va_A (wC G a T F U S D R M N P) sz)) (vx_X (fun _ : Unit => True) (fun (E : String) (_ : Unit) (t : State) => xnm k9 = some E ∧ PW G (va_A (wC G a T F U S D R M N P) sz) (wC G a T F U S D R M N P) t) (va_A (wC G a T F U S D R M N P) sz)) 1 6 (va_A (wC G a T F U S D R M N P) sz) := by
  rw [f_X11_goalState] at hm
  refine vx_ofW (cc := cX11_goalState) (maxL := 2) (ret := (some .char)) (by decide) rfl ?_
  intro p e s m args below meth c s₁ B hml hout0 hv
  obtain ⟨rfl, hsz, hP, hK, hD0, hE⟩ := hv
  have hx := B.exec
  have hb := B.bytes
  have hr := B.returns
  have hts := w0_tail B.pre
  have hown : s.vm.findClass RX11 = some m.cls := findClass_of_methodNamed B.named
  have hlocks := B.notSynchronized
  have hD := hD0.self (sz := sz)
  obtain ⟨A, hAe⟩ : ∃ A, (va_A (wC G a T F U S D R M N P) sz) = A := ⟨_, rfl⟩
  rw [hAe] at hD hE
  have hA : ∀ q : Nat, s.heap.size ≤ q → A q := fun q h => by rw [← hAe]; exact Or.inr (by rw [← hsz]; exact h)
  have hS : va_S A s.heap s.heap [] := va_S.rf
  obtain ⟨H, hHe⟩ : ∃ H : Heap, H = s.heap := ⟨_, rfl⟩
  have hP : va_P (DG G) clP3 (wC G a T F U S D R M N P) H := by rw [hHe]; exact hP
  have hS : va_S A s.heap H [] := by rw [hHe]; exact hS
  have hl := lv_entry ([.ref (a.1 0), .int p1]) (n := 2) (Nat.le_of_ble_eq_true rfl)
  rw [lg_entry_eq, ← hHe]
  generalize (lg_sl ([.ref (a.1 0), .int p1]) ++ List.replicate (2 - (lg_sl ([.ref (a.1 0), .int p1])).length) Slot.unset).toArray = ls at hl ⊢
  have hl : lv_has ls 2 [(0, .ref (a.1 0)), (1, .int p1)] := hl
  refine lv_aload_n hx hb dX11_goalState_0 rfl (lv_at hl 0 rfl) ?_
  refine lv_iload_n hx hb dX11_goalState_1 rfl (lv_at hl 1 rfl) ?_
  obtain ⟨q_1, hq_1, hm⟩ := bind_some hm
  have hFc := free_all hD hS hA
  refine vx_callq (vx_runV (As := [.int p1]) (rest := []) ⟨hx, hb, hml, hown, hts⟩ (k_X11_goalAt l hfl G a T F U S D R M N P hlk p1  q_1.1 q_1.2 hq_1 H.size) (cwV 1 hts (gV wm956 wm958 ws_p12 wm1 wm959) rfl rfl rfl (by decide +kernel) ⟨Nat.le_of_ble_eq_true rfl, Nat.le_of_ble_eq_true rfl⟩) (pre_v (pre_w hK hP hD hS hE hFc) (va_recv hK hP (ci := 10) (q0 := 0) rfl rfl)) rfl rfl hl.1 rfl (lv_room (Nat.le_of_ble_eq_true rfl)) dX11_goalState_2 ⟨Nat.le_of_ble_eq_true rfl, Nat.le_of_ble_eq_true rfl⟩) hS (fun q _ h => hFc q h) hFc (fun q _ h => hFc q h) (fun E ce q9 u_2 t H locs ht hvm hpx hBX hz1 hk1 hS hce hv9 hcl => ?_) (fun r u_2 t H locs ht hvm hw hB hz1 hk1 hS => ?_)
  · have hne : ¬ q_1.1 = 0 := xnm_ne hBX.1
    rw [if_neg hne] at hm
    have hX9 := hBX.1
    have hB := hBX.2
    have hP : va_P (DG G) clP3 (wC G a T F U S D R M N P) H := by rw [← ht]; exact hB.1
    have hD : va_D A (wC G a T F U S D R M N P) := hB.2.weaken (fun _ p _ h => hFc p.1 h)
    simp only [Option.some.injEq, Prod.mk.injEq] at hm
    obtain ⟨rfl, rfl⟩ := hm
    subst hAe
    exact vx_out (fun x hx => (hout0 x hx).elim) hlocks hce hv9 hcl (fun t2 ht2 _ => ⟨(), trivial, ⟨hX9, by rw [ht2]; exact hP, hD⟩, hS.F ht2⟩) hS.2.2 (Nat.le_of_ble_eq_true rfl) (Nat.le_of_ble_eq_true rfl)
  · rw [if_pos hw.1] at hm
    rw [show r = rfG a q_1.2 from hw.2]
    have hP : va_P (DG G) clP3 (wC G a T F U S D R M N P) H := by rw [← ht]; exact hB.1
    have hD : va_D A (wC G a T F U S D R M N P) := hB.2.weaken (fun _ p _ h => hFc p.1 h)
    refine W.widen (k := 1) (n := 6) (Nat.le_of_ble_eq_true rfl) (Nat.le_of_ble_eq_true rfl) ?_
    obtain ⟨g_3, hm⟩ := ite_some hm
    rw [rfG_pos g_3]
    refine W.eq (g2 := F0 m 5 ls [.ref (a.2.2.1 (Int32.toNatClampNeg q_1.2) 0)]) rfl ?_
    refine va_getN (D := DG G) (ci := 3) (v := .int (P.2.2.2.2.2.1 (Int32.toNatClampNeg q_1.2))) (C := RX3) (T := TX3) (N := 8) hx hb hts inW_X3 hown hK hP _ ((at_goalC (c := 0) (gix_lt g_3) (by decide)).trans rfl) rfl 4 (by decide) (va_Nw.use rfl (hE.1 _ nw923)) (fun _ h9 => h9) rfl dX11_goalState_5 ?_
    obtain ⟨n_4, hm⟩ := ite_some hm
    simp only [Option.some.injEq, Prod.mk.injEq] at hm
    obtain ⟨rfl, rfl⟩ := hm
    subst hAe
    refine W.widen (k := 1) (n := 6) (Nat.le_of_ble_eq_true rfl) (Nat.le_of_ble_eq_true rfl) ?_
    exact vx_ret (W.zret (v := (P.2.2.2.2.2.1 (Int32.toNatClampNeg q_1.2))) (ty := .char) hx hb hr (nar_char n_4) (fun t ht hW => ⟨⟨(P.2.2.2.2.2.1 (Int32.toNatClampNeg q_1.2)), (), rfl, ⟨rfl, rfl⟩, ⟨by rw [ht]; exact hP, hD⟩⟩, hS.F ht⟩) hS.2.2 dX11_goalState_8 hlocks)
def f_X11_contextSize (D : DS) (P : PS) (p1 : Int32) : Option (Int32 × Int32) := (Option.bind (f_X11_goalAt D p1) (fun q_1 => (if q_1.1 = 0 then (if gix D q_1.2 = true then some (0, (P.2.2.2.2.2.2.2.2.2.2.1 (Int32.toNatClampNeg q_1.2))) else none) else some (q_1.1, 0))))
set_option maxHeartbeats 2000000 in
set_option maxRecDepth 100000 in
theorem k_X11_contextSize (l : Launch) (hfl : l.stackTraces = false) (G : GC) (a : AS) (T : TS) (F : FS) (U : US) (S : SS) (D : DS) (R : RS) (M : MS) (N : NS) (P : PS) (hlk : lkA a D.1.toNatClampNeg D.2.1.toNatClampNeg) (p1 : Int32) (k9 : Int32) (r9 : Int32) (hm : f_X11_contextSize D P p1 = some (k9, r9)) (sz : Nat) : vx_Met l yX11_contextSize (Cond.code yX11_contextSize cX11_contextSize 2 (some .int) :: W0) ({ frames := 7, cells := 1, slots := 6, locals := 104 }) (va_Pc [.ref (a.1 0), .int p1] (WD G (wC G a T F U S D R M N P) sz)) (va_Qi (S := Unit) (fun r _ => k9 = 0 ∧ r = r9) (fun _ t => PW G (va_A (wC G a T F U S D R M N P) sz) (wC G a T F U S D R M N P) t) (va_A (wC G a T F U S D R M N P) sz)) (vx_X (fun _ : Unit => True) (fun (E : String) (_ : Unit) (t : State) => xnm k9 = some E ∧ PW G (va_A (wC G a T F U S D R M N P) sz) (wC G a T F U S D R M N P) t) (va_A (wC G a T F U S D R M N P) sz)) 1 6 (va_A (wC G a T F U S D R M N P) sz) := by
  rw [f_X11_contextSize] at hm
  refine vx_ofW (cc := cX11_contextSize) (maxL := 2) (ret := (some .int)) (by decide) rfl ?_
  intro p e s m args below meth c s₁ B hml hout0 hv
  obtain ⟨rfl, hsz, hP, hK, hD0, hE⟩ := hv
  have hx := B.exec
  have hb := B.bytes
  have hr := B.returns
  have hts := w0_tail B.pre
  have hown : s.vm.findClass RX11 = some m.cls := findClass_of_methodNamed B.named
  have hlocks := B.notSynchronized
  have hD := hD0.self (sz := sz)
  obtain ⟨A, hAe⟩ : ∃ A, (va_A (wC G a T F U S D R M N P) sz) = A := ⟨_, rfl⟩
  rw [hAe] at hD hE
  have hA : ∀ q : Nat, s.heap.size ≤ q → A q := fun q h => by rw [← hAe]; exact Or.inr (by rw [← hsz]; exact h)
  have hS : va_S A s.heap s.heap [] := va_S.rf
  obtain ⟨H, hHe⟩ : ∃ H : Heap, H = s.heap := ⟨_, rfl⟩
  have hP : va_P (DG G) clP3 (wC G a T F U S D R M N P) H := by rw [hHe]; exact hP
  have hS : va_S A s.heap H [] := by rw [hHe]; exact hS
  have hl := lv_entry ([.ref (a.1 0), .int p1]) (n := 2) (Nat.le_of_ble_eq_true rfl)
  rw [lg_entry_eq, ← hHe]
  generalize (lg_sl ([.ref (a.1 0), .int p1]) ++ List.replicate (2 - (lg_sl ([.ref (a.1 0), .int p1])).length) Slot.unset).toArray = ls at hl ⊢
  have hl : lv_has ls 2 [(0, .ref (a.1 0)), (1, .int p1)] := hl
  refine lv_aload_n hx hb dX11_contextSize_0 rfl (lv_at hl 0 rfl) ?_
  refine lv_iload_n hx hb dX11_contextSize_1 rfl (lv_at hl 1 rfl) ?_
  obtain ⟨q_1, hq_1, hm⟩ := bind_some hm
  have hFc := free_all hD hS hA
  refine vx_callq (vx_runV (As := [.int p1]) (rest := []) ⟨hx, hb, hml, hown, hts⟩ (k_X11_goalAt l hfl G a T F U S D R M N P hlk p1  q_1.1 q_1.2 hq_1 H.size) (cwV 1 hts (gV wm956 wm958 ws_p12 wm1 wm959) rfl rfl rfl (by decide +kernel) ⟨Nat.le_of_ble_eq_true rfl, Nat.le_of_ble_eq_true rfl⟩) (pre_v (pre_w hK hP hD hS hE hFc) (va_recv hK hP (ci := 10) (q0 := 0) rfl rfl)) rfl rfl hl.1 rfl (lv_room (Nat.le_of_ble_eq_true rfl)) dX11_contextSize_2 ⟨Nat.le_of_ble_eq_true rfl, Nat.le_of_ble_eq_true rfl⟩) hS (fun q _ h => hFc q h) hFc (fun q _ h => hFc q h) (fun E ce q9 u_2 t H locs ht hvm hpx hBX hz1 hk1 hS hce hv9 hcl => ?_) (fun r u_2 t H locs ht hvm hw hB hz1 hk1 hS => ?_)
  · have hne : ¬ q_1.1 = 0 := xnm_ne hBX.1
    rw [if_neg hne] at hm
    have hX9 := hBX.1
    have hB := hBX.2
    have hP : va_P (DG G) clP3 (wC G a T F U S D R M N P) H := by rw [← ht]; exact hB.1
    have hD : va_D A (wC G a T F U S D R M N P) := hB.2.weaken (fun _ p _ h => hFc p.1 h)
    simp only [Option.some.injEq, Prod.mk.injEq] at hm
    obtain ⟨rfl, rfl⟩ := hm
    subst hAe
    exact vx_out (fun x hx => (hout0 x hx).elim) hlocks hce hv9 hcl (fun t2 ht2 _ => ⟨(), trivial, ⟨hX9, by rw [ht2]; exact hP, hD⟩, hS.F ht2⟩) hS.2.2 (Nat.le_of_ble_eq_true rfl) (Nat.le_of_ble_eq_true rfl)
  · rw [if_pos hw.1] at hm
    rw [show r = rfG a q_1.2 from hw.2]
    have hP : va_P (DG G) clP3 (wC G a T F U S D R M N P) H := by rw [← ht]; exact hB.1
    have hD : va_D A (wC G a T F U S D R M N P) := hB.2.weaken (fun _ p _ h => hFc p.1 h)
    refine W.widen (k := 1) (n := 6) (Nat.le_of_ble_eq_true rfl) (Nat.le_of_ble_eq_true rfl) ?_
    obtain ⟨g_3, hm⟩ := ite_some hm
    rw [rfG_pos g_3]
    refine W.eq (g2 := F0 m 5 ls [.ref (a.2.2.1 (Int32.toNatClampNeg q_1.2) 0)]) rfl ?_
    refine va_getN (D := DG G) (ci := 3) (v := .ref (a.2.2.1 (Int32.toNatClampNeg q_1.2) 1)) (C := RX3) (T := TX3) (N := 8) hx hb hts inW_X3 hown hK hP _ ((at_goalC (c := 0) (gix_lt g_3) (by decide)).trans rfl) rfl 1 (by decide) (va_Nw.use rfl (hE.1 _ nw911)) (fun _ h9 => h9) rfl dX11_contextSize_5 ?_
    refine va_getN (D := DG G) (ci := 7) (v := .int (P.2.2.2.2.2.2.2.2.2.2.1 (Int32.toNatClampNeg q_1.2))) (C := RX8) (T := TX8) (N := 2) hx hb hts inW_X8 hown hK hP _ ((at_goalC (c := 1) (gix_lt g_3) (by decide)).trans rfl) rfl 1 (by decide) (va_Nw.use rfl (hE.1 _ nw189)) (fun _ h9 => h9) rfl dX11_contextSize_8 ?_
    simp only [Option.some.injEq, Prod.mk.injEq] at hm
    obtain ⟨rfl, rfl⟩ := hm
    subst hAe
    refine W.widen (k := 1) (n := 6) (Nat.le_of_ble_eq_true rfl) (Nat.le_of_ble_eq_true rfl) ?_
    exact vx_ret (W.iret (v := (P.2.2.2.2.2.2.2.2.2.2.1 (Int32.toNatClampNeg q_1.2))) hx hb hr (fun t ht hW => ⟨⟨(P.2.2.2.2.2.2.2.2.2.2.1 (Int32.toNatClampNeg q_1.2)), (), rfl, ⟨rfl, rfl⟩, ⟨by rw [ht]; exact hP, hD⟩⟩, hS.F ht⟩) hS.2.2 dX11_contextSize_11 hlocks)
def f_X11_contextType (T : TS) (D : DS) (P : PS) (p1 : Int32) (p2 : Int32) : Option (Int32 × Int32) := (Option.bind (f_X11_goalAt D p1) (fun q_1 => (if q_1.1 = 0 then (if gix D q_1.2 = true then (Option.bind (f_X11_needPlace D P q_1.2 p2) (fun q_4 => (if q_4 = 0 then (Option.bind (g_X8_typeAt_g P q_1.2 p2) (fun q_6 => (Option.bind (g_X9_numberOf T q_6) (fun q_7 => some (0, q_7))))) else some (q_4, 0)))) else none) else some (q_1.1, 0))))
set_option maxHeartbeats 2000000 in
set_option maxRecDepth 100000 in
theorem k_X11_contextType (l : Launch) (hfl : l.stackTraces = false) (G : GC) (a : AS) (T : TS) (F : FS) (U : US) (S : SS) (D : DS) (R : RS) (M : MS) (N : NS) (P : PS) (hlk : lkA a D.1.toNatClampNeg D.2.1.toNatClampNeg) (p1 : Int32) (p2 : Int32) (k9 : Int32) (r9 : Int32) (hm : f_X11_contextType T D P p1 p2 = some (k9, r9)) (sz : Nat) : vx_Met l yX11_contextType (Cond.code yX11_contextType cX11_contextType 4 (some .int) :: W0) ({ frames := 7, cells := 2, slots := 12, locals := 104 }) (va_Pc [.ref (a.1 0), .int p1, .int p2] (WD G (wC G a T F U S D R M N P) sz)) (va_Qi (S := Unit) (fun r _ => k9 = 0 ∧ r = r9) (fun _ t => PW G (va_A (wC G a T F U S D R M N P) sz) (wC G a T F U S D R M N P) t) (va_A (wC G a T F U S D R M N P) sz)) (vx_X (fun _ : Unit => True) (fun (E : String) (_ : Unit) (t : State) => xnm k9 = some E ∧ PW G (va_A (wC G a T F U S D R M N P) sz) (wC G a T F U S D R M N P) t) (va_A (wC G a T F U S D R M N P) sz)) 2 12 (va_A (wC G a T F U S D R M N P) sz) := by
  rw [f_X11_contextType] at hm
  refine vx_ofW (cc := cX11_contextType) (maxL := 4) (ret := (some .int)) (by decide) rfl ?_
  intro p e s m args below meth c s₁ B hml hout0 hv
  obtain ⟨rfl, hsz, hP, hK, hD0, hE⟩ := hv
  have hx := B.exec
  have hb := B.bytes
  have hr := B.returns
  have hts := w0_tail B.pre
  have hown : s.vm.findClass RX11 = some m.cls := findClass_of_methodNamed B.named
  have hlocks := B.notSynchronized
  have hD := hD0.self (sz := sz)
  obtain ⟨A, hAe⟩ : ∃ A, (va_A (wC G a T F U S D R M N P) sz) = A := ⟨_, rfl⟩
  rw [hAe] at hD hE
  have hA : ∀ q : Nat, s.heap.size ≤ q → A q := fun q h => by rw [← hAe]; exact Or.inr (by rw [← hsz]; exact h)
  have hS : va_S A s.heap s.heap [] := va_S.rf
  obtain ⟨H, hHe⟩ : ∃ H : Heap, H = s.heap := ⟨_, rfl⟩
  have hP : va_P (DG G) clP3 (wC G a T F U S D R M N P) H := by rw [hHe]; exact hP
  have hS : va_S A s.heap H [] := by rw [hHe]; exact hS
  have hl := lv_entry ([.ref (a.1 0), .int p1, .int p2]) (n := 4) (Nat.le_of_ble_eq_true rfl)
  rw [lg_entry_eq, ← hHe]
  generalize (lg_sl ([.ref (a.1 0), .int p1, .int p2]) ++ List.replicate (4 - (lg_sl ([.ref (a.1 0), .int p1, .int p2])).length) Slot.unset).toArray = ls at hl ⊢
  have hl : lv_has ls 4 [(0, .ref (a.1 0)), (1, .int p1), (2, .int p2)] := hl
  refine lv_aload_n hx hb dX11_contextType_0 rfl (lv_at hl 0 rfl) ?_
  refine lv_iload_n hx hb dX11_contextType_1 rfl (lv_at hl 1 rfl) ?_
  obtain ⟨q_1, hq_1, hm⟩ := bind_some hm
  have hFc := free_all hD hS hA
  refine vx_callq (vx_runV (As := [.int p1]) (rest := []) ⟨hx, hb, hml, hown, hts⟩ (k_X11_goalAt l hfl G a T F U S D R M N P hlk p1  q_1.1 q_1.2 hq_1 H.size) (cwV 1 hts (gV wm956 wm958 ws_p12 wm1 wm959) rfl rfl rfl (by decide +kernel) ⟨Nat.le_of_ble_eq_true rfl, Nat.le_of_ble_eq_true rfl⟩) (pre_v (pre_w hK hP hD hS hE hFc) (va_recv hK hP (ci := 10) (q0 := 0) rfl rfl)) rfl rfl hl.1 rfl (lv_room (Nat.le_of_ble_eq_true rfl)) dX11_contextType_2 ⟨Nat.le_of_ble_eq_true rfl, Nat.le_of_ble_eq_true rfl⟩) hS (fun q _ h => hFc q h) hFc (fun q _ h => hFc q h) (fun E ce q9 u_2 t H locs ht hvm hpx hBX hz1 hk1 hS hce hv9 hcl => ?_) (fun r u_2 t H locs ht hvm hw hB hz1 hk1 hS => ?_)
  · have hne : ¬ q_1.1 = 0 := xnm_ne hBX.1
    rw [if_neg hne] at hm
    have hX9 := hBX.1
    have hB := hBX.2
    have hP : va_P (DG G) clP3 (wC G a T F U S D R M N P) H := by rw [← ht]; exact hB.1
    have hD : va_D A (wC G a T F U S D R M N P) := hB.2.weaken (fun _ p _ h => hFc p.1 h)
    simp only [Option.some.injEq, Prod.mk.injEq] at hm
    obtain ⟨rfl, rfl⟩ := hm
    subst hAe
    exact vx_out (fun x hx => (hout0 x hx).elim) hlocks hce hv9 hcl (fun t2 ht2 _ => ⟨(), trivial, ⟨hX9, by rw [ht2]; exact hP, hD⟩, hS.F ht2⟩) hS.2.2 (Nat.le_of_ble_eq_true rfl) (Nat.le_of_ble_eq_true rfl)
  · rw [if_pos hw.1] at hm
    rw [show r = rfG a q_1.2 from hw.2]
    have hP : va_P (DG G) clP3 (wC G a T F U S D R M N P) H := by rw [← ht]; exact hB.1
    have hD : va_D A (wC G a T F U S D R M N P) := hB.2.weaken (fun _ p _ h => hFc p.1 h)
    refine W.widen (k := 1) (n := 6) (Nat.le_of_ble_eq_true rfl) (Nat.le_of_ble_eq_true rfl) ?_
    obtain ⟨g_3, hm⟩ := ite_some hm
    rw [rfG_pos g_3]
    refine W.eq (g2 := F0 m 5 ls [.ref (a.2.2.1 (Int32.toNatClampNeg q_1.2) 0)]) rfl ?_
    refine lv_astore_n (lv' := [(3, .ref (a.2.2.1 (Int32.toNatClampNeg q_1.2) 0)), (0, .ref (a.1 0)), (1, .int p1), (2, .int p2)]) hx hb dX11_contextType_5 rfl hl (by decide) rfl (fun ls hl => ?_)
    refine lv_aload_n hx hb dX11_contextType_6 rfl (lv_at hl 0 rfl) ?_
    refine lv_iload_n hx hb dX11_contextType_7 rfl (lv_at hl 3 rfl) ?_
    obtain ⟨q_4, hq_4, hm⟩ := bind_some hm
    have hFc := free_all hD hS hA
    refine vx_callv (vx_runS (As := [.ref (a.2.2.1 (Int32.toNatClampNeg q_1.2) 0), .int p2]) (rest := []) ⟨hx, hb, hml, hown, hts⟩ (k_X11_needPlace l hfl G a T F U S D R M N P hlk q_1.2 p2 g_3 q_4 hq_4 H.size) (cwS 2 hts (gS wm961 wm962 wm1 wm963) rfl rfl rfl (by decide +kernel) ⟨Nat.le_of_ble_eq_true rfl, Nat.le_of_ble_eq_true rfl⟩) (pre_w hK hP hD hS hE hFc) rfl rfl hl.1 rfl (lv_room (Nat.le_of_ble_eq_true rfl)) dX11_contextType_8 ⟨Nat.le_of_ble_eq_true rfl, Nat.le_of_ble_eq_true rfl⟩) hS (fun q _ h => hFc q h) hFc (fun q _ h => hFc q h) (fun E ce q9 u_5 t H locs ht hvm hpx hBX hz1 hk1 hS hce hv9 hcl => ?_) (fun u_5 t H locs ht hvm hw hB hz1 hk1 hS => ?_)
    · have hne : ¬ q_4 = 0 := xnm_ne hBX.1
      rw [if_neg hne] at hm
      have hX9 := hBX.1
      have hB := hBX.2
      have hP : va_P (DG G) clP3 (wC G a T F U S D R M N P) H := by rw [← ht]; exact hB.1
      have hD : va_D A (wC G a T F U S D R M N P) := hB.2.weaken (fun _ p _ h => hFc p.1 h)
      simp only [Option.some.injEq, Prod.mk.injEq] at hm
      obtain ⟨rfl, rfl⟩ := hm
      subst hAe
      exact vx_out (fun x hx => (hout0 x hx).elim) hlocks hce hv9 hcl (fun t2 ht2 _ => ⟨(), trivial, ⟨hX9, by rw [ht2]; exact hP, hD⟩, hS.F ht2⟩) hS.2.2 (Nat.le_of_ble_eq_true rfl) (Nat.le_of_ble_eq_true rfl)
    · rw [if_pos hw] at hm
      have hP : va_P (DG G) clP3 (wC G a T F U S D R M N P) H := by rw [← ht]; exact hB.1
      have hD : va_D A (wC G a T F U S D R M N P) := hB.2.weaken (fun _ p _ h => hFc p.1 h)
      refine W.widen (k := 2) (n := 12) (Nat.le_of_ble_eq_true rfl) (Nat.le_of_ble_eq_true rfl) ?_
      refine lv_aload_n hx hb dX11_contextType_11 rfl (lv_at hl 1 rfl) ?_
      refine va_get (D := DG G) (ci := 10) (v := .ref (a.1 1)) (C := RX11) (T := TX11) (N := 10) hx hb hts inW_X11 hown hK hP 0 rfl rfl 0 (by decide) (hts _ wm284) (fun _ h9 => h9) rfl dX11_contextType_12 ?_
      refine lv_aload_n hx hb dX11_contextType_15 rfl (lv_at hl 0 rfl) ?_
      refine va_getN (D := DG G) (ci := 3) (v := .ref (a.2.2.1 (Int32.toNatClampNeg q_1.2) 1)) (C := RX3) (T := TX3) (N := 8) hx hb hts inW_X3 hown hK hP _ ((at_goalC (c := 0) (gix_lt g_3) (by decide)).trans rfl) rfl 1 (by decide) (va_Nw.use rfl (hE.1 _ nw911)) (fun _ h9 => h9) rfl dX11_contextType_16 ?_
      refine lv_iload_n hx hb dX11_contextType_19 rfl (lv_at hl 3 rfl) ?_
      obtain ⟨q_6, hq_6, hm⟩ := bind_some hm
      have hFc := free_all hD hS hA
      refine va_calli (va_runV (As := [.int p2]) (rest := [.ref (a.1 1)]) ⟨hx, hb, hml, hown, hts⟩ (K_X8_typeAt_g l hfl G a T F U S D R M N P q_1.2 p2 g_3 q_6 hq_6 H.size) (cwV 1 hts (gV wm1086 wm445 wm446 wm7 wm447) rfl rfl rfl (by decide +kernel) ⟨Nat.le_of_ble_eq_true rfl, Nat.le_of_ble_eq_true rfl⟩) (pre_v (pre_w hK hP hD hS hE hFc) (va_recv hK hP (ci := 7) (q0 := _) rfl ((at_goalC (c := 1) (gix_lt g_3) (by decide)).trans rfl))) rfl rfl hl.1 rfl (lv_room (Nat.le_of_ble_eq_true rfl)) dX11_contextType_20 ⟨Nat.le_of_ble_eq_true rfl, Nat.le_of_ble_eq_true rfl⟩) hS (fun q _ h => hFc q h) hFc (fun r u t H locs ht hvm hw hB hz1 hk1 hS => ?_)
      rw [show r = q_6 from hw]
      have hP : va_P (DG G) clP3 (wC G a T F U S D R M N P) H := by rw [← ht]; exact hB.1
      have hD : va_D A (wC G a T F U S D R M N P) := hB.2.weaken (fun _ p _ h => hFc p.1 h)
      clear hB hFc hw hk1
      refine W.widen (k := 2) (n := 12) (Nat.le_of_ble_eq_true rfl) (Nat.le_of_ble_eq_true rfl) ?_
      obtain ⟨q_7, hq_7, hm⟩ := bind_some hm
      have hFc := free_all hD hS hA
      refine va_calli (va_runV (As := [.int q_6]) (rest := []) ⟨hx, hb, hml, hown, hts⟩ (K_X9_numberOf l hfl G a T F U S D R M N P q_6  q_7 hq_7 H.size) (cwV 1 hts (gV wm402 wm403 wm404 wm2 wm405) rfl rfl rfl (by decide +kernel) ⟨Nat.le_of_ble_eq_true rfl, Nat.le_of_ble_eq_true rfl⟩) (pre_v (pre_w hK hP hD hS hE hFc) (va_recv hK hP (ci := 8) (q0 := 1) rfl rfl)) rfl rfl hl.1 rfl (lv_room (Nat.le_of_ble_eq_true rfl)) dX11_contextType_23 ⟨Nat.le_of_ble_eq_true rfl, Nat.le_of_ble_eq_true rfl⟩) hS (fun q _ h => hFc q h) hFc (fun r u t H locs ht hvm hw hB hz1 hk1 hS => ?_)
      rw [show r = q_7 from hw]
      have hP : va_P (DG G) clP3 (wC G a T F U S D R M N P) H := by rw [← ht]; exact hB.1
      have hD : va_D A (wC G a T F U S D R M N P) := hB.2.weaken (fun _ p _ h => hFc p.1 h)
      clear hB hFc hw hk1
      refine W.widen (k := 2) (n := 12) (Nat.le_of_ble_eq_true rfl) (Nat.le_of_ble_eq_true rfl) ?_
      simp only [Option.some.injEq, Prod.mk.injEq] at hm
      obtain ⟨rfl, rfl⟩ := hm
      subst hAe
      refine W.widen (k := 2) (n := 12) (Nat.le_of_ble_eq_true rfl) (Nat.le_of_ble_eq_true rfl) ?_
      exact vx_ret (W.iret (v := q_7) hx hb hr (fun t ht hW => ⟨⟨q_7, (), rfl, ⟨rfl, rfl⟩, ⟨by rw [ht]; exact hP, hD⟩⟩, hS.F ht⟩) hS.2.2 dX11_contextType_26 hlocks)
def f_X11_openGoals (D : DS) (P : PS) (p1 : Int32) : Option (Int32 × Int32) := (Option.bind (f_X11_functionAt D p1) (fun q_1 => (if q_1.1 = 0 then (if fix D q_1.2 = true then (Option.bind (f_X0_openOnesOf D P p1) (fun q_4 => some (0, q_4))) else none) else some (q_1.1, 0))))
set_option maxHeartbeats 2000000 in
set_option maxRecDepth 100000 in
theorem k_X11_openGoals (l : Launch) (hfl : l.stackTraces = false) (G : GC) (a : AS) (T : TS) (F : FS) (U : US) (S : SS) (D : DS) (R : RS) (M : MS) (N : NS) (P : PS) (hlk : lkA a D.1.toNatClampNeg D.2.1.toNatClampNeg) (p1 : Int32) (k9 : Int32) (r9 : Int32) (hm : f_X11_openGoals D P p1 = some (k9, r9)) (sz : Nat) : vx_Met l yX11_openGoals (Cond.code yX11_openGoals cX11_openGoals 2 (some .int) :: W0) ({ frames := 7, cells := 1, slots := 6, locals := 104 }) (va_Pc [.ref (a.1 0), .int p1] (WD G (wC G a T F U S D R M N P) sz)) (va_Qi (S := Unit) (fun r _ => k9 = 0 ∧ r = r9) (fun _ t => PW G (va_A (wC G a T F U S D R M N P) sz) (wC G a T F U S D R M N P) t) (va_A (wC G a T F U S D R M N P) sz)) (vx_X (fun _ : Unit => True) (fun (E : String) (_ : Unit) (t : State) => xnm k9 = some E ∧ PW G (va_A (wC G a T F U S D R M N P) sz) (wC G a T F U S D R M N P) t) (va_A (wC G a T F U S D R M N P) sz)) 1 6 (va_A (wC G a T F U S D R M N P) sz) := by
  rw [f_X11_openGoals] at hm
  refine vx_ofW (cc := cX11_openGoals) (maxL := 2) (ret := (some .int)) (by decide) rfl ?_
  intro p e s m args below meth c s₁ B hml hout0 hv
  obtain ⟨rfl, hsz, hP, hK, hD0, hE⟩ := hv
  have hx := B.exec
  have hb := B.bytes
  have hr := B.returns
  have hts := w0_tail B.pre
  have hown : s.vm.findClass RX11 = some m.cls := findClass_of_methodNamed B.named
  have hlocks := B.notSynchronized
  have hD := hD0.self (sz := sz)
  obtain ⟨A, hAe⟩ : ∃ A, (va_A (wC G a T F U S D R M N P) sz) = A := ⟨_, rfl⟩
  rw [hAe] at hD hE
  have hA : ∀ q : Nat, s.heap.size ≤ q → A q := fun q h => by rw [← hAe]; exact Or.inr (by rw [← hsz]; exact h)
  have hS : va_S A s.heap s.heap [] := va_S.rf
  obtain ⟨H, hHe⟩ : ∃ H : Heap, H = s.heap := ⟨_, rfl⟩
  have hP : va_P (DG G) clP3 (wC G a T F U S D R M N P) H := by rw [hHe]; exact hP
  have hS : va_S A s.heap H [] := by rw [hHe]; exact hS
  have hl := lv_entry ([.ref (a.1 0), .int p1]) (n := 2) (Nat.le_of_ble_eq_true rfl)
  rw [lg_entry_eq, ← hHe]
  generalize (lg_sl ([.ref (a.1 0), .int p1]) ++ List.replicate (2 - (lg_sl ([.ref (a.1 0), .int p1])).length) Slot.unset).toArray = ls at hl ⊢
  have hl : lv_has ls 2 [(0, .ref (a.1 0)), (1, .int p1)] := hl
  refine lv_aload_n hx hb dX11_openGoals_0 rfl (lv_at hl 0 rfl) ?_
  refine lv_iload_n hx hb dX11_openGoals_1 rfl (lv_at hl 1 rfl) ?_
  obtain ⟨q_1, hq_1, hm⟩ := bind_some hm
  have hFc := free_all hD hS hA
  refine vx_callq (vx_runV (As := [.int p1]) (rest := []) ⟨hx, hb, hml, hown, hts⟩ (k_X11_functionAt l hfl G a T F U S D R M N P hlk p1  q_1.1 q_1.2 hq_1 H.size) (cwV 1 hts (gV wm571 wm573 ws_p7 wm1 wm574) rfl rfl rfl (by decide +kernel) ⟨Nat.le_of_ble_eq_true rfl, Nat.le_of_ble_eq_true rfl⟩) (pre_v (pre_w hK hP hD hS hE hFc) (va_recv hK hP (ci := 10) (q0 := 0) rfl rfl)) rfl rfl hl.1 rfl (lv_room (Nat.le_of_ble_eq_true rfl)) dX11_openGoals_2 ⟨Nat.le_of_ble_eq_true rfl, Nat.le_of_ble_eq_true rfl⟩) hS (fun q _ h => hFc q h) hFc (fun q _ h => hFc q h) (fun E ce q9 u_2 t H locs ht hvm hpx hBX hz1 hk1 hS hce hv9 hcl => ?_) (fun r u_2 t H locs ht hvm hw hB hz1 hk1 hS => ?_)
  · have hne : ¬ q_1.1 = 0 := xnm_ne hBX.1
    rw [if_neg hne] at hm
    have hX9 := hBX.1
    have hB := hBX.2
    have hP : va_P (DG G) clP3 (wC G a T F U S D R M N P) H := by rw [← ht]; exact hB.1
    have hD : va_D A (wC G a T F U S D R M N P) := hB.2.weaken (fun _ p _ h => hFc p.1 h)
    simp only [Option.some.injEq, Prod.mk.injEq] at hm
    obtain ⟨rfl, rfl⟩ := hm
    subst hAe
    exact vx_out (fun x hx => (hout0 x hx).elim) hlocks hce hv9 hcl (fun t2 ht2 _ => ⟨(), trivial, ⟨hX9, by rw [ht2]; exact hP, hD⟩, hS.F ht2⟩) hS.2.2 (Nat.le_of_ble_eq_true rfl) (Nat.le_of_ble_eq_true rfl)
  · rw [if_pos hw.1] at hm
    rw [show r = rfF a q_1.2 from hw.2]
    have hP : va_P (DG G) clP3 (wC G a T F U S D R M N P) H := by rw [← ht]; exact hB.1
    have hD : va_D A (wC G a T F U S D R M N P) := hB.2.weaken (fun _ p _ h => hFc p.1 h)
    refine W.widen (k := 1) (n := 6) (Nat.le_of_ble_eq_true rfl) (Nat.le_of_ble_eq_true rfl) ?_
    obtain ⟨g_3, hm⟩ := ite_some hm
    rw [rfF_pos g_3]
    refine W.eq (g2 := F0 m 5 ls [.ref (a.2.1 (Int32.toNatClampNeg q_1.2))]) rfl ?_
    refine lv_pop hx hb dX11_openGoals_5 rfl ?_
    refine lv_aload_n hx hb dX11_openGoals_6 rfl (lv_at hl 0 rfl) ?_
    refine va_get (D := DG G) (ci := 10) (v := .ref (a.1 21)) (C := RX11) (T := TX11) (N := 10) hx hb hts inW_X11 hown hK hP 0 rfl rfl 3 (by decide) (hts _ wm287) (fun _ h9 => h9) rfl dX11_openGoals_7 ?_
    refine lv_iload_n hx hb dX11_openGoals_10 rfl (lv_at hl 1 rfl) ?_
    obtain ⟨q_4, hq_4, hm⟩ := bind_some hm
    have hFc := free_all hD hS hA
    refine va_calli (va_runV (As := [.int p1]) (rest := []) ⟨hx, hb, hml, hown, hts⟩ (k_X0_openOnesOf l hfl G a T F U S D R M N P hlk p1  q_4 hq_4 H.size) (cwV 1 hts (gV wm1039 wm618 wm619 wm5 wm620) rfl rfl rfl (by decide +kernel) ⟨Nat.le_of_ble_eq_true rfl, Nat.le_of_ble_eq_true rfl⟩) (pre_v (pre_w hK hP hD hS hE hFc) (va_recv hK hP (ci := 0) (q0 := 21) rfl rfl)) rfl rfl hl.1 rfl (lv_room (Nat.le_of_ble_eq_true rfl)) dX11_openGoals_11 ⟨Nat.le_of_ble_eq_true rfl, Nat.le_of_ble_eq_true rfl⟩) hS (fun q _ h => hFc q h) hFc (fun r u t H locs ht hvm hw hB hz1 hk1 hS => ?_)
    rw [show r = q_4 from hw]
    have hP : va_P (DG G) clP3 (wC G a T F U S D R M N P) H := by rw [← ht]; exact hB.1
    have hD : va_D A (wC G a T F U S D R M N P) := hB.2.weaken (fun _ p _ h => hFc p.1 h)
    clear hB hFc hw hk1
    refine W.widen (k := 1) (n := 6) (Nat.le_of_ble_eq_true rfl) (Nat.le_of_ble_eq_true rfl) ?_
    simp only [Option.some.injEq, Prod.mk.injEq] at hm
    obtain ⟨rfl, rfl⟩ := hm
    subst hAe
    refine W.widen (k := 1) (n := 6) (Nat.le_of_ble_eq_true rfl) (Nat.le_of_ble_eq_true rfl) ?_
    exact vx_ret (W.iret (v := q_4) hx hb hr (fun t ht hW => ⟨⟨q_4, (), rfl, ⟨rfl, rfl⟩, ⟨by rw [ht]; exact hP, hD⟩⟩, hS.F ht⟩) hS.2.2 dX11_openGoals_14 hlocks)
def f_X11_accept_L53 : Nat → TS → DS → RS → PS → Int32 → Int32 → Option (Int32 × Int32 × DS × RS)
  | 0, _, _, _, _, _, _ => none
  | n + 1, T, D, R, P, v1, v3 => (if D.2.1 ≤ v3 then (Option.bind (g_X4_comeToAnEnd R) (fun q_10 => (if q_10.1 = 0 then some (5, 0, D, q_10.2) else some (0, q_10.2.2.2.1, (D.1, D.2.1, (D.2.2 ||| ((1 : Int32) <<< (v1 &&& 31)))), q_10.2)))) else (Option.bind (f_X0_goal D v3) (fun q_12 => (if q_12 < 0 then none else (if gix D q_12 = true then (Option.bind (f_X4_takeCallsOf T D R P q_12) (fun q_15 => (f_X11_accept_L53 n T D q_15 P v1 (v3 + 1)))) else none)))))
def f_X11_accept (T : TS) (D : DS) (R : RS) (P : PS) (p1 : Int32) : Option (Int32 × Int32 × DS × RS) := (Option.bind (f_X11_functionAt D p1) (fun q_1 => (if q_1.1 = 0 then (if fix D q_1.2 = true then (Option.bind (f_X0_hasAccepted D p1) (fun q_4 => (if q_4 = 0 then (Option.bind (f_X0_openOnesOf D P p1) (fun q_6 => (if q_6 ≤ 0 then (Option.bind (g_X4_begin R p1 (P.2.1 (Int32.toNatClampNeg q_1.2))) (fun q_8 => (f_X11_accept_L53 100000 T D q_8 P p1 0))) else some (2, 0, D, R)))) else some (2, 0, D, R)))) else none) else some (q_1.1, 0, D, R))))
set_option maxHeartbeats 2000000 in
set_option maxRecDepth 100000 in
theorem kl_X11_accept_53 {l : Launch} (hfl : l.stackTraces = false) {G : GC} {a : AS} {T : TS} {F : FS} {U : US} {S : SS} {D : DS} {R : RS} {M : MS} {N : NS} {P : PS} {A : Nat → Prop} {sz : Nat} {p : Program} {e : Env} {s : State} {m : MethodId} {args : Array Value} {below : List Frame} {meth : Method} {c : Code} (hout0 : ∀ x ∈ c.exceptionTable.toList, False) (hx : p.tables.exec = Jvm.exec) (hb : c.code = cX11_accept) (hr : meth.sig.returnType = (some .int)) (hml : c.maxLocals = 4) (hown : s.vm.findClass RX11 = some m.cls) (hts : ∀ w ∈ W0, w.before args s = true) (hlocks : meth.locks = false) (hlk : lkA a D.1.toNatClampNeg D.2.1.toNatClampNeg) (hAe : (va_A (wC G a T F U S D R M N P) sz) = A) (hA : ∀ q : Nat, s.heap.size ≤ q → A q) (hE : EV G A s s.heap) (hK : va_K (DG G) clP3 (TY G) s) (k9 : Int32) (r9 : Int32) (D9 : DS) (R9 : RS) : ∀ (n : Nat), ∀ (R8 : RS) (v1 : Int32) (v3 : Int32) (H : Heap) (locs : List Loc), va_P (DG G) clP3 (wC G a T F U S D R8 M N P) H → va_D A (wC G a T F U S D R8 M N P) → va_S A s.heap H locs → ∀ (ls : Array Slot), lv_has ls 4 [(0, .ref (a.1 0)), (1, .int v1), (3, .int v3)] → f_X11_accept_L53 n T D R8 P v1 v3 = some (k9, r9, D9, R9) → W p l e ({ frames := 542, cells := 2, slots := 12, locals := 14448 }) s m args below meth c H locs 1 6 (vx_MQ below (va_Qi (S := BS) (fun r _ => k9 = 0 ∧ r = r9) (fun b2 t => lkA (a.1, b2) D9.1.toNatClampNeg D9.2.1.toNatClampNeg ∧ PW G (va_A (wC G a T F U S D R M N P) sz) (wC G (a.1, b2) T F U S D9 R9 M N P) t) (va_A (wC G a T F U S D R M N P) sz)) (vx_X (fun _ : BS => True) (fun (E : String) (b2 : BS) (t : State) => xnm k9 = some E ∧ lkA (a.1, b2) D9.1.toNatClampNeg D9.2.1.toNatClampNeg ∧ PW G (va_A (wC G a T F U S D R M N P) sz) (wC G (a.1, b2) T F U S D9 R9 M N P) t) (va_A (wC G a T F U S D R M N P) sz)) args s 2 12 (va_A (wC G a T F U S D R M N P) sz)) (F0 m 53 ls []) := by
  intro n
  induction n with
  | zero =>
    intro R8 v1 v3 H locs hP hD hS ls hl hm
    rw [f_X11_accept_L53] at hm
    cases hm
  | succ n ih =>
    intro R8 v1 v3 H locs hP hD hS ls hl hm
    rw [f_X11_accept_L53] at hm
    refine lv_iload_n hx hb dX11_accept_53 rfl (lv_at hl 2 rfl) ?_
    refine lv_aload_n hx hb dX11_accept_54 rfl (lv_at hl 0 rfl) ?_
    refine va_get (D := DG G) (ci := 10) (v := .ref (a.1 21)) (C := RX11) (T := TX11) (N := 10) hx hb hts inW_X11 hown hK hP 0 rfl rfl 3 (by decide) (hts _ wm287) (fun _ h9 => h9) rfl dX11_accept_55 ?_
    refine va_getN (D := DG G) (ci := 0) (v := .int D.2.1) (C := RX0) (T := TX0) (N := 8) hx hb hts inW_X0 hown hK hP 21 rfl rfl 6 (by decide) (va_Nw.use rfl (hE.1 _ nw148)) (fun _ h9 => h9) rfl dX11_accept_58 ?_
    refine lv_icmp_ge (tgt := 85) hx hb dX11_accept_61 (by decide) (fun c_9 => ?_) (fun c_9 => ?_)
    · rw [if_pos c_9] at hm
      refine lv_aload_n hx hb dX11_accept_85 rfl (lv_at hl 0 rfl) ?_
      refine va_get (D := DG G) (ci := 10) (v := .ref (a.1 29)) (C := RX11) (T := TX11) (N := 10) hx hb hts inW_X11 hown hK hP 0 rfl rfl 5 (by decide) (hts _ wm289) (fun _ h9 => h9) rfl dX11_accept_86 ?_
      obtain ⟨q_10, hq_10, hm⟩ := bind_some hm
      have hFc := free_all hD hS hA
      refine va_calli (va_runV (As := []) (rest := []) ⟨hx, hb, hml, hown, hts⟩ (K_X4_comeToAnEnd l hfl G a T F U S D R8 M N P   q_10.1 q_10.2 hq_10 H.size) (cwV 0 hts (gV wm1138 wm1139 wm1140 wm9 wm1141) rfl rfl rfl (by decide +kernel) ⟨Nat.le_of_ble_eq_true rfl, Nat.le_of_ble_eq_true rfl⟩) (pre_v (pre_w hK hP hD hS hE hFc) (va_recv hK hP (ci := 4) (q0 := 29) rfl rfl)) rfl rfl hl.1 rfl (lv_room (Nat.le_of_ble_eq_true rfl)) dX11_accept_89 ⟨Nat.le_of_ble_eq_true rfl, Nat.le_of_ble_eq_true rfl⟩) hS (fun q _ h => hFc q h) hFc (fun r u t H locs ht hvm hw hB hz1 hk1 hS => ?_)
      rw [show r = q_10.1 from hw]
      have hP : va_P (DG G) clP3 (wC G a T F U S D q_10.2 M N P) H := by rw [← ht]; exact hB.1
      have hD : va_D A (wC G a T F U S D q_10.2 M N P) := hB.2.weaken (fun _ p _ h => hFc p.1 h)
      clear hB hFc hw hk1
      refine W.widen (k := 1) (n := 6) (Nat.le_of_ble_eq_true rfl) (Nat.le_of_ble_eq_true rfl) ?_
      refine lv_if_ne (tgt := 106) hx hb dX11_accept_92 (by decide) (fun c_11 => ?_) (fun c_11 => ?_)
      · rw [if_neg c_11] at hm
        refine lv_aload_n hx hb dX11_accept_106 rfl (lv_at hl 0 rfl) ?_
        refine va_get (D := DG G) (ci := 10) (v := .ref (a.1 21)) (C := RX11) (T := TX11) (N := 10) hx hb hts inW_X11 hown hK hP 0 rfl rfl 3 (by decide) (hts _ wm287) (fun _ h9 => h9) rfl dX11_accept_107 ?_
        refine lv_dup hx hb dX11_accept_110 rfl ?_
        refine va_getN (D := DG G) (ci := 0) (v := .int D.2.2) (C := RX0) (T := TX0) (N := 8) hx hb hts inW_X0 hown hK hP 21 rfl rfl 7 (by decide) (va_Nw.use rfl (hE.1 _ nw151)) (fun _ h9 => h9) rfl dX11_accept_111 ?_
        refine lv_iconst (v := 1) hx hb dX11_accept_114 (by decide) ?_
        refine lv_iload_n hx hb dX11_accept_115 rfl (lv_at hl 1 rfl) ?_
        refine lv_ishl hx hb dX11_accept_116 ?_
        refine lv_ior hx hb dX11_accept_117 ?_
        refine va_putN (D := DG G) (ci := 0) (v := .int (D.2.2 ||| ((1 : Int32) <<< (v1 &&& 31)))) (ty := tyX0 7) (C := RX0) (T := TX0) (N := 8) hx hb hts inW_X0 tyX0 tyX0_ok nmX0 hown hK hP hD hS 21 rfl rfl 7 (by decide) (va_Nw.use rfl (hE.1 _ nw151)) (fun _ h9 => h9) rfl (by decide +kernel) rfl rfl (Nat.le_of_ble_eq_true rfl) dX11_accept_118 (fun H locs hP hD hS => ?_)
        have hP : va_P (DG G) clP3 (wC G a T F U S (D.1, D.2.1, (D.2.2 ||| ((1 : Int32) <<< (v1 &&& 31)))) q_10.2 M N P) H := hP
        have hD : va_D A (wC G a T F U S (D.1, D.2.1, (D.2.2 ||| ((1 : Int32) <<< (v1 &&& 31)))) q_10.2 M N P) := hD
        refine lv_aload_n hx hb dX11_accept_121 rfl (lv_at hl 0 rfl) ?_
        refine va_get (D := DG G) (ci := 10) (v := .ref (a.1 29)) (C := RX11) (T := TX11) (N := 10) hx hb hts inW_X11 hown hK hP 0 rfl rfl 5 (by decide) (hts _ wm289) (fun _ h9 => h9) rfl dX11_accept_122 ?_
        refine va_getN (D := DG G) (ci := 4) (v := .int q_10.2.2.2.1) (C := RX4) (T := TX4) (N := 6) hx hb hts inW_X4 hown hK hP 29 rfl rfl 4 (by decide) (va_Nw.use rfl (hE.1 _ nw225)) (fun _ h9 => h9) rfl dX11_accept_125 ?_
        simp only [Option.some.injEq, Prod.mk.injEq] at hm
        obtain ⟨rfl, rfl, rfl, rfl⟩ := hm
        subst hAe
        refine W.widen (k := 2) (n := 12) (Nat.le_of_ble_eq_true rfl) (Nat.le_of_ble_eq_true rfl) ?_
        exact vx_ret (W.iret (v := q_10.2.2.2.1) hx hb hr (fun t ht hW => ⟨⟨q_10.2.2.2.1, a.2, rfl, ⟨rfl, rfl⟩, ⟨hlk, by rw [ht]; exact hP, hD⟩⟩, hS.F ht⟩) hS.2.2 dX11_accept_128 hlocks)
      · rw [if_pos c_11] at hm
        simp only [Option.some.injEq, Prod.mk.injEq] at hm
        obtain ⟨rfl, rfl, rfl, rfl⟩ := hm
        subst hAe
        obtain ⟨sa, hsa⟩ := hE.2.1 _ stm24
        exact vx_throwSW (names := ["java/lang/RuntimeException", "java/lang/Exception"]) (A := _) (free := _) hx hb hfl hown (by decide +kernel) (by decide +kernel) (hts _ wm819) (hts _ wm21) hsa (xX11_162_hat hts hE) xX11_162_good (EV.un hE) (EV.su hE) hS (hl.1.trans hml.symm) dX11_accept_95 dX11_accept_98 dX11_accept_99 dX11_accept_102 dX11_accept_105 (fun x hx => (hout0 x hx).elim) (Nat.le_of_ble_eq_true rfl) (Nat.le_of_ble_eq_true rfl) (Nat.le_of_ble_eq_true rfl) (Nat.le_of_ble_eq_true rfl) hlocks (fun t ha hz hk => ⟨a.2, trivial, ⟨rfl, hlk, va_Pgrow hP hk, hD⟩, xF hS hz hk⟩) hS.2.2 (Nat.le_of_ble_eq_true rfl) (Nat.le_of_ble_eq_true rfl)
    · rw [if_neg c_9] at hm
      refine lv_aload_n hx hb dX11_accept_64 rfl (lv_at hl 0 rfl) ?_
      refine va_get (D := DG G) (ci := 10) (v := .ref (a.1 29)) (C := RX11) (T := TX11) (N := 10) hx hb hts inW_X11 hown hK hP 0 rfl rfl 5 (by decide) (hts _ wm289) (fun _ h9 => h9) rfl dX11_accept_65 ?_
      refine lv_aload_n hx hb dX11_accept_68 rfl (lv_at hl 0 rfl) ?_
      refine va_get (D := DG G) (ci := 10) (v := .ref (a.1 21)) (C := RX11) (T := TX11) (N := 10) hx hb hts inW_X11 hown hK hP 0 rfl rfl 3 (by decide) (hts _ wm287) (fun _ h9 => h9) rfl dX11_accept_69 ?_
      refine lv_iload_n hx hb dX11_accept_72 rfl (lv_at hl 2 rfl) ?_
      obtain ⟨q_12, hq_12, hm⟩ := bind_some hm
      have hFc := free_all hD hS hA
      refine va_callq (va_runV (As := [.int v3]) (rest := [.ref (a.1 29)]) ⟨hx, hb, hml, hown, hts⟩ (k_X0_goal l hfl G a T F U S D R8 M N P hlk v3  q_12 hq_12 H.size) (cwV 1 hts (gV wm604 wm605 wm606 wm5 wm607) rfl rfl rfl (by decide +kernel) ⟨Nat.le_of_ble_eq_true rfl, Nat.le_of_ble_eq_true rfl⟩) (pre_v (pre_w hK hP hD hS hE hFc) (va_recv hK hP (ci := 0) (q0 := 21) rfl rfl)) rfl rfl hl.1 rfl (lv_room (Nat.le_of_ble_eq_true rfl)) dX11_accept_73 ⟨Nat.le_of_ble_eq_true rfl, Nat.le_of_ble_eq_true rfl⟩) hS (fun q _ h => hFc q h) hFc (fun r u t H locs ht hvm hw hB hz1 hk1 hS => ?_)
      rw [show r = rfG a q_12 from hw]
      have hP : va_P (DG G) clP3 (wC G a T F U S D R8 M N P) H := by rw [← ht]; exact hB.1
      have hD : va_D A (wC G a T F U S D R8 M N P) := hB.2.weaken (fun _ p _ h => hFc p.1 h)
      clear hB hFc hw hk1
      refine W.widen (k := 1) (n := 6) (Nat.le_of_ble_eq_true rfl) (Nat.le_of_ble_eq_true rfl) ?_
      by_cases c_13 : q_12 < 0
      · rw [if_pos c_13] at hm
        rw [show rfG a q_12 = none from if_pos c_13]
        refine W.eq (g2 := F0 m 76 ls [.null, .ref (a.1 29)]) rfl ?_
        cases hm
      · rw [if_neg c_13] at hm
        obtain ⟨g_14, hm⟩ := ite_some hm
        rw [show rfG a q_12 = some _ from if_neg c_13]
        refine W.eq (g2 := F0 m 76 ls [.ref (a.2.2.1 (Int32.toNatClampNeg q_12) 0), .ref (a.1 29)]) rfl ?_
        obtain ⟨q_15, hq_15, hm⟩ := bind_some hm
        have hFc := free_all hD hS hA
        refine va_callv (va_runV (As := [.ref (a.2.2.1 (Int32.toNatClampNeg q_12) 0)]) (rest := []) ⟨hx, hb, hml, hown, hts⟩ (k_X4_takeCallsOf l hfl G a T F U S D R8 M N P hlk q_12 g_14 q_15 hq_15 H.size) (cwV 1 hts (gV wm1106 wm1107 wm1108 wm9 wm1109) rfl rfl rfl (by decide +kernel) ⟨Nat.le_of_ble_eq_true rfl, Nat.le_of_ble_eq_true rfl⟩) (pre_v (pre_w hK hP hD hS hE hFc) (va_recv hK hP (ci := 4) (q0 := 29) rfl rfl)) rfl rfl hl.1 rfl (lv_room (Nat.le_of_ble_eq_true rfl)) dX11_accept_76 ⟨Nat.le_of_ble_eq_true rfl, Nat.le_of_ble_eq_true rfl⟩) hS (fun q _ h => hFc q h) hFc (fun u t H locs ht hvm hw hB hz1 hk1 hS => ?_)
        have hP : va_P (DG G) clP3 (wC G a T F U S D q_15 M N P) H := by rw [← ht]; exact hB.1
        have hD : va_D A (wC G a T F U S D q_15 M N P) := hB.2.weaken (fun _ p _ h => hFc p.1 h)
        clear hB hFc hk1
        refine W.widen (k := 1) (n := 6) (Nat.le_of_ble_eq_true rfl) (Nat.le_of_ble_eq_true rfl) ?_
        refine lv_iinc (v := (v3 + 1)) (lv' := [(3, .int (v3 + 1)), (0, .ref (a.1 0)), (1, .int v1)]) hx hb dX11_accept_79 hl (k := 2) rfl rfl (by decide) rfl (fun ls hl => ?_)
        refine lv_goto (tgt := 53) hx hb dX11_accept_82 (by decide) ?_
        refine W.widen (k := 1) (n := 6) (Nat.le_of_ble_eq_true rfl) (Nat.le_of_ble_eq_true rfl) ?_
        exact ih q_15 v1 (v3 + 1)  _ _ hP hD hS _ (lv_sub hl [1, 2, 0] rfl) hm
set_option maxHeartbeats 2000000 in
set_option maxRecDepth 100000 in
theorem k_X11_accept (l : Launch) (hfl : l.stackTraces = false) (G : GC) (a : AS) (T : TS) (F : FS) (U : US) (S : SS) (D : DS) (R : RS) (M : MS) (N : NS) (P : PS) (hlk : lkA a D.1.toNatClampNeg D.2.1.toNatClampNeg) (p1 : Int32) (k9 : Int32) (r9 : Int32) (D9 : DS) (R9 : RS) (hm : f_X11_accept T D R P p1 = some (k9, r9, D9, R9)) (sz : Nat) : vx_Met l yX11_accept (Cond.code yX11_accept cX11_accept 4 (some .int) :: W0) ({ frames := 542, cells := 2, slots := 12, locals := 14448 }) (va_Pc [.ref (a.1 0), .int p1] (WD G (wC G a T F U S D R M N P) sz)) (va_Qi (S := BS) (fun r _ => k9 = 0 ∧ r = r9) (fun b2 t => lkA (a.1, b2) D9.1.toNatClampNeg D9.2.1.toNatClampNeg ∧ PW G (va_A (wC G a T F U S D R M N P) sz) (wC G (a.1, b2) T F U S D9 R9 M N P) t) (va_A (wC G a T F U S D R M N P) sz)) (vx_X (fun _ : BS => True) (fun (E : String) (b2 : BS) (t : State) => xnm k9 = some E ∧ lkA (a.1, b2) D9.1.toNatClampNeg D9.2.1.toNatClampNeg ∧ PW G (va_A (wC G a T F U S D R M N P) sz) (wC G (a.1, b2) T F U S D9 R9 M N P) t) (va_A (wC G a T F U S D R M N P) sz)) 2 12 (va_A (wC G a T F U S D R M N P) sz) := by
  rw [f_X11_accept] at hm
  refine vx_ofW (cc := cX11_accept) (maxL := 4) (ret := (some .int)) (by decide) rfl ?_
  intro p e s m args below meth c s₁ B hml hout0 hv
  obtain ⟨rfl, hsz, hP, hK, hD0, hE⟩ := hv
  have hx := B.exec
  have hb := B.bytes
  have hr := B.returns
  have hts := w0_tail B.pre
  have hown : s.vm.findClass RX11 = some m.cls := findClass_of_methodNamed B.named
  have hlocks := B.notSynchronized
  have hD := hD0.self (sz := sz)
  obtain ⟨A, hAe⟩ : ∃ A, (va_A (wC G a T F U S D R M N P) sz) = A := ⟨_, rfl⟩
  rw [hAe] at hD hE
  have hA : ∀ q : Nat, s.heap.size ≤ q → A q := fun q h => by rw [← hAe]; exact Or.inr (by rw [← hsz]; exact h)
  have hS : va_S A s.heap s.heap [] := va_S.rf
  obtain ⟨H, hHe⟩ : ∃ H : Heap, H = s.heap := ⟨_, rfl⟩
  have hP : va_P (DG G) clP3 (wC G a T F U S D R M N P) H := by rw [hHe]; exact hP
  have hS : va_S A s.heap H [] := by rw [hHe]; exact hS
  have hl := lv_entry ([.ref (a.1 0), .int p1]) (n := 4) (Nat.le_of_ble_eq_true rfl)
  rw [lg_entry_eq, ← hHe]
  generalize (lg_sl ([.ref (a.1 0), .int p1]) ++ List.replicate (4 - (lg_sl ([.ref (a.1 0), .int p1])).length) Slot.unset).toArray = ls at hl ⊢
  have hl : lv_has ls 4 [(0, .ref (a.1 0)), (1, .int p1)] := hl
  refine lv_aload_n hx hb dX11_accept_0 rfl (lv_at hl 0 rfl) ?_
  refine lv_iload_n hx hb dX11_accept_1 rfl (lv_at hl 1 rfl) ?_
  obtain ⟨q_1, hq_1, hm⟩ := bind_some hm
  have hFc := free_all hD hS hA
  refine vx_callq (vx_runV (As := [.int p1]) (rest := []) ⟨hx, hb, hml, hown, hts⟩ (k_X11_functionAt l hfl G a T F U S D R M N P hlk p1  q_1.1 q_1.2 hq_1 H.size) (cwV 1 hts (gV wm571 wm573 ws_p7 wm1 wm574) rfl rfl rfl (by decide +kernel) ⟨Nat.le_of_ble_eq_true rfl, Nat.le_of_ble_eq_true rfl⟩) (pre_v (pre_w hK hP hD hS hE hFc) (va_recv hK hP (ci := 10) (q0 := 0) rfl rfl)) rfl rfl hl.1 rfl (lv_room (Nat.le_of_ble_eq_true rfl)) dX11_accept_2 ⟨Nat.le_of_ble_eq_true rfl, Nat.le_of_ble_eq_true rfl⟩) hS (fun q _ h => hFc q h) hFc (fun q _ h => hFc q h) (fun E ce q9 u_2 t H locs ht hvm hpx hBX hz1 hk1 hS hce hv9 hcl => ?_) (fun r u_2 t H locs ht hvm hw hB hz1 hk1 hS => ?_)
  · have hne : ¬ q_1.1 = 0 := xnm_ne hBX.1
    rw [if_neg hne] at hm
    have hX9 := hBX.1
    have hB := hBX.2
    have hP : va_P (DG G) clP3 (wC G a T F U S D R M N P) H := by rw [← ht]; exact hB.1
    have hD : va_D A (wC G a T F U S D R M N P) := hB.2.weaken (fun _ p _ h => hFc p.1 h)
    simp only [Option.some.injEq, Prod.mk.injEq] at hm
    obtain ⟨rfl, rfl, rfl, rfl⟩ := hm
    subst hAe
    exact vx_out (fun x hx => (hout0 x hx).elim) hlocks hce hv9 hcl (fun t2 ht2 _ => ⟨a.2, trivial, ⟨hX9, hlk, by rw [ht2]; exact hP, hD⟩, hS.F ht2⟩) hS.2.2 (Nat.le_of_ble_eq_true rfl) (Nat.le_of_ble_eq_true rfl)
  · rw [if_pos hw.1] at hm
    rw [show r = rfF a q_1.2 from hw.2]
    have hP : va_P (DG G) clP3 (wC G a T F U S D R M N P) H := by rw [← ht]; exact hB.1
    have hD : va_D A (wC G a T F U S D R M N P) := hB.2.weaken (fun _ p _ h => hFc p.1 h)
    refine W.widen (k := 1) (n := 6) (Nat.le_of_ble_eq_true rfl) (Nat.le_of_ble_eq_true rfl) ?_
    obtain ⟨g_3, hm⟩ := ite_some hm
    rw [rfF_pos g_3]
    refine W.eq (g2 := F0 m 5 ls [.ref (a.2.1 (Int32.toNatClampNeg q_1.2))]) rfl ?_
    refine lv_astore_n (lv' := [(2, .ref (a.2.1 (Int32.toNatClampNeg q_1.2))), (0, .ref (a.1 0)), (1, .int p1)]) hx hb dX11_accept_5 rfl hl (by decide) rfl (fun ls hl => ?_)
    refine lv_aload_n hx hb dX11_accept_6 rfl (lv_at hl 1 rfl) ?_
    refine va_get (D := DG G) (ci := 10) (v := .ref (a.1 21)) (C := RX11) (T := TX11) (N := 10) hx hb hts inW_X11 hown hK hP 0 rfl rfl 3 (by decide) (hts _ wm287) (fun _ h9 => h9) rfl dX11_accept_7 ?_
    refine lv_iload_n hx hb dX11_accept_10 rfl (lv_at hl 2 rfl) ?_
    obtain ⟨q_4, hq_4, hm⟩ := bind_some hm
    have hFc := free_all hD hS hA
    refine va_calli (va_runV (As := [.int p1]) (rest := []) ⟨hx, hb, hml, hown, hts⟩ (k_X0_hasAccepted l hfl G a T F U S D R M N P hlk p1  q_4 hq_4 H.size) (cwV 1 hts (gV wm592 wm593 wm594 wm5 wm595) rfl rfl rfl (by decide +kernel) ⟨Nat.le_of_ble_eq_true rfl, Nat.le_of_ble_eq_true rfl⟩) (pre_v (pre_w hK hP hD hS hE hFc) (va_recv hK hP (ci := 0) (q0 := 21) rfl rfl)) rfl rfl hl.1 rfl (lv_room (Nat.le_of_ble_eq_true rfl)) dX11_accept_11 ⟨Nat.le_of_ble_eq_true rfl, Nat.le_of_ble_eq_true rfl⟩) hS (fun q _ h => hFc q h) hFc (fun r u t H locs ht hvm hw hB hz1 hk1 hS => ?_)
    rw [show r = q_4 from hw]
    have hP : va_P (DG G) clP3 (wC G a T F U S D R M N P) H := by rw [← ht]; exact hB.1
    have hD : va_D A (wC G a T F U S D R M N P) := hB.2.weaken (fun _ p _ h => hFc p.1 h)
    clear hB hFc hw hk1
    refine W.widen (k := 1) (n := 6) (Nat.le_of_ble_eq_true rfl) (Nat.le_of_ble_eq_true rfl) ?_
    refine lv_if_ne (tgt := 28) hx hb dX11_accept_14 (by decide) (fun c_5 => ?_) (fun c_5 => ?_)
    · rw [if_neg c_5] at hm
      simp only [Option.some.injEq, Prod.mk.injEq] at hm
      obtain ⟨rfl, rfl, rfl, rfl⟩ := hm
      subst hAe
      obtain ⟨sa, hsa⟩ := hE.2.1 _ stm23
      exact vx_throwSW (names := ["java/lang/RuntimeException", "java/lang/Exception"]) (A := _) (free := _) hx hb hfl hown (by decide +kernel) (by decide +kernel) (hts _ wm669) (hts _ wm14) hsa (xX11_113_hat hts hE) xX11_113_good (EV.un hE) (EV.su hE) hS (hl.1.trans hml.symm) dX11_accept_28 dX11_accept_31 dX11_accept_32 dX11_accept_35 dX11_accept_38 (fun x hx => (hout0 x hx).elim) (Nat.le_of_ble_eq_true rfl) (Nat.le_of_ble_eq_true rfl) (Nat.le_of_ble_eq_true rfl) (Nat.le_of_ble_eq_true rfl) hlocks (fun t ha hz hk => ⟨a.2, trivial, ⟨rfl, hlk, va_Pgrow hP hk, hD⟩, xF hS hz hk⟩) hS.2.2 (Nat.le_of_ble_eq_true rfl) (Nat.le_of_ble_eq_true rfl)
    · rw [if_pos c_5] at hm
      refine lv_aload_n hx hb dX11_accept_17 rfl (lv_at hl 1 rfl) ?_
      refine va_get (D := DG G) (ci := 10) (v := .ref (a.1 21)) (C := RX11) (T := TX11) (N := 10) hx hb hts inW_X11 hown hK hP 0 rfl rfl 3 (by decide) (hts _ wm287) (fun _ h9 => h9) rfl dX11_accept_18 ?_
      refine lv_iload_n hx hb dX11_accept_21 rfl (lv_at hl 2 rfl) ?_
      obtain ⟨q_6, hq_6, hm⟩ := bind_some hm
      have hFc := free_all hD hS hA
      refine va_calli (va_runV (As := [.int p1]) (rest := []) ⟨hx, hb, hml, hown, hts⟩ (k_X0_openOnesOf l hfl G a T F U S D R M N P hlk p1  q_6 hq_6 H.size) (cwV 1 hts (gV wm1039 wm618 wm619 wm5 wm620) rfl rfl rfl (by decide +kernel) ⟨Nat.le_of_ble_eq_true rfl, Nat.le_of_ble_eq_true rfl⟩) (pre_v (pre_w hK hP hD hS hE hFc) (va_recv hK hP (ci := 0) (q0 := 21) rfl rfl)) rfl rfl hl.1 rfl (lv_room (Nat.le_of_ble_eq_true rfl)) dX11_accept_22 ⟨Nat.le_of_ble_eq_true rfl, Nat.le_of_ble_eq_true rfl⟩) hS (fun q _ h => hFc q h) hFc (fun r u t H locs ht hvm hw hB hz1 hk1 hS => ?_)
      rw [show r = q_6 from hw]
      have hP : va_P (DG G) clP3 (wC G a T F U S D R M N P) H := by rw [← ht]; exact hB.1
      have hD : va_D A (wC G a T F U S D R M N P) := hB.2.weaken (fun _ p _ h => hFc p.1 h)
      clear hB hFc hw hk1
      refine W.widen (k := 1) (n := 6) (Nat.le_of_ble_eq_true rfl) (Nat.le_of_ble_eq_true rfl) ?_
      refine lv_if_le (tgt := 39) hx hb dX11_accept_25 (by decide) (fun c_7 => ?_) (fun c_7 => ?_)
      · rw [if_pos c_7] at hm
        refine lv_aload_n hx hb dX11_accept_39 rfl (lv_at hl 1 rfl) ?_
        refine va_get (D := DG G) (ci := 10) (v := .ref (a.1 29)) (C := RX11) (T := TX11) (N := 10) hx hb hts inW_X11 hown hK hP 0 rfl rfl 5 (by decide) (hts _ wm289) (fun _ h9 => h9) rfl dX11_accept_40 ?_
        refine lv_iload_n hx hb dX11_accept_43 rfl (lv_at hl 2 rfl) ?_
        refine lv_aload_n hx hb dX11_accept_44 rfl (lv_at hl 0 rfl) ?_
        refine va_getN (D := DG G) (ci := 2) (v := .int (P.2.1 (Int32.toNatClampNeg q_1.2))) (C := RX2) (T := TX2) (N := 3) hx hb hts inW_X2 hown hK hP _ ((at_funC (fix_lt g_3)).trans rfl) rfl 1 (by decide) (va_Nw.use rfl (hE.1 _ nw888)) (fun _ h9 => h9) rfl dX11_accept_45 ?_
        obtain ⟨q_8, hq_8, hm⟩ := bind_some hm
        have hFc := free_all hD hS hA
        refine va_callv (va_runV (As := [.int p1, .int (P.2.1 (Int32.toNatClampNeg q_1.2))]) (rest := []) ⟨hx, hb, hml, hown, hts⟩ (K_X4_begin l hfl G a T F U S D R M N P p1 (P.2.1 (Int32.toNatClampNeg q_1.2))  q_8 hq_8 H.size) (cwV 2 hts (gV wm1102 wm1103 wm1104 wm9 wm1105) rfl rfl rfl (by decide +kernel) ⟨Nat.le_of_ble_eq_true rfl, Nat.le_of_ble_eq_true rfl⟩) (pre_v (pre_w hK hP hD hS hE hFc) (va_recv hK hP (ci := 4) (q0 := 29) rfl rfl)) rfl rfl hl.1 rfl (lv_room (Nat.le_of_ble_eq_true rfl)) dX11_accept_48 ⟨Nat.le_of_ble_eq_true rfl, Nat.le_of_ble_eq_true rfl⟩) hS (fun q _ h => hFc q h) hFc (fun u t H locs ht hvm hw hB hz1 hk1 hS => ?_)
        have hP : va_P (DG G) clP3 (wC G a T F U S D q_8 M N P) H := by rw [← ht]; exact hB.1
        have hD : va_D A (wC G a T F U S D q_8 M N P) := hB.2.weaken (fun _ p _ h => hFc p.1 h)
        clear hB hFc hk1
        refine W.widen (k := 1) (n := 6) (Nat.le_of_ble_eq_true rfl) (Nat.le_of_ble_eq_true rfl) ?_
        refine lv_iconst (v := 0) hx hb dX11_accept_51 (by decide) ?_
        refine lv_istore_n (lv' := [(3, .int 0), (2, .ref (a.2.1 (Int32.toNatClampNeg q_1.2))), (0, .ref (a.1 0)), (1, .int p1)]) hx hb dX11_accept_52 rfl hl (by decide) rfl (fun ls hl => ?_)
        refine W.widen (k := 1) (n := 6) (Nat.le_of_ble_eq_true rfl) (Nat.le_of_ble_eq_true rfl) ?_
        exact kl_X11_accept_53 hfl hout0 hx hb hr hml hown hts hlocks hlk hAe hA hE hK k9 r9 D9 R9 100000 q_8 p1 0  _ _ hP hD hS _ (lv_sub hl [2, 3, 0] rfl) hm
      · rw [if_neg c_7] at hm
        simp only [Option.some.injEq, Prod.mk.injEq] at hm
        obtain ⟨rfl, rfl, rfl, rfl⟩ := hm
        subst hAe
        obtain ⟨sa, hsa⟩ := hE.2.1 _ stm23
        exact vx_throwSW (names := ["java/lang/RuntimeException", "java/lang/Exception"]) (A := _) (free := _) hx hb hfl hown (by decide +kernel) (by decide +kernel) (hts _ wm669) (hts _ wm14) hsa (xX11_113_hat hts hE) xX11_113_good (EV.un hE) (EV.su hE) hS (hl.1.trans hml.symm) dX11_accept_28 dX11_accept_31 dX11_accept_32 dX11_accept_35 dX11_accept_38 (fun x hx => (hout0 x hx).elim) (Nat.le_of_ble_eq_true rfl) (Nat.le_of_ble_eq_true rfl) (Nat.le_of_ble_eq_true rfl) (Nat.le_of_ble_eq_true rfl) hlocks (fun t ha hz hk => ⟨a.2, trivial, ⟨rfl, hlk, va_Pgrow hP hk, hD⟩, xF hS hz hk⟩) hS.2.2 (Nat.le_of_ble_eq_true rfl) (Nat.le_of_ble_eq_true rfl)
def f_X11_isAccepted (D : DS) (p1 : Int32) : Option (Int32 × Int32) := (Option.bind (f_X11_functionAt D p1) (fun q_1 => (if q_1.1 = 0 then (if fix D q_1.2 = true then (Option.bind (f_X0_hasAccepted D p1) (fun q_4 => (if inb q_4 2 = true then some (0, q_4) else none))) else none) else some (q_1.1, 0))))
set_option maxHeartbeats 2000000 in
set_option maxRecDepth 100000 in
theorem k_X11_isAccepted (l : Launch) (hfl : l.stackTraces = false) (G : GC) (a : AS) (T : TS) (F : FS) (U : US) (S : SS) (D : DS) (R : RS) (M : MS) (N : NS) (P : PS) (hlk : lkA a D.1.toNatClampNeg D.2.1.toNatClampNeg) (p1 : Int32) (k9 : Int32) (r9 : Int32) (hm : f_X11_isAccepted D p1 = some (k9, r9)) (sz : Nat) : vx_Met l yX11_isAccepted (Cond.code yX11_isAccepted cX11_isAccepted 2 (some .boolean) :: W0) ({ frames := 7, cells := 1, slots := 6, locals := 104 }) (va_Pc [.ref (a.1 0), .int p1] (WD G (wC G a T F U S D R M N P) sz)) (va_Qi (S := Unit) (fun r _ => k9 = 0 ∧ r = r9) (fun _ t => PW G (va_A (wC G a T F U S D R M N P) sz) (wC G a T F U S D R M N P) t) (va_A (wC G a T F U S D R M N P) sz)) (vx_X (fun _ : Unit => True) (fun (E : String) (_ : Unit) (t : State) => xnm k9 = some E ∧ PW G (va_A (wC G a T F U S D R M N P) sz) (wC G a T F U S D R M N P) t) (va_A (wC G a T F U S D R M N P) sz)) 1 6 (va_A (wC G a T F U S D R M N P) sz) := by
  rw [f_X11_isAccepted] at hm
  refine vx_ofW (cc := cX11_isAccepted) (maxL := 2) (ret := (some .boolean)) (by decide) rfl ?_
  intro p e s m args below meth c s₁ B hml hout0 hv
  obtain ⟨rfl, hsz, hP, hK, hD0, hE⟩ := hv
  have hx := B.exec
  have hb := B.bytes
  have hr := B.returns
  have hts := w0_tail B.pre
  have hown : s.vm.findClass RX11 = some m.cls := findClass_of_methodNamed B.named
  have hlocks := B.notSynchronized
  have hD := hD0.self (sz := sz)
  obtain ⟨A, hAe⟩ : ∃ A, (va_A (wC G a T F U S D R M N P) sz) = A := ⟨_, rfl⟩
  rw [hAe] at hD hE
  have hA : ∀ q : Nat, s.heap.size ≤ q → A q := fun q h => by rw [← hAe]; exact Or.inr (by rw [← hsz]; exact h)
  have hS : va_S A s.heap s.heap [] := va_S.rf
  obtain ⟨H, hHe⟩ : ∃ H : Heap, H = s.heap := ⟨_, rfl⟩
  have hP : va_P (DG G) clP3 (wC G a T F U S D R M N P) H := by rw [hHe]; exact hP
  have hS : va_S A s.heap H [] := by rw [hHe]; exact hS
  have hl := lv_entry ([.ref (a.1 0), .int p1]) (n := 2) (Nat.le_of_ble_eq_true rfl)
  rw [lg_entry_eq, ← hHe]
  generalize (lg_sl ([.ref (a.1 0), .int p1]) ++ List.replicate (2 - (lg_sl ([.ref (a.1 0), .int p1])).length) Slot.unset).toArray = ls at hl ⊢
  have hl : lv_has ls 2 [(0, .ref (a.1 0)), (1, .int p1)] := hl
  refine lv_aload_n hx hb dX11_isAccepted_0 rfl (lv_at hl 0 rfl) ?_
  refine lv_iload_n hx hb dX11_isAccepted_1 rfl (lv_at hl 1 rfl) ?_
  obtain ⟨q_1, hq_1, hm⟩ := bind_some hm
  have hFc := free_all hD hS hA
  refine vx_callq (vx_runV (As := [.int p1]) (rest := []) ⟨hx, hb, hml, hown, hts⟩ (k_X11_functionAt l hfl G a T F U S D R M N P hlk p1  q_1.1 q_1.2 hq_1 H.size) (cwV 1 hts (gV wm571 wm573 ws_p7 wm1 wm574) rfl rfl rfl (by decide +kernel) ⟨Nat.le_of_ble_eq_true rfl, Nat.le_of_ble_eq_true rfl⟩) (pre_v (pre_w hK hP hD hS hE hFc) (va_recv hK hP (ci := 10) (q0 := 0) rfl rfl)) rfl rfl hl.1 rfl (lv_room (Nat.le_of_ble_eq_true rfl)) dX11_isAccepted_2 ⟨Nat.le_of_ble_eq_true rfl, Nat.le_of_ble_eq_true rfl⟩) hS (fun q _ h => hFc q h) hFc (fun q _ h => hFc q h) (fun E ce q9 u_2 t H locs ht hvm hpx hBX hz1 hk1 hS hce hv9 hcl => ?_) (fun r u_2 t H locs ht hvm hw hB hz1 hk1 hS => ?_)
  · have hne : ¬ q_1.1 = 0 := xnm_ne hBX.1
    rw [if_neg hne] at hm
    have hX9 := hBX.1
    have hB := hBX.2
    have hP : va_P (DG G) clP3 (wC G a T F U S D R M N P) H := by rw [← ht]; exact hB.1
    have hD : va_D A (wC G a T F U S D R M N P) := hB.2.weaken (fun _ p _ h => hFc p.1 h)
    simp only [Option.some.injEq, Prod.mk.injEq] at hm
    obtain ⟨rfl, rfl⟩ := hm
    subst hAe
    exact vx_out (fun x hx => (hout0 x hx).elim) hlocks hce hv9 hcl (fun t2 ht2 _ => ⟨(), trivial, ⟨hX9, by rw [ht2]; exact hP, hD⟩, hS.F ht2⟩) hS.2.2 (Nat.le_of_ble_eq_true rfl) (Nat.le_of_ble_eq_true rfl)
  · rw [if_pos hw.1] at hm
    rw [show r = rfF a q_1.2 from hw.2]
    have hP : va_P (DG G) clP3 (wC G a T F U S D R M N P) H := by rw [← ht]; exact hB.1
    have hD : va_D A (wC G a T F U S D R M N P) := hB.2.weaken (fun _ p _ h => hFc p.1 h)
    refine W.widen (k := 1) (n := 6) (Nat.le_of_ble_eq_true rfl) (Nat.le_of_ble_eq_true rfl) ?_
    obtain ⟨g_3, hm⟩ := ite_some hm
    rw [rfF_pos g_3]
    refine W.eq (g2 := F0 m 5 ls [.ref (a.2.1 (Int32.toNatClampNeg q_1.2))]) rfl ?_
    refine lv_pop hx hb dX11_isAccepted_5 rfl ?_
    refine lv_aload_n hx hb dX11_isAccepted_6 rfl (lv_at hl 0 rfl) ?_
    refine va_get (D := DG G) (ci := 10) (v := .ref (a.1 21)) (C := RX11) (T := TX11) (N := 10) hx hb hts inW_X11 hown hK hP 0 rfl rfl 3 (by decide) (hts _ wm287) (fun _ h9 => h9) rfl dX11_isAccepted_7 ?_
    refine lv_iload_n hx hb dX11_isAccepted_10 rfl (lv_at hl 1 rfl) ?_
    obtain ⟨q_4, hq_4, hm⟩ := bind_some hm
    have hFc := free_all hD hS hA
    refine va_calli (va_runV (As := [.int p1]) (rest := []) ⟨hx, hb, hml, hown, hts⟩ (k_X0_hasAccepted l hfl G a T F U S D R M N P hlk p1  q_4 hq_4 H.size) (cwV 1 hts (gV wm592 wm593 wm594 wm5 wm595) rfl rfl rfl (by decide +kernel) ⟨Nat.le_of_ble_eq_true rfl, Nat.le_of_ble_eq_true rfl⟩) (pre_v (pre_w hK hP hD hS hE hFc) (va_recv hK hP (ci := 0) (q0 := 21) rfl rfl)) rfl rfl hl.1 rfl (lv_room (Nat.le_of_ble_eq_true rfl)) dX11_isAccepted_11 ⟨Nat.le_of_ble_eq_true rfl, Nat.le_of_ble_eq_true rfl⟩) hS (fun q _ h => hFc q h) hFc (fun r u t H locs ht hvm hw hB hz1 hk1 hS => ?_)
    rw [show r = q_4 from hw]
    have hP : va_P (DG G) clP3 (wC G a T F U S D R M N P) H := by rw [← ht]; exact hB.1
    have hD : va_D A (wC G a T F U S D R M N P) := hB.2.weaken (fun _ p _ h => hFc p.1 h)
    clear hB hFc hw hk1
    refine W.widen (k := 1) (n := 6) (Nat.le_of_ble_eq_true rfl) (Nat.le_of_ble_eq_true rfl) ?_
    obtain ⟨n_5, hm⟩ := ite_some hm
    simp only [Option.some.injEq, Prod.mk.injEq] at hm
    obtain ⟨rfl, rfl⟩ := hm
    subst hAe
    refine W.widen (k := 1) (n := 6) (Nat.le_of_ble_eq_true rfl) (Nat.le_of_ble_eq_true rfl) ?_
    exact vx_ret (W.zret (v := q_4) (ty := .boolean) hx hb hr (nar_bool n_5) (fun t ht hW => ⟨⟨q_4, (), rfl, ⟨rfl, rfl⟩, ⟨by rw [ht]; exact hP, hD⟩⟩, hS.F ht⟩) hS.2.2 dX11_isAccepted_14 hlocks)
def f_X11_run (T : TS) (F : FS) (U : US) (S : SS) (D : DS) (M : MS) (N : NS) (P : PS) (p1 : Int32) : Option (Int32 × Int32 × TS × FS × US × MS × NS) := (Option.bind (f_X11_termAt N p1) (fun q_1 => (if q_1.1 = 0 then (Option.bind (g_X9_mark T) (fun q_3 => (Option.bind (f_X10_isOfData T F U S D P q_1.2) (fun q_4 => (if q_4.1 = 0 then (Option.bind (f_X11_numberOfScratch q_4.2.1 q_3 (-1)) (fun q_6 => (if q_6.1 = 0 then some (0, q_6.2.1, q_6.2.2, q_4.2.2.1, q_4.2.2.2, M, (N.1, N.2.1, (N.2.2 + (M.2.2.2.2.2.2.1).toInt64))) else some (q_6.1, 0, q_6.2.2, q_4.2.2.1, q_4.2.2.2, M, N)))) else (Option.bind (f_X5_valueOf1 q_4.2.1 S D M P q_1.2) (fun q_8 => (Option.bind (f_X11_numberOfScratch q_8.2.1 q_3 q_8.1) (fun q_9 => (if q_9.1 = 0 then some (0, q_9.2.1, q_9.2.2, q_4.2.2.1, q_4.2.2.2, q_8.2.2, (N.1, N.2.1, (N.2.2 + (q_8.2.2.2.2.2.2.2.2.1).toInt64))) else some (q_9.1, 0, q_9.2.2, q_4.2.2.1, q_4.2.2.2, q_8.2.2, N))))))))))) else some (q_1.1, 0, T, F, U, M, N))))
set_option maxHeartbeats 2000000 in
set_option maxRecDepth 100000 in
theorem k_X11_run (l : Launch) (hfl : l.stackTraces = false) (G : GC) (a : AS) (T : TS) (F : FS) (U : US) (S : SS) (D : DS) (R : RS) (M : MS) (N : NS) (P : PS) (hlk : lkA a D.1.toNatClampNeg D.2.1.toNatClampNeg) (p1 : Int32) (k9 : Int32) (r9 : Int32) (T9 : TS) (F9 : FS) (U9 : US) (M9 : MS) (N9 : NS) (hm : f_X11_run T F U S D M N P p1 = some (k9, r9, T9, F9, U9, M9, N9)) (sz : Nat) : vx_Met l yX11_run (Cond.code yX11_run cX11_run 6 (some .int) :: W0) ({ frames := 582, cells := 2, slots := 12, locals := 15246 }) (va_Pc [.ref (a.1 0), .int p1] (WD G (wC G a T F U S D R M N P) sz)) (va_Qi (S := Unit) (fun r _ => k9 = 0 ∧ r = r9) (fun _ t => PW G (va_A (wC G a T F U S D R M N P) sz) (wC G a T9 F9 U9 S D R M9 N9 P) t) (va_A (wC G a T F U S D R M N P) sz)) (vx_X (fun _ : Unit => True) (fun (E : String) (_ : Unit) (t : State) => xnm k9 = some E ∧ PW G (va_A (wC G a T F U S D R M N P) sz) (wC G a T9 F9 U9 S D R M9 N9 P) t) (va_A (wC G a T F U S D R M N P) sz)) 2 12 (va_A (wC G a T F U S D R M N P) sz) := by
  rw [f_X11_run] at hm
  refine vx_ofW (cc := cX11_run) (maxL := 6) (ret := (some .int)) (by decide) rfl ?_
  intro p e s m args below meth c s₁ B hml hout0 hv
  obtain ⟨rfl, hsz, hP, hK, hD0, hE⟩ := hv
  have hx := B.exec
  have hb := B.bytes
  have hr := B.returns
  have hts := w0_tail B.pre
  have hown : s.vm.findClass RX11 = some m.cls := findClass_of_methodNamed B.named
  have hlocks := B.notSynchronized
  have hD := hD0.self (sz := sz)
  obtain ⟨A, hAe⟩ : ∃ A, (va_A (wC G a T F U S D R M N P) sz) = A := ⟨_, rfl⟩
  rw [hAe] at hD hE
  have hA : ∀ q : Nat, s.heap.size ≤ q → A q := fun q h => by rw [← hAe]; exact Or.inr (by rw [← hsz]; exact h)
  have hS : va_S A s.heap s.heap [] := va_S.rf
  obtain ⟨H, hHe⟩ : ∃ H : Heap, H = s.heap := ⟨_, rfl⟩
  have hP : va_P (DG G) clP3 (wC G a T F U S D R M N P) H := by rw [hHe]; exact hP
  have hS : va_S A s.heap H [] := by rw [hHe]; exact hS
  have hl := lv_entry ([.ref (a.1 0), .int p1]) (n := 6) (Nat.le_of_ble_eq_true rfl)
  rw [lg_entry_eq, ← hHe]
  generalize (lg_sl ([.ref (a.1 0), .int p1]) ++ List.replicate (6 - (lg_sl ([.ref (a.1 0), .int p1])).length) Slot.unset).toArray = ls at hl ⊢
  have hl : lv_has ls 6 [(0, .ref (a.1 0)), (1, .int p1)] := hl
  refine lv_aload_n hx hb dX11_run_0 rfl (lv_at hl 0 rfl) ?_
  refine lv_iload_n hx hb dX11_run_1 rfl (lv_at hl 1 rfl) ?_
  obtain ⟨q_1, hq_1, hm⟩ := bind_some hm
  have hFc := free_all hD hS hA
  refine vx_calli (vx_runV (As := [.int p1]) (rest := []) ⟨hx, hb, hml, hown, hts⟩ (k_X11_termAt l hfl G a T F U S D R M N P hlk p1  q_1.1 q_1.2 hq_1 H.size) (cwV 1 hts (gV wm319 wm321 ws_p0 wm1 wm322) rfl rfl rfl (by decide +kernel) ⟨Nat.le_of_ble_eq_true rfl, Nat.le_of_ble_eq_true rfl⟩) (pre_v (pre_w hK hP hD hS hE hFc) (va_recv hK hP (ci := 10) (q0 := 0) rfl rfl)) rfl rfl hl.1 rfl (lv_room (Nat.le_of_ble_eq_true rfl)) dX11_run_2 ⟨Nat.le_of_ble_eq_true rfl, Nat.le_of_ble_eq_true rfl⟩) hS (fun q _ h => hFc q h) hFc (fun q _ h => hFc q h) (fun E ce q9 u_2 t H locs ht hvm hpx hBX hz1 hk1 hS hce hv9 hcl => ?_) (fun r u_2 t H locs ht hvm hw hB hz1 hk1 hS => ?_)
  · have hne : ¬ q_1.1 = 0 := xnm_ne hBX.1
    rw [if_neg hne] at hm
    have hX9 := hBX.1
    have hB := hBX.2
    have hP : va_P (DG G) clP3 (wC G a T F U S D R M N P) H := by rw [← ht]; exact hB.1
    have hD : va_D A (wC G a T F U S D R M N P) := hB.2.weaken (fun _ p _ h => hFc p.1 h)
    simp only [Option.some.injEq, Prod.mk.injEq] at hm
    obtain ⟨rfl, rfl, rfl, rfl, rfl, rfl, rfl⟩ := hm
    subst hAe
    exact vx_out (fun x hx => (hout0 x hx).elim) hlocks hce hv9 hcl (fun t2 ht2 _ => ⟨(), trivial, ⟨hX9, by rw [ht2]; exact hP, hD⟩, hS.F ht2⟩) hS.2.2 (Nat.le_of_ble_eq_true rfl) (Nat.le_of_ble_eq_true rfl)
  · rw [if_pos hw.1] at hm
    rw [show r = q_1.2 from hw.2]
    have hP : va_P (DG G) clP3 (wC G a T F U S D R M N P) H := by rw [← ht]; exact hB.1
    have hD : va_D A (wC G a T F U S D R M N P) := hB.2.weaken (fun _ p _ h => hFc p.1 h)
    refine W.widen (k := 1) (n := 6) (Nat.le_of_ble_eq_true rfl) (Nat.le_of_ble_eq_true rfl) ?_
    refine lv_istore_n (lv' := [(2, .int q_1.2), (0, .ref (a.1 0)), (1, .int p1)]) hx hb dX11_run_5 rfl hl (by decide) rfl (fun ls hl => ?_)
    refine lv_aload_n hx hb dX11_run_6 rfl (lv_at hl 1 rfl) ?_
    refine va_get (D := DG G) (ci := 10) (v := .ref (a.1 1)) (C := RX11) (T := TX11) (N := 10) hx hb hts inW_X11 hown hK hP 0 rfl rfl 0 (by decide) (hts _ wm284) (fun _ h9 => h9) rfl dX11_run_7 ?_
    obtain ⟨q_3, hq_3, hm⟩ := bind_some hm
    have hFc := free_all hD hS hA
    refine va_calli (va_runV (As := []) (rest := []) ⟨hx, hb, hml, hown, hts⟩ (K_X9_mark l hfl G a T F U S D R M N P   q_3 hq_3 H.size) (cwV 0 hts (gV wm410 wm411 wm412 wm2 wm413) rfl rfl rfl (by decide +kernel) ⟨Nat.le_of_ble_eq_true rfl, Nat.le_of_ble_eq_true rfl⟩) (pre_v (pre_w hK hP hD hS hE hFc) (va_recv hK hP (ci := 8) (q0 := 1) rfl rfl)) rfl rfl hl.1 rfl (lv_room (Nat.le_of_ble_eq_true rfl)) dX11_run_10 ⟨Nat.le_of_ble_eq_true rfl, Nat.le_of_ble_eq_true rfl⟩) hS (fun q _ h => hFc q h) hFc (fun r u t H locs ht hvm hw hB hz1 hk1 hS => ?_)
    rw [show r = q_3 from hw]
    have hP : va_P (DG G) clP3 (wC G a T F U S D R M N P) H := by rw [← ht]; exact hB.1
    have hD : va_D A (wC G a T F U S D R M N P) := hB.2.weaken (fun _ p _ h => hFc p.1 h)
    clear hB hFc hw hk1
    refine W.widen (k := 1) (n := 6) (Nat.le_of_ble_eq_true rfl) (Nat.le_of_ble_eq_true rfl) ?_
    refine lv_istore_n (lv' := [(3, .int q_3), (2, .int q_1.2), (0, .ref (a.1 0)), (1, .int p1)]) hx hb dX11_run_13 rfl hl (by decide) rfl (fun ls hl => ?_)
    refine lv_aload_n hx hb dX11_run_14 rfl (lv_at hl 2 rfl) ?_
    refine va_get (D := DG G) (ci := 10) (v := .ref (a.1 24)) (C := RX11) (T := TX11) (N := 10) hx hb hts inW_X11 hown hK hP 0 rfl rfl 4 (by decide) (hts _ wm288) (fun _ h9 => h9) rfl dX11_run_15 ?_
    refine lv_iload_n hx hb dX11_run_18 rfl (lv_at hl 1 rfl) ?_
    obtain ⟨q_4, hq_4, hm⟩ := bind_some hm
    have hFc := free_all hD hS hA
    refine va_calli (va_runV (As := [.int q_1.2]) (rest := []) ⟨hx, hb, hml, hown, hts⟩ (k_X10_isOfData l hfl G a T F U S D R M N P hlk q_1.2  q_4.1 q_4.2.1 q_4.2.2.1 q_4.2.2.2 hq_4 H.size) (cwV 1 hts (gV wm1158 wm1159 wm1160 wm6 wm1161) rfl rfl rfl (by decide +kernel) ⟨Nat.le_of_ble_eq_true rfl, Nat.le_of_ble_eq_true rfl⟩) (pre_v (pre_w hK hP hD hS hE hFc) (va_recv hK hP (ci := 9) (q0 := 24) rfl rfl)) rfl rfl hl.1 rfl (lv_room (Nat.le_of_ble_eq_true rfl)) dX11_run_19 ⟨Nat.le_of_ble_eq_true rfl, Nat.le_of_ble_eq_true rfl⟩) hS (fun q _ h => hFc q h) hFc (fun r u t H locs ht hvm hw hB hz1 hk1 hS => ?_)
    rw [show r = q_4.1 from hw]
    have hP : va_P (DG G) clP3 (wC G a q_4.2.1 q_4.2.2.1 q_4.2.2.2 S D R M N P) H := by rw [← ht]; exact hB.1
    have hD : va_D A (wC G a q_4.2.1 q_4.2.2.1 q_4.2.2.2 S D R M N P) := hB.2.weaken (fun _ p _ h => hFc p.1 h)
    clear hB hFc hw hk1
    refine W.widen (k := 1) (n := 6) (Nat.le_of_ble_eq_true rfl) (Nat.le_of_ble_eq_true rfl) ?_
    refine lv_if_eq (tgt := 37) hx hb dX11_run_22 (by decide) (fun c_5 => ?_) (fun c_5 => ?_)
    · rw [if_pos c_5] at hm
      refine lv_iconst (v := (-1)) hx hb dX11_run_37 (by decide) ?_
      refine lv_istore (lv' := [(4, .int (-1)), (3, .int q_3), (2, .int q_1.2), (0, .ref (a.1 0)), (1, .int p1)]) hx hb dX11_run_38 hl (by decide) rfl (fun ls hl => ?_)
      refine lv_aload_n hx hb dX11_run_40 rfl (lv_at hl 3 rfl) ?_
      refine lv_iload_n hx hb dX11_run_41 rfl (lv_at hl 1 rfl) ?_
      refine lv_iload hx hb dX11_run_42 (lv_at hl 0 rfl) ?_
      obtain ⟨q_6, hq_6, hm⟩ := bind_some hm
      have hFc := free_all hD hS hA
      refine vx_calli (vx_runV (As := [.int q_3, .int (-1)]) (rest := []) ⟨hx, hb, hml, hown, hts⟩ (k_X11_numberOfScratch l hfl G a q_4.2.1 q_4.2.2.1 q_4.2.2.2 S D R M N P hlk q_3 (-1)  q_6.1 q_6.2.1 q_6.2.2 hq_6 H.size) (cwV 2 hts (gV wm815 wm817 ws_p11 wm1 wm818) rfl rfl rfl (by decide +kernel) ⟨Nat.le_of_ble_eq_true rfl, Nat.le_of_ble_eq_true rfl⟩) (pre_v (pre_w hK hP hD hS hE hFc) (va_recv hK hP (ci := 10) (q0 := 0) rfl rfl)) rfl rfl hl.1 rfl (lv_room (Nat.le_of_ble_eq_true rfl)) dX11_run_44 ⟨Nat.le_of_ble_eq_true rfl, Nat.le_of_ble_eq_true rfl⟩) hS (fun q _ h => hFc q h) hFc (fun q _ h => hFc q h) (fun E ce q9 u_7 t H locs ht hvm hpx hBX hz1 hk1 hS hce hv9 hcl => ?_) (fun r u_7 t H locs ht hvm hw hB hz1 hk1 hS => ?_)
      · have hne : ¬ q_6.1 = 0 := xnm_ne hBX.1
        rw [if_neg hne] at hm
        have hX9 := hBX.1
        have hB := hBX.2
        have hP : va_P (DG G) clP3 (wC G a q_6.2.2 q_4.2.2.1 q_4.2.2.2 S D R M N P) H := by rw [← ht]; exact hB.1
        have hD : va_D A (wC G a q_6.2.2 q_4.2.2.1 q_4.2.2.2 S D R M N P) := hB.2.weaken (fun _ p _ h => hFc p.1 h)
        simp only [Option.some.injEq, Prod.mk.injEq] at hm
        obtain ⟨rfl, rfl, rfl, rfl, rfl, rfl, rfl⟩ := hm
        subst hAe
        exact vx_out (fun x hx => (hout0 x hx).elim) hlocks hce hv9 hcl (fun t2 ht2 _ => ⟨(), trivial, ⟨hX9, by rw [ht2]; exact hP, hD⟩, hS.F ht2⟩) hS.2.2 (Nat.le_of_ble_eq_true rfl) (Nat.le_of_ble_eq_true rfl)
      · rw [if_pos hw.1] at hm
        rw [show r = q_6.2.1 from hw.2]
        have hP : va_P (DG G) clP3 (wC G a q_6.2.2 q_4.2.2.1 q_4.2.2.2 S D R M N P) H := by rw [← ht]; exact hB.1
        have hD : va_D A (wC G a q_6.2.2 q_4.2.2.1 q_4.2.2.2 S D R M N P) := hB.2.weaken (fun _ p _ h => hFc p.1 h)
        refine W.widen (k := 2) (n := 12) (Nat.le_of_ble_eq_true rfl) (Nat.le_of_ble_eq_true rfl) ?_
        refine lv_istore (lv' := [(5, .int q_6.2.1), (4, .int (-1)), (3, .int q_3), (2, .int q_1.2), (0, .ref (a.1 0)), (1, .int p1)]) hx hb dX11_run_47 hl (by decide) rfl (fun ls hl => ?_)
        refine lv_aload_n hx hb dX11_run_49 rfl (lv_at hl 4 rfl) ?_
        refine lv_dup hx hb dX11_run_50 rfl ?_
        refine va_get (D := DG G) (ci := 10) (v := .long N.2.2) (C := RX11) (T := TX11) (N := 10) hx hb hts inW_X11 hown hK hP 0 rfl rfl 9 (by decide) (hts _ wm293) (fun _ h9 => h9) rfl dX11_run_51 ?_
        refine lv_aload_n hx hb dX11_run_54 rfl (lv_at hl 4 rfl) ?_
        refine va_get (D := DG G) (ci := 10) (v := .ref (a.1 31)) (C := RX11) (T := TX11) (N := 10) hx hb hts inW_X11 hown hK hP 0 rfl rfl 6 (by decide) (hts _ wm290) (fun _ h9 => h9) rfl dX11_run_55 ?_
        refine va_getN (D := DG G) (ci := 5) (v := .int M.2.2.2.2.2.2.1) (C := RX5) (T := TX5) (N := 12) hx hb hts inW_X5 hown hK hP 31 rfl rfl 9 (by decide) (va_Nw.use rfl (hE.1 _ nw256)) (fun _ h9 => h9) rfl dX11_run_58 ?_
        refine lv_i2l (v := (M.2.2.2.2.2.2.1).toInt64) hx hb dX11_run_61 rfl ?_
        refine lv_ladd hx hb dX11_run_62 ?_
        refine va_put (D := DG G) (ci := 10) (v := .long (N.2.2 + (M.2.2.2.2.2.2.1).toInt64)) (ty := tyX11 9) (C := RX11) (T := TX11) (N := 10) hx hb hts inW_X11 tyX11 tyX11_ok nmX11 hown hK hP hD hS 0 rfl rfl 9 (by decide) (hts _ wm293) (fun _ h9 => h9) rfl (by decide +kernel) rfl rfl (Nat.le_of_ble_eq_true rfl) dX11_run_63 (fun H locs hP hD hS => ?_)
        have hP : va_P (DG G) clP3 (wC G a q_6.2.2 q_4.2.2.1 q_4.2.2.2 S D R M (N.1, N.2.1, (N.2.2 + (M.2.2.2.2.2.2.1).toInt64)) P) H := hP
        have hD : va_D A (wC G a q_6.2.2 q_4.2.2.1 q_4.2.2.2 S D R M (N.1, N.2.1, (N.2.2 + (M.2.2.2.2.2.2.1).toInt64)) P) := hD
        refine lv_iload hx hb dX11_run_66 (lv_at hl 0 rfl) ?_
        simp only [Option.some.injEq, Prod.mk.injEq] at hm
        obtain ⟨rfl, rfl, rfl, rfl, rfl, rfl, rfl⟩ := hm
        subst hAe
        refine W.widen (k := 2) (n := 12) (Nat.le_of_ble_eq_true rfl) (Nat.le_of_ble_eq_true rfl) ?_
        exact vx_ret (W.iret (v := q_6.2.1) hx hb hr (fun t ht hW => ⟨⟨q_6.2.1, (), rfl, ⟨rfl, rfl⟩, ⟨by rw [ht]; exact hP, hD⟩⟩, hS.F ht⟩) hS.2.2 dX11_run_68 hlocks)
    · rw [if_neg c_5] at hm
      refine lv_aload_n hx hb dX11_run_25 rfl (lv_at hl 2 rfl) ?_
      refine va_get (D := DG G) (ci := 10) (v := .ref (a.1 31)) (C := RX11) (T := TX11) (N := 10) hx hb hts inW_X11 hown hK hP 0 rfl rfl 6 (by decide) (hts _ wm290) (fun _ h9 => h9) rfl dX11_run_26 ?_
      refine lv_iload_n hx hb dX11_run_29 rfl (lv_at hl 1 rfl) ?_
      refine lv_iconst (v := 1) hx hb dX11_run_30 (by decide) ?_
      obtain ⟨q_8, hq_8, hm⟩ := bind_some hm
      have hFc := free_all hD hS hA
      refine va_calli (va_runV (As := [.int q_1.2, .int 1]) (rest := []) ⟨hx, hb, hml, hown, hts⟩ (k_X5_valueOf1 l hfl G a q_4.2.1 q_4.2.2.1 q_4.2.2.2 S D R M N P hlk q_1.2  q_8.1 q_8.2.1 q_8.2.2 hq_8 H.size) (cwV 2 hts (gV wm1162 wm1163 wm1164 wm10 wm1165) rfl rfl rfl (by decide +kernel) ⟨Nat.le_of_ble_eq_true rfl, Nat.le_of_ble_eq_true rfl⟩) (pre_v (pre_w hK hP hD hS hE hFc) (va_recv hK hP (ci := 5) (q0 := 31) rfl rfl)) rfl rfl hl.1 rfl (lv_room (Nat.le_of_ble_eq_true rfl)) dX11_run_31 ⟨Nat.le_of_ble_eq_true rfl, Nat.le_of_ble_eq_true rfl⟩) hS (fun q _ h => hFc q h) hFc (fun r u t H locs ht hvm hw hB hz1 hk1 hS => ?_)
      rw [show r = q_8.1 from hw]
      have hP : va_P (DG G) clP3 (wC G a q_8.2.1 q_4.2.2.1 q_4.2.2.2 S D R q_8.2.2 N P) H := by rw [← ht]; exact hB.1
      have hD : va_D A (wC G a q_8.2.1 q_4.2.2.1 q_4.2.2.2 S D R q_8.2.2 N P) := hB.2.weaken (fun _ p _ h => hFc p.1 h)
      clear hB hFc hw hk1
      refine W.widen (k := 1) (n := 6) (Nat.le_of_ble_eq_true rfl) (Nat.le_of_ble_eq_true rfl) ?_
      refine lv_goto (tgt := 38) hx hb dX11_run_34 (by decide) ?_
      refine lv_istore (lv' := [(4, .int q_8.1), (3, .int q_3), (2, .int q_1.2), (0, .ref (a.1 0)), (1, .int p1)]) hx hb dX11_run_38 hl (by decide) rfl (fun ls hl => ?_)
      refine lv_aload_n hx hb dX11_run_40 rfl (lv_at hl 3 rfl) ?_
      refine lv_iload_n hx hb dX11_run_41 rfl (lv_at hl 1 rfl) ?_
      refine lv_iload hx hb dX11_run_42 (lv_at hl 0 rfl) ?_
      obtain ⟨q_9, hq_9, hm⟩ := bind_some hm
      have hFc := free_all hD hS hA
      refine vx_calli (vx_runV (As := [.int q_3, .int q_8.1]) (rest := []) ⟨hx, hb, hml, hown, hts⟩ (k_X11_numberOfScratch l hfl G a q_8.2.1 q_4.2.2.1 q_4.2.2.2 S D R q_8.2.2 N P hlk q_3 q_8.1  q_9.1 q_9.2.1 q_9.2.2 hq_9 H.size) (cwV 2 hts (gV wm815 wm817 ws_p11 wm1 wm818) rfl rfl rfl (by decide +kernel) ⟨Nat.le_of_ble_eq_true rfl, Nat.le_of_ble_eq_true rfl⟩) (pre_v (pre_w hK hP hD hS hE hFc) (va_recv hK hP (ci := 10) (q0 := 0) rfl rfl)) rfl rfl hl.1 rfl (lv_room (Nat.le_of_ble_eq_true rfl)) dX11_run_44 ⟨Nat.le_of_ble_eq_true rfl, Nat.le_of_ble_eq_true rfl⟩) hS (fun q _ h => hFc q h) hFc (fun q _ h => hFc q h) (fun E ce q9 u_10 t H locs ht hvm hpx hBX hz1 hk1 hS hce hv9 hcl => ?_) (fun r u_10 t H locs ht hvm hw hB hz1 hk1 hS => ?_)
      · have hne : ¬ q_9.1 = 0 := xnm_ne hBX.1
        rw [if_neg hne] at hm
        have hX9 := hBX.1
        have hB := hBX.2
        have hP : va_P (DG G) clP3 (wC G a q_9.2.2 q_4.2.2.1 q_4.2.2.2 S D R q_8.2.2 N P) H := by rw [← ht]; exact hB.1
        have hD : va_D A (wC G a q_9.2.2 q_4.2.2.1 q_4.2.2.2 S D R q_8.2.2 N P) := hB.2.weaken (fun _ p _ h => hFc p.1 h)
        simp only [Option.some.injEq, Prod.mk.injEq] at hm
        obtain ⟨rfl, rfl, rfl, rfl, rfl, rfl, rfl⟩ := hm
        subst hAe
        exact vx_out (fun x hx => (hout0 x hx).elim) hlocks hce hv9 hcl (fun t2 ht2 _ => ⟨(), trivial, ⟨hX9, by rw [ht2]; exact hP, hD⟩, hS.F ht2⟩) hS.2.2 (Nat.le_of_ble_eq_true rfl) (Nat.le_of_ble_eq_true rfl)
      · rw [if_pos hw.1] at hm
        rw [show r = q_9.2.1 from hw.2]
        have hP : va_P (DG G) clP3 (wC G a q_9.2.2 q_4.2.2.1 q_4.2.2.2 S D R q_8.2.2 N P) H := by rw [← ht]; exact hB.1
        have hD : va_D A (wC G a q_9.2.2 q_4.2.2.1 q_4.2.2.2 S D R q_8.2.2 N P) := hB.2.weaken (fun _ p _ h => hFc p.1 h)
        refine W.widen (k := 2) (n := 12) (Nat.le_of_ble_eq_true rfl) (Nat.le_of_ble_eq_true rfl) ?_
        refine lv_istore (lv' := [(5, .int q_9.2.1), (4, .int q_8.1), (3, .int q_3), (2, .int q_1.2), (0, .ref (a.1 0)), (1, .int p1)]) hx hb dX11_run_47 hl (by decide) rfl (fun ls hl => ?_)
        refine lv_aload_n hx hb dX11_run_49 rfl (lv_at hl 4 rfl) ?_
        refine lv_dup hx hb dX11_run_50 rfl ?_
        refine va_get (D := DG G) (ci := 10) (v := .long N.2.2) (C := RX11) (T := TX11) (N := 10) hx hb hts inW_X11 hown hK hP 0 rfl rfl 9 (by decide) (hts _ wm293) (fun _ h9 => h9) rfl dX11_run_51 ?_
        refine lv_aload_n hx hb dX11_run_54 rfl (lv_at hl 4 rfl) ?_
        refine va_get (D := DG G) (ci := 10) (v := .ref (a.1 31)) (C := RX11) (T := TX11) (N := 10) hx hb hts inW_X11 hown hK hP 0 rfl rfl 6 (by decide) (hts _ wm290) (fun _ h9 => h9) rfl dX11_run_55 ?_
        refine va_getN (D := DG G) (ci := 5) (v := .int q_8.2.2.2.2.2.2.2.2.1) (C := RX5) (T := TX5) (N := 12) hx hb hts inW_X5 hown hK hP 31 rfl rfl 9 (by decide) (va_Nw.use rfl (hE.1 _ nw256)) (fun _ h9 => h9) rfl dX11_run_58 ?_
        refine lv_i2l (v := (q_8.2.2.2.2.2.2.2.2.1).toInt64) hx hb dX11_run_61 rfl ?_
        refine lv_ladd hx hb dX11_run_62 ?_
        refine va_put (D := DG G) (ci := 10) (v := .long (N.2.2 + (q_8.2.2.2.2.2.2.2.2.1).toInt64)) (ty := tyX11 9) (C := RX11) (T := TX11) (N := 10) hx hb hts inW_X11 tyX11 tyX11_ok nmX11 hown hK hP hD hS 0 rfl rfl 9 (by decide) (hts _ wm293) (fun _ h9 => h9) rfl (by decide +kernel) rfl rfl (Nat.le_of_ble_eq_true rfl) dX11_run_63 (fun H locs hP hD hS => ?_)
        have hP : va_P (DG G) clP3 (wC G a q_9.2.2 q_4.2.2.1 q_4.2.2.2 S D R q_8.2.2 (N.1, N.2.1, (N.2.2 + (q_8.2.2.2.2.2.2.2.2.1).toInt64)) P) H := hP
        have hD : va_D A (wC G a q_9.2.2 q_4.2.2.1 q_4.2.2.2 S D R q_8.2.2 (N.1, N.2.1, (N.2.2 + (q_8.2.2.2.2.2.2.2.2.1).toInt64)) P) := hD
        refine lv_iload hx hb dX11_run_66 (lv_at hl 0 rfl) ?_
        simp only [Option.some.injEq, Prod.mk.injEq] at hm
        obtain ⟨rfl, rfl, rfl, rfl, rfl, rfl, rfl⟩ := hm
        subst hAe
        refine W.widen (k := 2) (n := 12) (Nat.le_of_ble_eq_true rfl) (Nat.le_of_ble_eq_true rfl) ?_
        exact vx_ret (W.iret (v := q_9.2.1) hx hb hr (fun t ht hW => ⟨⟨q_9.2.1, (), rfl, ⟨rfl, rfl⟩, ⟨by rw [ht]; exact hP, hD⟩⟩, hS.F ht⟩) hS.2.2 dX11_run_68 hlocks)
def f_X11_runByClauses (T : TS) (F : FS) (U : US) (S : SS) (D : DS) (M : MS) (N : NS) (P : PS) (p1 : Int32) : Option (Int32 × Int32 × TS × FS × US × MS) := (Option.bind (f_X11_termAt N p1) (fun q_1 => (if q_1.1 = 0 then (Option.bind (g_X9_mark T) (fun q_3 => (Option.bind (f_X10_isOfData T F U S D P q_1.2) (fun q_4 => (if q_4.1 = 0 then (Option.bind (f_X11_numberOfScratch q_4.2.1 q_3 (-1)) (fun q_6 => (if q_6.1 = 0 then some (0, q_6.2.1, q_6.2.2, q_4.2.2.1, q_4.2.2.2, M) else some (q_6.1, 0, q_6.2.2, q_4.2.2.1, q_4.2.2.2, M)))) else (Option.bind (f_X5_valueOf0 q_4.2.1 S D M P q_1.2) (fun q_8 => (Option.bind (f_X11_numberOfScratch q_8.2.1 q_3 q_8.1) (fun q_9 => (if q_9.1 = 0 then some (0, q_9.2.1, q_9.2.2, q_4.2.2.1, q_4.2.2.2, q_8.2.2) else some (q_9.1, 0, q_9.2.2, q_4.2.2.1, q_4.2.2.2, q_8.2.2))))))))))) else some (q_1.1, 0, T, F, U, M))))
set_option maxHeartbeats 2000000 in
set_option maxRecDepth 100000 in
theorem k_X11_runByClauses (l : Launch) (hfl : l.stackTraces = false) (G : GC) (a : AS) (T : TS) (F : FS) (U : US) (S : SS) (D : DS) (R : RS) (M : MS) (N : NS) (P : PS) (hlk : lkA a D.1.toNatClampNeg D.2.1.toNatClampNeg) (p1 : Int32) (k9 : Int32) (r9 : Int32) (T9 : TS) (F9 : FS) (U9 : US) (M9 : MS) (hm : f_X11_runByClauses T F U S D M N P p1 = some (k9, r9, T9, F9, U9, M9)) (sz : Nat) : vx_Met l yX11_runByClauses (Cond.code yX11_runByClauses cX11_runByClauses 5 (some .int) :: W0) ({ frames := 582, cells := 2, slots := 12, locals := 15246 }) (va_Pc [.ref (a.1 0), .int p1] (WD G (wC G a T F U S D R M N P) sz)) (va_Qi (S := Unit) (fun r _ => k9 = 0 ∧ r = r9) (fun _ t => PW G (va_A (wC G a T F U S D R M N P) sz) (wC G a T9 F9 U9 S D R M9 N P) t) (va_A (wC G a T F U S D R M N P) sz)) (vx_X (fun _ : Unit => True) (fun (E : String) (_ : Unit) (t : State) => xnm k9 = some E ∧ PW G (va_A (wC G a T F U S D R M N P) sz) (wC G a T9 F9 U9 S D R M9 N P) t) (va_A (wC G a T F U S D R M N P) sz)) 2 12 (va_A (wC G a T F U S D R M N P) sz) := by
  rw [f_X11_runByClauses] at hm
  refine vx_ofW (cc := cX11_runByClauses) (maxL := 5) (ret := (some .int)) (by decide) rfl ?_
  intro p e s m args below meth c s₁ B hml hout0 hv
  obtain ⟨rfl, hsz, hP, hK, hD0, hE⟩ := hv
  have hx := B.exec
  have hb := B.bytes
  have hr := B.returns
  have hts := w0_tail B.pre
  have hown : s.vm.findClass RX11 = some m.cls := findClass_of_methodNamed B.named
  have hlocks := B.notSynchronized
  have hD := hD0.self (sz := sz)
  obtain ⟨A, hAe⟩ : ∃ A, (va_A (wC G a T F U S D R M N P) sz) = A := ⟨_, rfl⟩
  rw [hAe] at hD hE
  have hA : ∀ q : Nat, s.heap.size ≤ q → A q := fun q h => by rw [← hAe]; exact Or.inr (by rw [← hsz]; exact h)
  have hS : va_S A s.heap s.heap [] := va_S.rf
  obtain ⟨H, hHe⟩ : ∃ H : Heap, H = s.heap := ⟨_, rfl⟩
  have hP : va_P (DG G) clP3 (wC G a T F U S D R M N P) H := by rw [hHe]; exact hP
  have hS : va_S A s.heap H [] := by rw [hHe]; exact hS
  have hl := lv_entry ([.ref (a.1 0), .int p1]) (n := 5) (Nat.le_of_ble_eq_true rfl)
  rw [lg_entry_eq, ← hHe]
  generalize (lg_sl ([.ref (a.1 0), .int p1]) ++ List.replicate (5 - (lg_sl ([.ref (a.1 0), .int p1])).length) Slot.unset).toArray = ls at hl ⊢
  have hl : lv_has ls 5 [(0, .ref (a.1 0)), (1, .int p1)] := hl
  refine lv_aload_n hx hb dX11_runByClauses_0 rfl (lv_at hl 0 rfl) ?_
  refine lv_iload_n hx hb dX11_runByClauses_1 rfl (lv_at hl 1 rfl) ?_
  obtain ⟨q_1, hq_1, hm⟩ := bind_some hm
  have hFc := free_all hD hS hA
  refine vx_calli (vx_runV (As := [.int p1]) (rest := []) ⟨hx, hb, hml, hown, hts⟩ (k_X11_termAt l hfl G a T F U S D R M N P hlk p1  q_1.1 q_1.2 hq_1 H.size) (cwV 1 hts (gV wm319 wm321 ws_p0 wm1 wm322) rfl rfl rfl (by decide +kernel) ⟨Nat.le_of_ble_eq_true rfl, Nat.le_of_ble_eq_true rfl⟩) (pre_v (pre_w hK hP hD hS hE hFc) (va_recv hK hP (ci := 10) (q0 := 0) rfl rfl)) rfl rfl hl.1 rfl (lv_room (Nat.le_of_ble_eq_true rfl)) dX11_runByClauses_2 ⟨Nat.le_of_ble_eq_true rfl, Nat.le_of_ble_eq_true rfl⟩) hS (fun q _ h => hFc q h) hFc (fun q _ h => hFc q h) (fun E ce q9 u_2 t H locs ht hvm hpx hBX hz1 hk1 hS hce hv9 hcl => ?_) (fun r u_2 t H locs ht hvm hw hB hz1 hk1 hS => ?_)
  · have hne : ¬ q_1.1 = 0 := xnm_ne hBX.1
    rw [if_neg hne] at hm
    have hX9 := hBX.1
    have hB := hBX.2
    have hP : va_P (DG G) clP3 (wC G a T F U S D R M N P) H := by rw [← ht]; exact hB.1
    have hD : va_D A (wC G a T F U S D R M N P) := hB.2.weaken (fun _ p _ h => hFc p.1 h)
    simp only [Option.some.injEq, Prod.mk.injEq] at hm
    obtain ⟨rfl, rfl, rfl, rfl, rfl, rfl⟩ := hm
    subst hAe
    exact vx_out (fun x hx => (hout0 x hx).elim) hlocks hce hv9 hcl (fun t2 ht2 _ => ⟨(), trivial, ⟨hX9, by rw [ht2]; exact hP, hD⟩, hS.F ht2⟩) hS.2.2 (Nat.le_of_ble_eq_true rfl) (Nat.le_of_ble_eq_true rfl)
  · rw [if_pos hw.1] at hm
    rw [show r = q_1.2 from hw.2]
    have hP : va_P (DG G) clP3 (wC G a T F U S D R M N P) H := by rw [← ht]; exact hB.1
    have hD : va_D A (wC G a T F U S D R M N P) := hB.2.weaken (fun _ p _ h => hFc p.1 h)
    refine W.widen (k := 1) (n := 6) (Nat.le_of_ble_eq_true rfl) (Nat.le_of_ble_eq_true rfl) ?_
    refine lv_istore_n (lv' := [(2, .int q_1.2), (0, .ref (a.1 0)), (1, .int p1)]) hx hb dX11_runByClauses_5 rfl hl (by decide) rfl (fun ls hl => ?_)
    refine lv_aload_n hx hb dX11_runByClauses_6 rfl (lv_at hl 1 rfl) ?_
    refine va_get (D := DG G) (ci := 10) (v := .ref (a.1 1)) (C := RX11) (T := TX11) (N := 10) hx hb hts inW_X11 hown hK hP 0 rfl rfl 0 (by decide) (hts _ wm284) (fun _ h9 => h9) rfl dX11_runByClauses_7 ?_
    obtain ⟨q_3, hq_3, hm⟩ := bind_some hm
    have hFc := free_all hD hS hA
    refine va_calli (va_runV (As := []) (rest := []) ⟨hx, hb, hml, hown, hts⟩ (K_X9_mark l hfl G a T F U S D R M N P   q_3 hq_3 H.size) (cwV 0 hts (gV wm410 wm411 wm412 wm2 wm413) rfl rfl rfl (by decide +kernel) ⟨Nat.le_of_ble_eq_true rfl, Nat.le_of_ble_eq_true rfl⟩) (pre_v (pre_w hK hP hD hS hE hFc) (va_recv hK hP (ci := 8) (q0 := 1) rfl rfl)) rfl rfl hl.1 rfl (lv_room (Nat.le_of_ble_eq_true rfl)) dX11_runByClauses_10 ⟨Nat.le_of_ble_eq_true rfl, Nat.le_of_ble_eq_true rfl⟩) hS (fun q _ h => hFc q h) hFc (fun r u t H locs ht hvm hw hB hz1 hk1 hS => ?_)
    rw [show r = q_3 from hw]
    have hP : va_P (DG G) clP3 (wC G a T F U S D R M N P) H := by rw [← ht]; exact hB.1
    have hD : va_D A (wC G a T F U S D R M N P) := hB.2.weaken (fun _ p _ h => hFc p.1 h)
    clear hB hFc hw hk1
    refine W.widen (k := 1) (n := 6) (Nat.le_of_ble_eq_true rfl) (Nat.le_of_ble_eq_true rfl) ?_
    refine lv_istore_n (lv' := [(3, .int q_3), (2, .int q_1.2), (0, .ref (a.1 0)), (1, .int p1)]) hx hb dX11_runByClauses_13 rfl hl (by decide) rfl (fun ls hl => ?_)
    refine lv_aload_n hx hb dX11_runByClauses_14 rfl (lv_at hl 2 rfl) ?_
    refine va_get (D := DG G) (ci := 10) (v := .ref (a.1 24)) (C := RX11) (T := TX11) (N := 10) hx hb hts inW_X11 hown hK hP 0 rfl rfl 4 (by decide) (hts _ wm288) (fun _ h9 => h9) rfl dX11_runByClauses_15 ?_
    refine lv_iload_n hx hb dX11_runByClauses_18 rfl (lv_at hl 1 rfl) ?_
    obtain ⟨q_4, hq_4, hm⟩ := bind_some hm
    have hFc := free_all hD hS hA
    refine va_calli (va_runV (As := [.int q_1.2]) (rest := []) ⟨hx, hb, hml, hown, hts⟩ (k_X10_isOfData l hfl G a T F U S D R M N P hlk q_1.2  q_4.1 q_4.2.1 q_4.2.2.1 q_4.2.2.2 hq_4 H.size) (cwV 1 hts (gV wm1158 wm1159 wm1160 wm6 wm1161) rfl rfl rfl (by decide +kernel) ⟨Nat.le_of_ble_eq_true rfl, Nat.le_of_ble_eq_true rfl⟩) (pre_v (pre_w hK hP hD hS hE hFc) (va_recv hK hP (ci := 9) (q0 := 24) rfl rfl)) rfl rfl hl.1 rfl (lv_room (Nat.le_of_ble_eq_true rfl)) dX11_runByClauses_19 ⟨Nat.le_of_ble_eq_true rfl, Nat.le_of_ble_eq_true rfl⟩) hS (fun q _ h => hFc q h) hFc (fun r u t H locs ht hvm hw hB hz1 hk1 hS => ?_)
    rw [show r = q_4.1 from hw]
    have hP : va_P (DG G) clP3 (wC G a q_4.2.1 q_4.2.2.1 q_4.2.2.2 S D R M N P) H := by rw [← ht]; exact hB.1
    have hD : va_D A (wC G a q_4.2.1 q_4.2.2.1 q_4.2.2.2 S D R M N P) := hB.2.weaken (fun _ p _ h => hFc p.1 h)
    clear hB hFc hw hk1
    refine W.widen (k := 1) (n := 6) (Nat.le_of_ble_eq_true rfl) (Nat.le_of_ble_eq_true rfl) ?_
    refine lv_if_eq (tgt := 37) hx hb dX11_runByClauses_22 (by decide) (fun c_5 => ?_) (fun c_5 => ?_)
    · rw [if_pos c_5] at hm
      refine lv_iconst (v := (-1)) hx hb dX11_runByClauses_37 (by decide) ?_
      refine lv_istore (lv' := [(4, .int (-1)), (3, .int q_3), (2, .int q_1.2), (0, .ref (a.1 0)), (1, .int p1)]) hx hb dX11_runByClauses_38 hl (by decide) rfl (fun ls hl => ?_)
      refine lv_aload_n hx hb dX11_runByClauses_40 rfl (lv_at hl 3 rfl) ?_
      refine lv_iload_n hx hb dX11_runByClauses_41 rfl (lv_at hl 1 rfl) ?_
      refine lv_iload hx hb dX11_runByClauses_42 (lv_at hl 0 rfl) ?_
      obtain ⟨q_6, hq_6, hm⟩ := bind_some hm
      have hFc := free_all hD hS hA
      refine vx_calli (vx_runV (As := [.int q_3, .int (-1)]) (rest := []) ⟨hx, hb, hml, hown, hts⟩ (k_X11_numberOfScratch l hfl G a q_4.2.1 q_4.2.2.1 q_4.2.2.2 S D R M N P hlk q_3 (-1)  q_6.1 q_6.2.1 q_6.2.2 hq_6 H.size) (cwV 2 hts (gV wm815 wm817 ws_p11 wm1 wm818) rfl rfl rfl (by decide +kernel) ⟨Nat.le_of_ble_eq_true rfl, Nat.le_of_ble_eq_true rfl⟩) (pre_v (pre_w hK hP hD hS hE hFc) (va_recv hK hP (ci := 10) (q0 := 0) rfl rfl)) rfl rfl hl.1 rfl (lv_room (Nat.le_of_ble_eq_true rfl)) dX11_runByClauses_44 ⟨Nat.le_of_ble_eq_true rfl, Nat.le_of_ble_eq_true rfl⟩) hS (fun q _ h => hFc q h) hFc (fun q _ h => hFc q h) (fun E ce q9 u_7 t H locs ht hvm hpx hBX hz1 hk1 hS hce hv9 hcl => ?_) (fun r u_7 t H locs ht hvm hw hB hz1 hk1 hS => ?_)
      · have hne : ¬ q_6.1 = 0 := xnm_ne hBX.1
        rw [if_neg hne] at hm
        have hX9 := hBX.1
        have hB := hBX.2
        have hP : va_P (DG G) clP3 (wC G a q_6.2.2 q_4.2.2.1 q_4.2.2.2 S D R M N P) H := by rw [← ht]; exact hB.1
        have hD : va_D A (wC G a q_6.2.2 q_4.2.2.1 q_4.2.2.2 S D R M N P) := hB.2.weaken (fun _ p _ h => hFc p.1 h)
        simp only [Option.some.injEq, Prod.mk.injEq] at hm
        obtain ⟨rfl, rfl, rfl, rfl, rfl, rfl⟩ := hm
        subst hAe
        exact vx_out (fun x hx => (hout0 x hx).elim) hlocks hce hv9 hcl (fun t2 ht2 _ => ⟨(), trivial, ⟨hX9, by rw [ht2]; exact hP, hD⟩, hS.F ht2⟩) hS.2.2 (Nat.le_of_ble_eq_true rfl) (Nat.le_of_ble_eq_true rfl)
      · rw [if_pos hw.1] at hm
        rw [show r = q_6.2.1 from hw.2]
        have hP : va_P (DG G) clP3 (wC G a q_6.2.2 q_4.2.2.1 q_4.2.2.2 S D R M N P) H := by rw [← ht]; exact hB.1
        have hD : va_D A (wC G a q_6.2.2 q_4.2.2.1 q_4.2.2.2 S D R M N P) := hB.2.weaken (fun _ p _ h => hFc p.1 h)
        refine W.widen (k := 2) (n := 12) (Nat.le_of_ble_eq_true rfl) (Nat.le_of_ble_eq_true rfl) ?_
        simp only [Option.some.injEq, Prod.mk.injEq] at hm
        obtain ⟨rfl, rfl, rfl, rfl, rfl, rfl⟩ := hm
        subst hAe
        refine W.widen (k := 2) (n := 12) (Nat.le_of_ble_eq_true rfl) (Nat.le_of_ble_eq_true rfl) ?_
        exact vx_ret (W.iret (v := q_6.2.1) hx hb hr (fun t ht hW => ⟨⟨q_6.2.1, (), rfl, ⟨rfl, rfl⟩, ⟨by rw [ht]; exact hP, hD⟩⟩, hS.F ht⟩) hS.2.2 dX11_runByClauses_47 hlocks)
    · rw [if_neg c_5] at hm
      refine lv_aload_n hx hb dX11_runByClauses_25 rfl (lv_at hl 2 rfl) ?_
      refine va_get (D := DG G) (ci := 10) (v := .ref (a.1 31)) (C := RX11) (T := TX11) (N := 10) hx hb hts inW_X11 hown hK hP 0 rfl rfl 6 (by decide) (hts _ wm290) (fun _ h9 => h9) rfl dX11_runByClauses_26 ?_
      refine lv_iload_n hx hb dX11_runByClauses_29 rfl (lv_at hl 1 rfl) ?_
      refine lv_iconst (v := 0) hx hb dX11_runByClauses_30 (by decide) ?_
      obtain ⟨q_8, hq_8, hm⟩ := bind_some hm
      have hFc := free_all hD hS hA
      refine va_calli (va_runV (As := [.int q_1.2, .int 0]) (rest := []) ⟨hx, hb, hml, hown, hts⟩ (k_X5_valueOf0 l hfl G a q_4.2.1 q_4.2.2.1 q_4.2.2.2 S D R M N P hlk q_1.2  q_8.1 q_8.2.1 q_8.2.2 hq_8 H.size) (cwV 2 hts (gV wm1162 wm1163 wm1164 wm10 wm1165) rfl rfl rfl (by decide +kernel) ⟨Nat.le_of_ble_eq_true rfl, Nat.le_of_ble_eq_true rfl⟩) (pre_v (pre_w hK hP hD hS hE hFc) (va_recv hK hP (ci := 5) (q0 := 31) rfl rfl)) rfl rfl hl.1 rfl (lv_room (Nat.le_of_ble_eq_true rfl)) dX11_runByClauses_31 ⟨Nat.le_of_ble_eq_true rfl, Nat.le_of_ble_eq_true rfl⟩) hS (fun q _ h => hFc q h) hFc (fun r u t H locs ht hvm hw hB hz1 hk1 hS => ?_)
      rw [show r = q_8.1 from hw]
      have hP : va_P (DG G) clP3 (wC G a q_8.2.1 q_4.2.2.1 q_4.2.2.2 S D R q_8.2.2 N P) H := by rw [← ht]; exact hB.1
      have hD : va_D A (wC G a q_8.2.1 q_4.2.2.1 q_4.2.2.2 S D R q_8.2.2 N P) := hB.2.weaken (fun _ p _ h => hFc p.1 h)
      clear hB hFc hw hk1
      refine W.widen (k := 1) (n := 6) (Nat.le_of_ble_eq_true rfl) (Nat.le_of_ble_eq_true rfl) ?_
      refine lv_goto (tgt := 38) hx hb dX11_runByClauses_34 (by decide) ?_
      refine lv_istore (lv' := [(4, .int q_8.1), (3, .int q_3), (2, .int q_1.2), (0, .ref (a.1 0)), (1, .int p1)]) hx hb dX11_runByClauses_38 hl (by decide) rfl (fun ls hl => ?_)
      refine lv_aload_n hx hb dX11_runByClauses_40 rfl (lv_at hl 3 rfl) ?_
      refine lv_iload_n hx hb dX11_runByClauses_41 rfl (lv_at hl 1 rfl) ?_
      refine lv_iload hx hb dX11_runByClauses_42 (lv_at hl 0 rfl) ?_
      obtain ⟨q_9, hq_9, hm⟩ := bind_some hm
      have hFc := free_all hD hS hA
      refine vx_calli (vx_runV (As := [.int q_3, .int q_8.1]) (rest := []) ⟨hx, hb, hml, hown, hts⟩ (k_X11_numberOfScratch l hfl G a q_8.2.1 q_4.2.2.1 q_4.2.2.2 S D R q_8.2.2 N P hlk q_3 q_8.1  q_9.1 q_9.2.1 q_9.2.2 hq_9 H.size) (cwV 2 hts (gV wm815 wm817 ws_p11 wm1 wm818) rfl rfl rfl (by decide +kernel) ⟨Nat.le_of_ble_eq_true rfl, Nat.le_of_ble_eq_true rfl⟩) (pre_v (pre_w hK hP hD hS hE hFc) (va_recv hK hP (ci := 10) (q0 := 0) rfl rfl)) rfl rfl hl.1 rfl (lv_room (Nat.le_of_ble_eq_true rfl)) dX11_runByClauses_44 ⟨Nat.le_of_ble_eq_true rfl, Nat.le_of_ble_eq_true rfl⟩) hS (fun q _ h => hFc q h) hFc (fun q _ h => hFc q h) (fun E ce q9 u_10 t H locs ht hvm hpx hBX hz1 hk1 hS hce hv9 hcl => ?_) (fun r u_10 t H locs ht hvm hw hB hz1 hk1 hS => ?_)
      · have hne : ¬ q_9.1 = 0 := xnm_ne hBX.1
        rw [if_neg hne] at hm
        have hX9 := hBX.1
        have hB := hBX.2
        have hP : va_P (DG G) clP3 (wC G a q_9.2.2 q_4.2.2.1 q_4.2.2.2 S D R q_8.2.2 N P) H := by rw [← ht]; exact hB.1
        have hD : va_D A (wC G a q_9.2.2 q_4.2.2.1 q_4.2.2.2 S D R q_8.2.2 N P) := hB.2.weaken (fun _ p _ h => hFc p.1 h)
        simp only [Option.some.injEq, Prod.mk.injEq] at hm
        obtain ⟨rfl, rfl, rfl, rfl, rfl, rfl⟩ := hm
        subst hAe
        exact vx_out (fun x hx => (hout0 x hx).elim) hlocks hce hv9 hcl (fun t2 ht2 _ => ⟨(), trivial, ⟨hX9, by rw [ht2]; exact hP, hD⟩, hS.F ht2⟩) hS.2.2 (Nat.le_of_ble_eq_true rfl) (Nat.le_of_ble_eq_true rfl)
      · rw [if_pos hw.1] at hm
        rw [show r = q_9.2.1 from hw.2]
        have hP : va_P (DG G) clP3 (wC G a q_9.2.2 q_4.2.2.1 q_4.2.2.2 S D R q_8.2.2 N P) H := by rw [← ht]; exact hB.1
        have hD : va_D A (wC G a q_9.2.2 q_4.2.2.1 q_4.2.2.2 S D R q_8.2.2 N P) := hB.2.weaken (fun _ p _ h => hFc p.1 h)
        refine W.widen (k := 2) (n := 12) (Nat.le_of_ble_eq_true rfl) (Nat.le_of_ble_eq_true rfl) ?_
        simp only [Option.some.injEq, Prod.mk.injEq] at hm
        obtain ⟨rfl, rfl, rfl, rfl, rfl, rfl⟩ := hm
        subst hAe
        refine W.widen (k := 2) (n := 12) (Nat.le_of_ble_eq_true rfl) (Nat.le_of_ble_eq_true rfl) ?_
        exact vx_ret (W.iret (v := q_9.2.1) hx hb hr (fun t ht hW => ⟨⟨q_9.2.1, (), rfl, ⟨rfl, rfl⟩, ⟨by rw [ht]; exact hP, hD⟩⟩, hS.F ht⟩) hS.2.2 dX11_runByClauses_47 hlocks)
def f_X11_steps (T : TS) (F : FS) (U : US) (S : SS) (D : DS) (M : MS) (N : NS) (P : PS) (p1 : Int32) : Option (Int32 × Int32 × TS × FS × US × MS) := (Option.bind (f_X11_termAt N p1) (fun q_1 => (if q_1.1 = 0 then (Option.bind (g_X9_mark T) (fun q_3 => (Option.bind (f_X10_isOfData T F U S D P q_1.2) (fun q_4 => (if q_4.1 = 0 then (Option.bind (f_X11_numberOfScratch q_4.2.1 q_3 (-1)) (fun q_6 => (if q_6.1 = 0 then some (0, M.2.2.2.2.2.2.1, q_6.2.2, q_4.2.2.1, q_4.2.2.2, M) else some (q_6.1, 0, q_6.2.2, q_4.2.2.1, q_4.2.2.2, M)))) else (Option.bind (f_X5_valueOf1 q_4.2.1 S D M P q_1.2) (fun q_8 => (Option.bind (f_X11_numberOfScratch q_8.2.1 q_3 q_8.1) (fun q_9 => (if q_9.1 = 0 then some (0, q_8.2.2.2.2.2.2.2.2.1, q_9.2.2, q_4.2.2.1, q_4.2.2.2, q_8.2.2) else some (q_9.1, 0, q_9.2.2, q_4.2.2.1, q_4.2.2.2, q_8.2.2))))))))))) else some (q_1.1, 0, T, F, U, M))))
set_option maxHeartbeats 2000000 in
set_option maxRecDepth 100000 in
theorem k_X11_steps (l : Launch) (hfl : l.stackTraces = false) (G : GC) (a : AS) (T : TS) (F : FS) (U : US) (S : SS) (D : DS) (R : RS) (M : MS) (N : NS) (P : PS) (hlk : lkA a D.1.toNatClampNeg D.2.1.toNatClampNeg) (p1 : Int32) (k9 : Int32) (r9 : Int32) (T9 : TS) (F9 : FS) (U9 : US) (M9 : MS) (hm : f_X11_steps T F U S D M N P p1 = some (k9, r9, T9, F9, U9, M9)) (sz : Nat) : vx_Met l yX11_steps (Cond.code yX11_steps cX11_steps 5 (some .int) :: W0) ({ frames := 582, cells := 2, slots := 12, locals := 15246 }) (va_Pc [.ref (a.1 0), .int p1] (WD G (wC G a T F U S D R M N P) sz)) (va_Qi (S := Unit) (fun r _ => k9 = 0 ∧ r = r9) (fun _ t => PW G (va_A (wC G a T F U S D R M N P) sz) (wC G a T9 F9 U9 S D R M9 N P) t) (va_A (wC G a T F U S D R M N P) sz)) (vx_X (fun _ : Unit => True) (fun (E : String) (_ : Unit) (t : State) => xnm k9 = some E ∧ PW G (va_A (wC G a T F U S D R M N P) sz) (wC G a T9 F9 U9 S D R M9 N P) t) (va_A (wC G a T F U S D R M N P) sz)) 2 12 (va_A (wC G a T F U S D R M N P) sz) := by
  rw [f_X11_steps] at hm
  refine vx_ofW (cc := cX11_steps) (maxL := 5) (ret := (some .int)) (by decide) rfl ?_
  intro p e s m args below meth c s₁ B hml hout0 hv
  obtain ⟨rfl, hsz, hP, hK, hD0, hE⟩ := hv
  have hx := B.exec
  have hb := B.bytes
  have hr := B.returns
  have hts := w0_tail B.pre
  have hown : s.vm.findClass RX11 = some m.cls := findClass_of_methodNamed B.named
  have hlocks := B.notSynchronized
  have hD := hD0.self (sz := sz)
  obtain ⟨A, hAe⟩ : ∃ A, (va_A (wC G a T F U S D R M N P) sz) = A := ⟨_, rfl⟩
  rw [hAe] at hD hE
  have hA : ∀ q : Nat, s.heap.size ≤ q → A q := fun q h => by rw [← hAe]; exact Or.inr (by rw [← hsz]; exact h)
  have hS : va_S A s.heap s.heap [] := va_S.rf
  obtain ⟨H, hHe⟩ : ∃ H : Heap, H = s.heap := ⟨_, rfl⟩
  have hP : va_P (DG G) clP3 (wC G a T F U S D R M N P) H := by rw [hHe]; exact hP
  have hS : va_S A s.heap H [] := by rw [hHe]; exact hS
  have hl := lv_entry ([.ref (a.1 0), .int p1]) (n := 5) (Nat.le_of_ble_eq_true rfl)
  rw [lg_entry_eq, ← hHe]
  generalize (lg_sl ([.ref (a.1 0), .int p1]) ++ List.replicate (5 - (lg_sl ([.ref (a.1 0), .int p1])).length) Slot.unset).toArray = ls at hl ⊢
  have hl : lv_has ls 5 [(0, .ref (a.1 0)), (1, .int p1)] := hl
  refine lv_aload_n hx hb dX11_steps_0 rfl (lv_at hl 0 rfl) ?_
  refine lv_iload_n hx hb dX11_steps_1 rfl (lv_at hl 1 rfl) ?_
  obtain ⟨q_1, hq_1, hm⟩ := bind_some hm
  have hFc := free_all hD hS hA
  refine vx_calli (vx_runV (As := [.int p1]) (rest := []) ⟨hx, hb, hml, hown, hts⟩ (k_X11_termAt l hfl G a T F U S D R M N P hlk p1  q_1.1 q_1.2 hq_1 H.size) (cwV 1 hts (gV wm319 wm321 ws_p0 wm1 wm322) rfl rfl rfl (by decide +kernel) ⟨Nat.le_of_ble_eq_true rfl, Nat.le_of_ble_eq_true rfl⟩) (pre_v (pre_w hK hP hD hS hE hFc) (va_recv hK hP (ci := 10) (q0 := 0) rfl rfl)) rfl rfl hl.1 rfl (lv_room (Nat.le_of_ble_eq_true rfl)) dX11_steps_2 ⟨Nat.le_of_ble_eq_true rfl, Nat.le_of_ble_eq_true rfl⟩) hS (fun q _ h => hFc q h) hFc (fun q _ h => hFc q h) (fun E ce q9 u_2 t H locs ht hvm hpx hBX hz1 hk1 hS hce hv9 hcl => ?_) (fun r u_2 t H locs ht hvm hw hB hz1 hk1 hS => ?_)
  · have hne : ¬ q_1.1 = 0 := xnm_ne hBX.1
    rw [if_neg hne] at hm
    have hX9 := hBX.1
    have hB := hBX.2
    have hP : va_P (DG G) clP3 (wC G a T F U S D R M N P) H := by rw [← ht]; exact hB.1
    have hD : va_D A (wC G a T F U S D R M N P) := hB.2.weaken (fun _ p _ h => hFc p.1 h)
    simp only [Option.some.injEq, Prod.mk.injEq] at hm
    obtain ⟨rfl, rfl, rfl, rfl, rfl, rfl⟩ := hm
    subst hAe
    exact vx_out (fun x hx => (hout0 x hx).elim) hlocks hce hv9 hcl (fun t2 ht2 _ => ⟨(), trivial, ⟨hX9, by rw [ht2]; exact hP, hD⟩, hS.F ht2⟩) hS.2.2 (Nat.le_of_ble_eq_true rfl) (Nat.le_of_ble_eq_true rfl)
  · rw [if_pos hw.1] at hm
    rw [show r = q_1.2 from hw.2]
    have hP : va_P (DG G) clP3 (wC G a T F U S D R M N P) H := by rw [← ht]; exact hB.1
    have hD : va_D A (wC G a T F U S D R M N P) := hB.2.weaken (fun _ p _ h => hFc p.1 h)
    refine W.widen (k := 1) (n := 6) (Nat.le_of_ble_eq_true rfl) (Nat.le_of_ble_eq_true rfl) ?_
    refine lv_istore_n (lv' := [(2, .int q_1.2), (0, .ref (a.1 0)), (1, .int p1)]) hx hb dX11_steps_5 rfl hl (by decide) rfl (fun ls hl => ?_)
    refine lv_aload_n hx hb dX11_steps_6 rfl (lv_at hl 1 rfl) ?_
    refine va_get (D := DG G) (ci := 10) (v := .ref (a.1 1)) (C := RX11) (T := TX11) (N := 10) hx hb hts inW_X11 hown hK hP 0 rfl rfl 0 (by decide) (hts _ wm284) (fun _ h9 => h9) rfl dX11_steps_7 ?_
    obtain ⟨q_3, hq_3, hm⟩ := bind_some hm
    have hFc := free_all hD hS hA
    refine va_calli (va_runV (As := []) (rest := []) ⟨hx, hb, hml, hown, hts⟩ (K_X9_mark l hfl G a T F U S D R M N P   q_3 hq_3 H.size) (cwV 0 hts (gV wm410 wm411 wm412 wm2 wm413) rfl rfl rfl (by decide +kernel) ⟨Nat.le_of_ble_eq_true rfl, Nat.le_of_ble_eq_true rfl⟩) (pre_v (pre_w hK hP hD hS hE hFc) (va_recv hK hP (ci := 8) (q0 := 1) rfl rfl)) rfl rfl hl.1 rfl (lv_room (Nat.le_of_ble_eq_true rfl)) dX11_steps_10 ⟨Nat.le_of_ble_eq_true rfl, Nat.le_of_ble_eq_true rfl⟩) hS (fun q _ h => hFc q h) hFc (fun r u t H locs ht hvm hw hB hz1 hk1 hS => ?_)
    rw [show r = q_3 from hw]
    have hP : va_P (DG G) clP3 (wC G a T F U S D R M N P) H := by rw [← ht]; exact hB.1
    have hD : va_D A (wC G a T F U S D R M N P) := hB.2.weaken (fun _ p _ h => hFc p.1 h)
    clear hB hFc hw hk1
    refine W.widen (k := 1) (n := 6) (Nat.le_of_ble_eq_true rfl) (Nat.le_of_ble_eq_true rfl) ?_
    refine lv_istore_n (lv' := [(3, .int q_3), (2, .int q_1.2), (0, .ref (a.1 0)), (1, .int p1)]) hx hb dX11_steps_13 rfl hl (by decide) rfl (fun ls hl => ?_)
    refine lv_aload_n hx hb dX11_steps_14 rfl (lv_at hl 2 rfl) ?_
    refine va_get (D := DG G) (ci := 10) (v := .ref (a.1 24)) (C := RX11) (T := TX11) (N := 10) hx hb hts inW_X11 hown hK hP 0 rfl rfl 4 (by decide) (hts _ wm288) (fun _ h9 => h9) rfl dX11_steps_15 ?_
    refine lv_iload_n hx hb dX11_steps_18 rfl (lv_at hl 1 rfl) ?_
    obtain ⟨q_4, hq_4, hm⟩ := bind_some hm
    have hFc := free_all hD hS hA
    refine va_calli (va_runV (As := [.int q_1.2]) (rest := []) ⟨hx, hb, hml, hown, hts⟩ (k_X10_isOfData l hfl G a T F U S D R M N P hlk q_1.2  q_4.1 q_4.2.1 q_4.2.2.1 q_4.2.2.2 hq_4 H.size) (cwV 1 hts (gV wm1158 wm1159 wm1160 wm6 wm1161) rfl rfl rfl (by decide +kernel) ⟨Nat.le_of_ble_eq_true rfl, Nat.le_of_ble_eq_true rfl⟩) (pre_v (pre_w hK hP hD hS hE hFc) (va_recv hK hP (ci := 9) (q0 := 24) rfl rfl)) rfl rfl hl.1 rfl (lv_room (Nat.le_of_ble_eq_true rfl)) dX11_steps_19 ⟨Nat.le_of_ble_eq_true rfl, Nat.le_of_ble_eq_true rfl⟩) hS (fun q _ h => hFc q h) hFc (fun r u t H locs ht hvm hw hB hz1 hk1 hS => ?_)
    rw [show r = q_4.1 from hw]
    have hP : va_P (DG G) clP3 (wC G a q_4.2.1 q_4.2.2.1 q_4.2.2.2 S D R M N P) H := by rw [← ht]; exact hB.1
    have hD : va_D A (wC G a q_4.2.1 q_4.2.2.1 q_4.2.2.2 S D R M N P) := hB.2.weaken (fun _ p _ h => hFc p.1 h)
    clear hB hFc hw hk1
    refine W.widen (k := 1) (n := 6) (Nat.le_of_ble_eq_true rfl) (Nat.le_of_ble_eq_true rfl) ?_
    refine lv_if_eq (tgt := 37) hx hb dX11_steps_22 (by decide) (fun c_5 => ?_) (fun c_5 => ?_)
    · rw [if_pos c_5] at hm
      refine lv_iconst (v := (-1)) hx hb dX11_steps_37 (by decide) ?_
      refine lv_istore (lv' := [(4, .int (-1)), (3, .int q_3), (2, .int q_1.2), (0, .ref (a.1 0)), (1, .int p1)]) hx hb dX11_steps_38 hl (by decide) rfl (fun ls hl => ?_)
      refine lv_aload_n hx hb dX11_steps_40 rfl (lv_at hl 3 rfl) ?_
      refine lv_iload_n hx hb dX11_steps_41 rfl (lv_at hl 1 rfl) ?_
      refine lv_iload hx hb dX11_steps_42 (lv_at hl 0 rfl) ?_
      obtain ⟨q_6, hq_6, hm⟩ := bind_some hm
      have hFc := free_all hD hS hA
      refine vx_calli (vx_runV (As := [.int q_3, .int (-1)]) (rest := []) ⟨hx, hb, hml, hown, hts⟩ (k_X11_numberOfScratch l hfl G a q_4.2.1 q_4.2.2.1 q_4.2.2.2 S D R M N P hlk q_3 (-1)  q_6.1 q_6.2.1 q_6.2.2 hq_6 H.size) (cwV 2 hts (gV wm815 wm817 ws_p11 wm1 wm818) rfl rfl rfl (by decide +kernel) ⟨Nat.le_of_ble_eq_true rfl, Nat.le_of_ble_eq_true rfl⟩) (pre_v (pre_w hK hP hD hS hE hFc) (va_recv hK hP (ci := 10) (q0 := 0) rfl rfl)) rfl rfl hl.1 rfl (lv_room (Nat.le_of_ble_eq_true rfl)) dX11_steps_44 ⟨Nat.le_of_ble_eq_true rfl, Nat.le_of_ble_eq_true rfl⟩) hS (fun q _ h => hFc q h) hFc (fun q _ h => hFc q h) (fun E ce q9 u_7 t H locs ht hvm hpx hBX hz1 hk1 hS hce hv9 hcl => ?_) (fun r u_7 t H locs ht hvm hw hB hz1 hk1 hS => ?_)
      · have hne : ¬ q_6.1 = 0 := xnm_ne hBX.1
        rw [if_neg hne] at hm
        have hX9 := hBX.1
        have hB := hBX.2
        have hP : va_P (DG G) clP3 (wC G a q_6.2.2 q_4.2.2.1 q_4.2.2.2 S D R M N P) H := by rw [← ht]; exact hB.1
        have hD : va_D A (wC G a q_6.2.2 q_4.2.2.1 q_4.2.2.2 S D R M N P) := hB.2.weaken (fun _ p _ h => hFc p.1 h)
        simp only [Option.some.injEq, Prod.mk.injEq] at hm
        obtain ⟨rfl, rfl, rfl, rfl, rfl, rfl⟩ := hm
        subst hAe
        exact vx_out (fun x hx => (hout0 x hx).elim) hlocks hce hv9 hcl (fun t2 ht2 _ => ⟨(), trivial, ⟨hX9, by rw [ht2]; exact hP, hD⟩, hS.F ht2⟩) hS.2.2 (Nat.le_of_ble_eq_true rfl) (Nat.le_of_ble_eq_true rfl)
      · rw [if_pos hw.1] at hm
        rw [show r = q_6.2.1 from hw.2]
        have hP : va_P (DG G) clP3 (wC G a q_6.2.2 q_4.2.2.1 q_4.2.2.2 S D R M N P) H := by rw [← ht]; exact hB.1
        have hD : va_D A (wC G a q_6.2.2 q_4.2.2.1 q_4.2.2.2 S D R M N P) := hB.2.weaken (fun _ p _ h => hFc p.1 h)
        refine W.widen (k := 2) (n := 12) (Nat.le_of_ble_eq_true rfl) (Nat.le_of_ble_eq_true rfl) ?_
        refine lv_pop hx hb dX11_steps_47 rfl ?_
        refine lv_aload_n hx hb dX11_steps_48 rfl (lv_at hl 3 rfl) ?_
        refine va_get (D := DG G) (ci := 10) (v := .ref (a.1 31)) (C := RX11) (T := TX11) (N := 10) hx hb hts inW_X11 hown hK hP 0 rfl rfl 6 (by decide) (hts _ wm290) (fun _ h9 => h9) rfl dX11_steps_49 ?_
        refine va_getN (D := DG G) (ci := 5) (v := .int M.2.2.2.2.2.2.1) (C := RX5) (T := TX5) (N := 12) hx hb hts inW_X5 hown hK hP 31 rfl rfl 9 (by decide) (va_Nw.use rfl (hE.1 _ nw256)) (fun _ h9 => h9) rfl dX11_steps_52 ?_
        simp only [Option.some.injEq, Prod.mk.injEq] at hm
        obtain ⟨rfl, rfl, rfl, rfl, rfl, rfl⟩ := hm
        subst hAe
        refine W.widen (k := 2) (n := 12) (Nat.le_of_ble_eq_true rfl) (Nat.le_of_ble_eq_true rfl) ?_
        exact vx_ret (W.iret (v := M.2.2.2.2.2.2.1) hx hb hr (fun t ht hW => ⟨⟨M.2.2.2.2.2.2.1, (), rfl, ⟨rfl, rfl⟩, ⟨by rw [ht]; exact hP, hD⟩⟩, hS.F ht⟩) hS.2.2 dX11_steps_55 hlocks)
    · rw [if_neg c_5] at hm
      refine lv_aload_n hx hb dX11_steps_25 rfl (lv_at hl 2 rfl) ?_
      refine va_get (D := DG G) (ci := 10) (v := .ref (a.1 31)) (C := RX11) (T := TX11) (N := 10) hx hb hts inW_X11 hown hK hP 0 rfl rfl 6 (by decide) (hts _ wm290) (fun _ h9 => h9) rfl dX11_steps_26 ?_
      refine lv_iload_n hx hb dX11_steps_29 rfl (lv_at hl 1 rfl) ?_
      refine lv_iconst (v := 1) hx hb dX11_steps_30 (by decide) ?_
      obtain ⟨q_8, hq_8, hm⟩ := bind_some hm
      have hFc := free_all hD hS hA
      refine va_calli (va_runV (As := [.int q_1.2, .int 1]) (rest := []) ⟨hx, hb, hml, hown, hts⟩ (k_X5_valueOf1 l hfl G a q_4.2.1 q_4.2.2.1 q_4.2.2.2 S D R M N P hlk q_1.2  q_8.1 q_8.2.1 q_8.2.2 hq_8 H.size) (cwV 2 hts (gV wm1162 wm1163 wm1164 wm10 wm1165) rfl rfl rfl (by decide +kernel) ⟨Nat.le_of_ble_eq_true rfl, Nat.le_of_ble_eq_true rfl⟩) (pre_v (pre_w hK hP hD hS hE hFc) (va_recv hK hP (ci := 5) (q0 := 31) rfl rfl)) rfl rfl hl.1 rfl (lv_room (Nat.le_of_ble_eq_true rfl)) dX11_steps_31 ⟨Nat.le_of_ble_eq_true rfl, Nat.le_of_ble_eq_true rfl⟩) hS (fun q _ h => hFc q h) hFc (fun r u t H locs ht hvm hw hB hz1 hk1 hS => ?_)
      rw [show r = q_8.1 from hw]
      have hP : va_P (DG G) clP3 (wC G a q_8.2.1 q_4.2.2.1 q_4.2.2.2 S D R q_8.2.2 N P) H := by rw [← ht]; exact hB.1
      have hD : va_D A (wC G a q_8.2.1 q_4.2.2.1 q_4.2.2.2 S D R q_8.2.2 N P) := hB.2.weaken (fun _ p _ h => hFc p.1 h)
      clear hB hFc hw hk1
      refine W.widen (k := 1) (n := 6) (Nat.le_of_ble_eq_true rfl) (Nat.le_of_ble_eq_true rfl) ?_
      refine lv_goto (tgt := 38) hx hb dX11_steps_34 (by decide) ?_
      refine lv_istore (lv' := [(4, .int q_8.1), (3, .int q_3), (2, .int q_1.2), (0, .ref (a.1 0)), (1, .int p1)]) hx hb dX11_steps_38 hl (by decide) rfl (fun ls hl => ?_)
      refine lv_aload_n hx hb dX11_steps_40 rfl (lv_at hl 3 rfl) ?_
      refine lv_iload_n hx hb dX11_steps_41 rfl (lv_at hl 1 rfl) ?_
      refine lv_iload hx hb dX11_steps_42 (lv_at hl 0 rfl) ?_
      obtain ⟨q_9, hq_9, hm⟩ := bind_some hm
      have hFc := free_all hD hS hA
      refine vx_calli (vx_runV (As := [.int q_3, .int q_8.1]) (rest := []) ⟨hx, hb, hml, hown, hts⟩ (k_X11_numberOfScratch l hfl G a q_8.2.1 q_4.2.2.1 q_4.2.2.2 S D R q_8.2.2 N P hlk q_3 q_8.1  q_9.1 q_9.2.1 q_9.2.2 hq_9 H.size) (cwV 2 hts (gV wm815 wm817 ws_p11 wm1 wm818) rfl rfl rfl (by decide +kernel) ⟨Nat.le_of_ble_eq_true rfl, Nat.le_of_ble_eq_true rfl⟩) (pre_v (pre_w hK hP hD hS hE hFc) (va_recv hK hP (ci := 10) (q0 := 0) rfl rfl)) rfl rfl hl.1 rfl (lv_room (Nat.le_of_ble_eq_true rfl)) dX11_steps_44 ⟨Nat.le_of_ble_eq_true rfl, Nat.le_of_ble_eq_true rfl⟩) hS (fun q _ h => hFc q h) hFc (fun q _ h => hFc q h) (fun E ce q9 u_10 t H locs ht hvm hpx hBX hz1 hk1 hS hce hv9 hcl => ?_) (fun r u_10 t H locs ht hvm hw hB hz1 hk1 hS => ?_)
      · have hne : ¬ q_9.1 = 0 := xnm_ne hBX.1
        rw [if_neg hne] at hm
        have hX9 := hBX.1
        have hB := hBX.2
        have hP : va_P (DG G) clP3 (wC G a q_9.2.2 q_4.2.2.1 q_4.2.2.2 S D R q_8.2.2 N P) H := by rw [← ht]; exact hB.1
        have hD : va_D A (wC G a q_9.2.2 q_4.2.2.1 q_4.2.2.2 S D R q_8.2.2 N P) := hB.2.weaken (fun _ p _ h => hFc p.1 h)
        simp only [Option.some.injEq, Prod.mk.injEq] at hm
        obtain ⟨rfl, rfl, rfl, rfl, rfl, rfl⟩ := hm
        subst hAe
        exact vx_out (fun x hx => (hout0 x hx).elim) hlocks hce hv9 hcl (fun t2 ht2 _ => ⟨(), trivial, ⟨hX9, by rw [ht2]; exact hP, hD⟩, hS.F ht2⟩) hS.2.2 (Nat.le_of_ble_eq_true rfl) (Nat.le_of_ble_eq_true rfl)
      · rw [if_pos hw.1] at hm
        rw [show r = q_9.2.1 from hw.2]
        have hP : va_P (DG G) clP3 (wC G a q_9.2.2 q_4.2.2.1 q_4.2.2.2 S D R q_8.2.2 N P) H := by rw [← ht]; exact hB.1
        have hD : va_D A (wC G a q_9.2.2 q_4.2.2.1 q_4.2.2.2 S D R q_8.2.2 N P) := hB.2.weaken (fun _ p _ h => hFc p.1 h)
        refine W.widen (k := 2) (n := 12) (Nat.le_of_ble_eq_true rfl) (Nat.le_of_ble_eq_true rfl) ?_
        refine lv_pop hx hb dX11_steps_47 rfl ?_
        refine lv_aload_n hx hb dX11_steps_48 rfl (lv_at hl 3 rfl) ?_
        refine va_get (D := DG G) (ci := 10) (v := .ref (a.1 31)) (C := RX11) (T := TX11) (N := 10) hx hb hts inW_X11 hown hK hP 0 rfl rfl 6 (by decide) (hts _ wm290) (fun _ h9 => h9) rfl dX11_steps_49 ?_
        refine va_getN (D := DG G) (ci := 5) (v := .int q_8.2.2.2.2.2.2.2.2.1) (C := RX5) (T := TX5) (N := 12) hx hb hts inW_X5 hown hK hP 31 rfl rfl 9 (by decide) (va_Nw.use rfl (hE.1 _ nw256)) (fun _ h9 => h9) rfl dX11_steps_52 ?_
        simp only [Option.some.injEq, Prod.mk.injEq] at hm
        obtain ⟨rfl, rfl, rfl, rfl, rfl, rfl⟩ := hm
        subst hAe
        refine W.widen (k := 2) (n := 12) (Nat.le_of_ble_eq_true rfl) (Nat.le_of_ble_eq_true rfl) ?_
        exact vx_ret (W.iret (v := q_8.2.2.2.2.2.2.2.2.1) hx hb hr (fun t ht hW => ⟨⟨q_8.2.2.2.2.2.2.2.2.1, (), rfl, ⟨rfl, rfl⟩, ⟨by rw [ht]; exact hP, hD⟩⟩, hS.F ht⟩) hS.2.2 dX11_steps_55 hlocks)
def f_X11_valueSize (T : TS) (F : FS) (U : US) (S : SS) (D : DS) (M : MS) (N : NS) (P : PS) (p1 : Int32) : Option (Int32 × Int32 × TS × FS × US × MS) := (Option.bind (f_X11_termAt N p1) (fun q_1 => (if q_1.1 = 0 then (Option.bind (g_X9_mark T) (fun q_3 => (Option.bind (f_X10_isOfData T F U S D P q_1.2) (fun q_4 => (if q_4.1 = 0 then (Option.bind (g_X9_sizeOf q_4.2.1 (-1)) (fun q_6 => (Option.bind (f_X11_numberOfScratch q_4.2.1 q_3 (-1)) (fun q_7 => (if q_7.1 = 0 then some (0, ((q_6 + (1 : Int32)) / 2), q_7.2.2, q_4.2.2.1, q_4.2.2.2, M) else some (q_7.1, 0, q_7.2.2, q_4.2.2.1, q_4.2.2.2, M)))))) else (Option.bind (f_X5_valueOf1 q_4.2.1 S D M P q_1.2) (fun q_9 => (Option.bind (g_X9_sizeOf q_9.2.1 q_9.1) (fun q_10 => (Option.bind (f_X11_numberOfScratch q_9.2.1 q_3 q_9.1) (fun q_11 => (if q_11.1 = 0 then some (0, ((q_10 + (1 : Int32)) / 2), q_11.2.2, q_4.2.2.1, q_4.2.2.2, q_9.2.2) else some (q_11.1, 0, q_11.2.2, q_4.2.2.1, q_4.2.2.2, q_9.2.2))))))))))))) else some (q_1.1, 0, T, F, U, M))))
set_option maxHeartbeats 2000000 in
set_option maxRecDepth 100000 in
theorem k_X11_valueSize (l : Launch) (hfl : l.stackTraces = false) (G : GC) (a : AS) (T : TS) (F : FS) (U : US) (S : SS) (D : DS) (R : RS) (M : MS) (N : NS) (P : PS) (hlk : lkA a D.1.toNatClampNeg D.2.1.toNatClampNeg) (p1 : Int32) (k9 : Int32) (r9 : Int32) (T9 : TS) (F9 : FS) (U9 : US) (M9 : MS) (hm : f_X11_valueSize T F U S D M N P p1 = some (k9, r9, T9, F9, U9, M9)) (sz : Nat) : vx_Met l yX11_valueSize (Cond.code yX11_valueSize cX11_valueSize 6 (some .int) :: W0) ({ frames := 582, cells := 2, slots := 12, locals := 15246 }) (va_Pc [.ref (a.1 0), .int p1] (WD G (wC G a T F U S D R M N P) sz)) (va_Qi (S := Unit) (fun r _ => k9 = 0 ∧ r = r9) (fun _ t => PW G (va_A (wC G a T F U S D R M N P) sz) (wC G a T9 F9 U9 S D R M9 N P) t) (va_A (wC G a T F U S D R M N P) sz)) (vx_X (fun _ : Unit => True) (fun (E : String) (_ : Unit) (t : State) => xnm k9 = some E ∧ PW G (va_A (wC G a T F U S D R M N P) sz) (wC G a T9 F9 U9 S D R M9 N P) t) (va_A (wC G a T F U S D R M N P) sz)) 2 12 (va_A (wC G a T F U S D R M N P) sz) := by
  rw [f_X11_valueSize] at hm
  refine vx_ofW (cc := cX11_valueSize) (maxL := 6) (ret := (some .int)) (by decide) rfl ?_
  intro p e s m args below meth c s₁ B hml hout0 hv
  obtain ⟨rfl, hsz, hP, hK, hD0, hE⟩ := hv
  have hx := B.exec
  have hb := B.bytes
  have hr := B.returns
  have hts := w0_tail B.pre
  have hown : s.vm.findClass RX11 = some m.cls := findClass_of_methodNamed B.named
  have hlocks := B.notSynchronized
  have hD := hD0.self (sz := sz)
  obtain ⟨A, hAe⟩ : ∃ A, (va_A (wC G a T F U S D R M N P) sz) = A := ⟨_, rfl⟩
  rw [hAe] at hD hE
  have hA : ∀ q : Nat, s.heap.size ≤ q → A q := fun q h => by rw [← hAe]; exact Or.inr (by rw [← hsz]; exact h)
  have hS : va_S A s.heap s.heap [] := va_S.rf
  obtain ⟨H, hHe⟩ : ∃ H : Heap, H = s.heap := ⟨_, rfl⟩
  have hP : va_P (DG G) clP3 (wC G a T F U S D R M N P) H := by rw [hHe]; exact hP
  have hS : va_S A s.heap H [] := by rw [hHe]; exact hS
  have hl := lv_entry ([.ref (a.1 0), .int p1]) (n := 6) (Nat.le_of_ble_eq_true rfl)
  rw [lg_entry_eq, ← hHe]
  generalize (lg_sl ([.ref (a.1 0), .int p1]) ++ List.replicate (6 - (lg_sl ([.ref (a.1 0), .int p1])).length) Slot.unset).toArray = ls at hl ⊢
  have hl : lv_has ls 6 [(0, .ref (a.1 0)), (1, .int p1)] := hl
  refine lv_aload_n hx hb dX11_valueSize_0 rfl (lv_at hl 0 rfl) ?_
  refine lv_iload_n hx hb dX11_valueSize_1 rfl (lv_at hl 1 rfl) ?_
  obtain ⟨q_1, hq_1, hm⟩ := bind_some hm
  have hFc := free_all hD hS hA
  refine vx_calli (vx_runV (As := [.int p1]) (rest := []) ⟨hx, hb, hml, hown, hts⟩ (k_X11_termAt l hfl G a T F U S D R M N P hlk p1  q_1.1 q_1.2 hq_1 H.size) (cwV 1 hts (gV wm319 wm321 ws_p0 wm1 wm322) rfl rfl rfl (by decide +kernel) ⟨Nat.le_of_ble_eq_true rfl, Nat.le_of_ble_eq_true rfl⟩) (pre_v (pre_w hK hP hD hS hE hFc) (va_recv hK hP (ci := 10) (q0 := 0) rfl rfl)) rfl rfl hl.1 rfl (lv_room (Nat.le_of_ble_eq_true rfl)) dX11_valueSize_2 ⟨Nat.le_of_ble_eq_true rfl, Nat.le_of_ble_eq_true rfl⟩) hS (fun q _ h => hFc q h) hFc (fun q _ h => hFc q h) (fun E ce q9 u_2 t H locs ht hvm hpx hBX hz1 hk1 hS hce hv9 hcl => ?_) (fun r u_2 t H locs ht hvm hw hB hz1 hk1 hS => ?_)
  · have hne : ¬ q_1.1 = 0 := xnm_ne hBX.1
    rw [if_neg hne] at hm
    have hX9 := hBX.1
    have hB := hBX.2
    have hP : va_P (DG G) clP3 (wC G a T F U S D R M N P) H := by rw [← ht]; exact hB.1
    have hD : va_D A (wC G a T F U S D R M N P) := hB.2.weaken (fun _ p _ h => hFc p.1 h)
    simp only [Option.some.injEq, Prod.mk.injEq] at hm
    obtain ⟨rfl, rfl, rfl, rfl, rfl, rfl⟩ := hm
    subst hAe
    exact vx_out (fun x hx => (hout0 x hx).elim) hlocks hce hv9 hcl (fun t2 ht2 _ => ⟨(), trivial, ⟨hX9, by rw [ht2]; exact hP, hD⟩, hS.F ht2⟩) hS.2.2 (Nat.le_of_ble_eq_true rfl) (Nat.le_of_ble_eq_true rfl)
  · rw [if_pos hw.1] at hm
    rw [show r = q_1.2 from hw.2]
    have hP : va_P (DG G) clP3 (wC G a T F U S D R M N P) H := by rw [← ht]; exact hB.1
    have hD : va_D A (wC G a T F U S D R M N P) := hB.2.weaken (fun _ p _ h => hFc p.1 h)
    refine W.widen (k := 1) (n := 6) (Nat.le_of_ble_eq_true rfl) (Nat.le_of_ble_eq_true rfl) ?_
    refine lv_istore_n (lv' := [(2, .int q_1.2), (0, .ref (a.1 0)), (1, .int p1)]) hx hb dX11_valueSize_5 rfl hl (by decide) rfl (fun ls hl => ?_)
    refine lv_aload_n hx hb dX11_valueSize_6 rfl (lv_at hl 1 rfl) ?_
    refine va_get (D := DG G) (ci := 10) (v := .ref (a.1 1)) (C := RX11) (T := TX11) (N := 10) hx hb hts inW_X11 hown hK hP 0 rfl rfl 0 (by decide) (hts _ wm284) (fun _ h9 => h9) rfl dX11_valueSize_7 ?_
    obtain ⟨q_3, hq_3, hm⟩ := bind_some hm
    have hFc := free_all hD hS hA
    refine va_calli (va_runV (As := []) (rest := []) ⟨hx, hb, hml, hown, hts⟩ (K_X9_mark l hfl G a T F U S D R M N P   q_3 hq_3 H.size) (cwV 0 hts (gV wm410 wm411 wm412 wm2 wm413) rfl rfl rfl (by decide +kernel) ⟨Nat.le_of_ble_eq_true rfl, Nat.le_of_ble_eq_true rfl⟩) (pre_v (pre_w hK hP hD hS hE hFc) (va_recv hK hP (ci := 8) (q0 := 1) rfl rfl)) rfl rfl hl.1 rfl (lv_room (Nat.le_of_ble_eq_true rfl)) dX11_valueSize_10 ⟨Nat.le_of_ble_eq_true rfl, Nat.le_of_ble_eq_true rfl⟩) hS (fun q _ h => hFc q h) hFc (fun r u t H locs ht hvm hw hB hz1 hk1 hS => ?_)
    rw [show r = q_3 from hw]
    have hP : va_P (DG G) clP3 (wC G a T F U S D R M N P) H := by rw [← ht]; exact hB.1
    have hD : va_D A (wC G a T F U S D R M N P) := hB.2.weaken (fun _ p _ h => hFc p.1 h)
    clear hB hFc hw hk1
    refine W.widen (k := 1) (n := 6) (Nat.le_of_ble_eq_true rfl) (Nat.le_of_ble_eq_true rfl) ?_
    refine lv_istore_n (lv' := [(3, .int q_3), (2, .int q_1.2), (0, .ref (a.1 0)), (1, .int p1)]) hx hb dX11_valueSize_13 rfl hl (by decide) rfl (fun ls hl => ?_)
    refine lv_aload_n hx hb dX11_valueSize_14 rfl (lv_at hl 2 rfl) ?_
    refine va_get (D := DG G) (ci := 10) (v := .ref (a.1 24)) (C := RX11) (T := TX11) (N := 10) hx hb hts inW_X11 hown hK hP 0 rfl rfl 4 (by decide) (hts _ wm288) (fun _ h9 => h9) rfl dX11_valueSize_15 ?_
    refine lv_iload_n hx hb dX11_valueSize_18 rfl (lv_at hl 1 rfl) ?_
    obtain ⟨q_4, hq_4, hm⟩ := bind_some hm
    have hFc := free_all hD hS hA
    refine va_calli (va_runV (As := [.int q_1.2]) (rest := []) ⟨hx, hb, hml, hown, hts⟩ (k_X10_isOfData l hfl G a T F U S D R M N P hlk q_1.2  q_4.1 q_4.2.1 q_4.2.2.1 q_4.2.2.2 hq_4 H.size) (cwV 1 hts (gV wm1158 wm1159 wm1160 wm6 wm1161) rfl rfl rfl (by decide +kernel) ⟨Nat.le_of_ble_eq_true rfl, Nat.le_of_ble_eq_true rfl⟩) (pre_v (pre_w hK hP hD hS hE hFc) (va_recv hK hP (ci := 9) (q0 := 24) rfl rfl)) rfl rfl hl.1 rfl (lv_room (Nat.le_of_ble_eq_true rfl)) dX11_valueSize_19 ⟨Nat.le_of_ble_eq_true rfl, Nat.le_of_ble_eq_true rfl⟩) hS (fun q _ h => hFc q h) hFc (fun r u t H locs ht hvm hw hB hz1 hk1 hS => ?_)
    rw [show r = q_4.1 from hw]
    have hP : va_P (DG G) clP3 (wC G a q_4.2.1 q_4.2.2.1 q_4.2.2.2 S D R M N P) H := by rw [← ht]; exact hB.1
    have hD : va_D A (wC G a q_4.2.1 q_4.2.2.1 q_4.2.2.2 S D R M N P) := hB.2.weaken (fun _ p _ h => hFc p.1 h)
    clear hB hFc hw hk1
    refine W.widen (k := 1) (n := 6) (Nat.le_of_ble_eq_true rfl) (Nat.le_of_ble_eq_true rfl) ?_
    refine lv_if_eq (tgt := 37) hx hb dX11_valueSize_22 (by decide) (fun c_5 => ?_) (fun c_5 => ?_)
    · rw [if_pos c_5] at hm
      refine lv_iconst (v := (-1)) hx hb dX11_valueSize_37 (by decide) ?_
      refine lv_istore (lv' := [(4, .int (-1)), (3, .int q_3), (2, .int q_1.2), (0, .ref (a.1 0)), (1, .int p1)]) hx hb dX11_valueSize_38 hl (by decide) rfl (fun ls hl => ?_)
      refine lv_aload_n hx hb dX11_valueSize_40 rfl (lv_at hl 3 rfl) ?_
      refine va_get (D := DG G) (ci := 10) (v := .ref (a.1 1)) (C := RX11) (T := TX11) (N := 10) hx hb hts inW_X11 hown hK hP 0 rfl rfl 0 (by decide) (hts _ wm284) (fun _ h9 => h9) rfl dX11_valueSize_41 ?_
      refine lv_iload hx hb dX11_valueSize_44 (lv_at hl 0 rfl) ?_
      obtain ⟨q_6, hq_6, hm⟩ := bind_some hm
      have hFc := free_all hD hS hA
      refine va_calli (va_runV (As := [.int (-1)]) (rest := []) ⟨hx, hb, hml, hown, hts⟩ (K_X9_sizeOf l hfl G a q_4.2.1 q_4.2.2.1 q_4.2.2.2 S D R M N P (-1)  q_6 hq_6 H.size) (cwV 1 hts (gV wm394 wm395 wm396 wm2 wm397) rfl rfl rfl (by decide +kernel) ⟨Nat.le_of_ble_eq_true rfl, Nat.le_of_ble_eq_true rfl⟩) (pre_v (pre_w hK hP hD hS hE hFc) (va_recv hK hP (ci := 8) (q0 := 1) rfl rfl)) rfl rfl hl.1 rfl (lv_room (Nat.le_of_ble_eq_true rfl)) dX11_valueSize_46 ⟨Nat.le_of_ble_eq_true rfl, Nat.le_of_ble_eq_true rfl⟩) hS (fun q _ h => hFc q h) hFc (fun r u t H locs ht hvm hw hB hz1 hk1 hS => ?_)
      rw [show r = q_6 from hw]
      have hP : va_P (DG G) clP3 (wC G a q_4.2.1 q_4.2.2.1 q_4.2.2.2 S D R M N P) H := by rw [← ht]; exact hB.1
      have hD : va_D A (wC G a q_4.2.1 q_4.2.2.1 q_4.2.2.2 S D R M N P) := hB.2.weaken (fun _ p _ h => hFc p.1 h)
      clear hB hFc hw hk1
      refine W.widen (k := 1) (n := 6) (Nat.le_of_ble_eq_true rfl) (Nat.le_of_ble_eq_true rfl) ?_
      refine lv_istore (lv' := [(5, .int q_6), (4, .int (-1)), (3, .int q_3), (2, .int q_1.2), (0, .ref (a.1 0)), (1, .int p1)]) hx hb dX11_valueSize_49 hl (by decide) rfl (fun ls hl => ?_)
      refine lv_aload_n hx hb dX11_valueSize_51 rfl (lv_at hl 4 rfl) ?_
      refine lv_iload_n hx hb dX11_valueSize_52 rfl (lv_at hl 2 rfl) ?_
      refine lv_iload hx hb dX11_valueSize_53 (lv_at hl 1 rfl) ?_
      obtain ⟨q_7, hq_7, hm⟩ := bind_some hm
      have hFc := free_all hD hS hA
      refine vx_calli (vx_runV (As := [.int q_3, .int (-1)]) (rest := []) ⟨hx, hb, hml, hown, hts⟩ (k_X11_numberOfScratch l hfl G a q_4.2.1 q_4.2.2.1 q_4.2.2.2 S D R M N P hlk q_3 (-1)  q_7.1 q_7.2.1 q_7.2.2 hq_7 H.size) (cwV 2 hts (gV wm815 wm817 ws_p11 wm1 wm818) rfl rfl rfl (by decide +kernel) ⟨Nat.le_of_ble_eq_true rfl, Nat.le_of_ble_eq_true rfl⟩) (pre_v (pre_w hK hP hD hS hE hFc) (va_recv hK hP (ci := 10) (q0 := 0) rfl rfl)) rfl rfl hl.1 rfl (lv_room (Nat.le_of_ble_eq_true rfl)) dX11_valueSize_55 ⟨Nat.le_of_ble_eq_true rfl, Nat.le_of_ble_eq_true rfl⟩) hS (fun q _ h => hFc q h) hFc (fun q _ h => hFc q h) (fun E ce q9 u_8 t H locs ht hvm hpx hBX hz1 hk1 hS hce hv9 hcl => ?_) (fun r u_8 t H locs ht hvm hw hB hz1 hk1 hS => ?_)
      · have hne : ¬ q_7.1 = 0 := xnm_ne hBX.1
        rw [if_neg hne] at hm
        have hX9 := hBX.1
        have hB := hBX.2
        have hP : va_P (DG G) clP3 (wC G a q_7.2.2 q_4.2.2.1 q_4.2.2.2 S D R M N P) H := by rw [← ht]; exact hB.1
        have hD : va_D A (wC G a q_7.2.2 q_4.2.2.1 q_4.2.2.2 S D R M N P) := hB.2.weaken (fun _ p _ h => hFc p.1 h)
        simp only [Option.some.injEq, Prod.mk.injEq] at hm
        obtain ⟨rfl, rfl, rfl, rfl, rfl, rfl⟩ := hm
        subst hAe
        exact vx_out (fun x hx => (hout0 x hx).elim) hlocks hce hv9 hcl (fun t2 ht2 _ => ⟨(), trivial, ⟨hX9, by rw [ht2]; exact hP, hD⟩, hS.F ht2⟩) hS.2.2 (Nat.le_of_ble_eq_true rfl) (Nat.le_of_ble_eq_true rfl)
      · rw [if_pos hw.1] at hm
        rw [show r = q_7.2.1 from hw.2]
        have hP : va_P (DG G) clP3 (wC G a q_7.2.2 q_4.2.2.1 q_4.2.2.2 S D R M N P) H := by rw [← ht]; exact hB.1
        have hD : va_D A (wC G a q_7.2.2 q_4.2.2.1 q_4.2.2.2 S D R M N P) := hB.2.weaken (fun _ p _ h => hFc p.1 h)
        refine W.widen (k := 2) (n := 12) (Nat.le_of_ble_eq_true rfl) (Nat.le_of_ble_eq_true rfl) ?_
        refine lv_pop hx hb dX11_valueSize_58 rfl ?_
        refine lv_iload hx hb dX11_valueSize_59 (lv_at hl 0 rfl) ?_
        refine lv_iconst (v := 1) hx hb dX11_valueSize_61 (by decide) ?_
        refine lv_iadd hx hb dX11_valueSize_62 ?_
        refine lv_iconst (v := 2) hx hb dX11_valueSize_63 (by decide) ?_
        refine lv_idiv hx hb dX11_valueSize_64 (by decide) ?_
        simp only [Option.some.injEq, Prod.mk.injEq] at hm
        obtain ⟨rfl, rfl, rfl, rfl, rfl, rfl⟩ := hm
        subst hAe
        refine W.widen (k := 2) (n := 12) (Nat.le_of_ble_eq_true rfl) (Nat.le_of_ble_eq_true rfl) ?_
        exact vx_ret (W.iret (v := ((q_6 + (1 : Int32)) / 2)) hx hb hr (fun t ht hW => ⟨⟨((q_6 + (1 : Int32)) / 2), (), rfl, ⟨rfl, rfl⟩, ⟨by rw [ht]; exact hP, hD⟩⟩, hS.F ht⟩) hS.2.2 dX11_valueSize_65 hlocks)
    · rw [if_neg c_5] at hm
      refine lv_aload_n hx hb dX11_valueSize_25 rfl (lv_at hl 2 rfl) ?_
      refine va_get (D := DG G) (ci := 10) (v := .ref (a.1 31)) (C := RX11) (T := TX11) (N := 10) hx hb hts inW_X11 hown hK hP 0 rfl rfl 6 (by decide) (hts _ wm290) (fun _ h9 => h9) rfl dX11_valueSize_26 ?_
      refine lv_iload_n hx hb dX11_valueSize_29 rfl (lv_at hl 1 rfl) ?_
      refine lv_iconst (v := 1) hx hb dX11_valueSize_30 (by decide) ?_
      obtain ⟨q_9, hq_9, hm⟩ := bind_some hm
      have hFc := free_all hD hS hA
      refine va_calli (va_runV (As := [.int q_1.2, .int 1]) (rest := []) ⟨hx, hb, hml, hown, hts⟩ (k_X5_valueOf1 l hfl G a q_4.2.1 q_4.2.2.1 q_4.2.2.2 S D R M N P hlk q_1.2  q_9.1 q_9.2.1 q_9.2.2 hq_9 H.size) (cwV 2 hts (gV wm1162 wm1163 wm1164 wm10 wm1165) rfl rfl rfl (by decide +kernel) ⟨Nat.le_of_ble_eq_true rfl, Nat.le_of_ble_eq_true rfl⟩) (pre_v (pre_w hK hP hD hS hE hFc) (va_recv hK hP (ci := 5) (q0 := 31) rfl rfl)) rfl rfl hl.1 rfl (lv_room (Nat.le_of_ble_eq_true rfl)) dX11_valueSize_31 ⟨Nat.le_of_ble_eq_true rfl, Nat.le_of_ble_eq_true rfl⟩) hS (fun q _ h => hFc q h) hFc (fun r u t H locs ht hvm hw hB hz1 hk1 hS => ?_)
      rw [show r = q_9.1 from hw]
      have hP : va_P (DG G) clP3 (wC G a q_9.2.1 q_4.2.2.1 q_4.2.2.2 S D R q_9.2.2 N P) H := by rw [← ht]; exact hB.1
      have hD : va_D A (wC G a q_9.2.1 q_4.2.2.1 q_4.2.2.2 S D R q_9.2.2 N P) := hB.2.weaken (fun _ p _ h => hFc p.1 h)
      clear hB hFc hw hk1
      refine W.widen (k := 1) (n := 6) (Nat.le_of_ble_eq_true rfl) (Nat.le_of_ble_eq_true rfl) ?_
      refine lv_goto (tgt := 38) hx hb dX11_valueSize_34 (by decide) ?_
      refine lv_istore (lv' := [(4, .int q_9.1), (3, .int q_3), (2, .int q_1.2), (0, .ref (a.1 0)), (1, .int p1)]) hx hb dX11_valueSize_38 hl (by decide) rfl (fun ls hl => ?_)
      refine lv_aload_n hx hb dX11_valueSize_40 rfl (lv_at hl 3 rfl) ?_
      refine va_get (D := DG G) (ci := 10) (v := .ref (a.1 1)) (C := RX11) (T := TX11) (N := 10) hx hb hts inW_X11 hown hK hP 0 rfl rfl 0 (by decide) (hts _ wm284) (fun _ h9 => h9) rfl dX11_valueSize_41 ?_
      refine lv_iload hx hb dX11_valueSize_44 (lv_at hl 0 rfl) ?_
      obtain ⟨q_10, hq_10, hm⟩ := bind_some hm
      have hFc := free_all hD hS hA
      refine va_calli (va_runV (As := [.int q_9.1]) (rest := []) ⟨hx, hb, hml, hown, hts⟩ (K_X9_sizeOf l hfl G a q_9.2.1 q_4.2.2.1 q_4.2.2.2 S D R q_9.2.2 N P q_9.1  q_10 hq_10 H.size) (cwV 1 hts (gV wm394 wm395 wm396 wm2 wm397) rfl rfl rfl (by decide +kernel) ⟨Nat.le_of_ble_eq_true rfl, Nat.le_of_ble_eq_true rfl⟩) (pre_v (pre_w hK hP hD hS hE hFc) (va_recv hK hP (ci := 8) (q0 := 1) rfl rfl)) rfl rfl hl.1 rfl (lv_room (Nat.le_of_ble_eq_true rfl)) dX11_valueSize_46 ⟨Nat.le_of_ble_eq_true rfl, Nat.le_of_ble_eq_true rfl⟩) hS (fun q _ h => hFc q h) hFc (fun r u t H locs ht hvm hw hB hz1 hk1 hS => ?_)
      rw [show r = q_10 from hw]
      have hP : va_P (DG G) clP3 (wC G a q_9.2.1 q_4.2.2.1 q_4.2.2.2 S D R q_9.2.2 N P) H := by rw [← ht]; exact hB.1
      have hD : va_D A (wC G a q_9.2.1 q_4.2.2.1 q_4.2.2.2 S D R q_9.2.2 N P) := hB.2.weaken (fun _ p _ h => hFc p.1 h)
      clear hB hFc hw hk1
      refine W.widen (k := 1) (n := 6) (Nat.le_of_ble_eq_true rfl) (Nat.le_of_ble_eq_true rfl) ?_
      refine lv_istore (lv' := [(5, .int q_10), (4, .int q_9.1), (3, .int q_3), (2, .int q_1.2), (0, .ref (a.1 0)), (1, .int p1)]) hx hb dX11_valueSize_49 hl (by decide) rfl (fun ls hl => ?_)
      refine lv_aload_n hx hb dX11_valueSize_51 rfl (lv_at hl 4 rfl) ?_
      refine lv_iload_n hx hb dX11_valueSize_52 rfl (lv_at hl 2 rfl) ?_
      refine lv_iload hx hb dX11_valueSize_53 (lv_at hl 1 rfl) ?_
      obtain ⟨q_11, hq_11, hm⟩ := bind_some hm
      have hFc := free_all hD hS hA
      refine vx_calli (vx_runV (As := [.int q_3, .int q_9.1]) (rest := []) ⟨hx, hb, hml, hown, hts⟩ (k_X11_numberOfScratch l hfl G a q_9.2.1 q_4.2.2.1 q_4.2.2.2 S D R q_9.2.2 N P hlk q_3 q_9.1  q_11.1 q_11.2.1 q_11.2.2 hq_11 H.size) (cwV 2 hts (gV wm815 wm817 ws_p11 wm1 wm818) rfl rfl rfl (by decide +kernel) ⟨Nat.le_of_ble_eq_true rfl, Nat.le_of_ble_eq_true rfl⟩) (pre_v (pre_w hK hP hD hS hE hFc) (va_recv hK hP (ci := 10) (q0 := 0) rfl rfl)) rfl rfl hl.1 rfl (lv_room (Nat.le_of_ble_eq_true rfl)) dX11_valueSize_55 ⟨Nat.le_of_ble_eq_true rfl, Nat.le_of_ble_eq_true rfl⟩) hS (fun q _ h => hFc q h) hFc (fun q _ h => hFc q h) (fun E ce q9 u_12 t H locs ht hvm hpx hBX hz1 hk1 hS hce hv9 hcl => ?_) (fun r u_12 t H locs ht hvm hw hB hz1 hk1 hS => ?_)
      · have hne : ¬ q_11.1 = 0 := xnm_ne hBX.1
        rw [if_neg hne] at hm
        have hX9 := hBX.1
        have hB := hBX.2
        have hP : va_P (DG G) clP3 (wC G a q_11.2.2 q_4.2.2.1 q_4.2.2.2 S D R q_9.2.2 N P) H := by rw [← ht]; exact hB.1
        have hD : va_D A (wC G a q_11.2.2 q_4.2.2.1 q_4.2.2.2 S D R q_9.2.2 N P) := hB.2.weaken (fun _ p _ h => hFc p.1 h)
        simp only [Option.some.injEq, Prod.mk.injEq] at hm
        obtain ⟨rfl, rfl, rfl, rfl, rfl, rfl⟩ := hm
        subst hAe
        exact vx_out (fun x hx => (hout0 x hx).elim) hlocks hce hv9 hcl (fun t2 ht2 _ => ⟨(), trivial, ⟨hX9, by rw [ht2]; exact hP, hD⟩, hS.F ht2⟩) hS.2.2 (Nat.le_of_ble_eq_true rfl) (Nat.le_of_ble_eq_true rfl)
      · rw [if_pos hw.1] at hm
        rw [show r = q_11.2.1 from hw.2]
        have hP : va_P (DG G) clP3 (wC G a q_11.2.2 q_4.2.2.1 q_4.2.2.2 S D R q_9.2.2 N P) H := by rw [← ht]; exact hB.1
        have hD : va_D A (wC G a q_11.2.2 q_4.2.2.1 q_4.2.2.2 S D R q_9.2.2 N P) := hB.2.weaken (fun _ p _ h => hFc p.1 h)
        refine W.widen (k := 2) (n := 12) (Nat.le_of_ble_eq_true rfl) (Nat.le_of_ble_eq_true rfl) ?_
        refine lv_pop hx hb dX11_valueSize_58 rfl ?_
        refine lv_iload hx hb dX11_valueSize_59 (lv_at hl 0 rfl) ?_
        refine lv_iconst (v := 1) hx hb dX11_valueSize_61 (by decide) ?_
        refine lv_iadd hx hb dX11_valueSize_62 ?_
        refine lv_iconst (v := 2) hx hb dX11_valueSize_63 (by decide) ?_
        refine lv_idiv hx hb dX11_valueSize_64 (by decide) ?_
        simp only [Option.some.injEq, Prod.mk.injEq] at hm
        obtain ⟨rfl, rfl, rfl, rfl, rfl, rfl⟩ := hm
        subst hAe
        refine W.widen (k := 2) (n := 12) (Nat.le_of_ble_eq_true rfl) (Nat.le_of_ble_eq_true rfl) ?_
        exact vx_ret (W.iret (v := ((q_10 + (1 : Int32)) / 2)) hx hb hr (fun t ht hW => ⟨⟨((q_10 + (1 : Int32)) / 2), (), rfl, ⟨rfl, rfl⟩, ⟨by rw [ht]; exact hP, hD⟩⟩, hS.F ht⟩) hS.2.2 dX11_valueSize_65 hlocks)
def f_X11_isSound_L2 : Nat → TS → FS → US → SS → DS → PS → Int32 → Option (Int32 × TS × FS × US)
  | 0, _, _, _, _, _, _, _ => none
  | n + 1, T, F, U, S, D, P, v1 => (if D.2.1 ≤ v1 then (Option.bind (f_X0_anAcceptedOneIsOpen D P) (fun q_2 => (if q_2 = 0 then (Option.bind (f_X0_twoAreAlike T D P) (fun q_4 => (if q_4 = 0 then some (1, T, F, U) else some (0, T, F, U)))) else some (0, T, F, U)))) else (Option.bind (f_X0_goal D v1) (fun q_6 => (if q_6 < 0 then (f_X11_isSound_L2 n T F U S D P (v1 + 1)) else (if gix D q_6 = true then (if (P.2.2.2.2.2.1 (Int32.toNatClampNeg q_6)) = 102 then (Option.bind (f_X10_fits T F U S D P q_6 (P.2.2.2.2.2.2.1 (Int32.toNatClampNeg q_6)) (P.2.2.2.2.1 (Int32.toNatClampNeg q_6))) (fun q_10 => (if q_10.1 = 0 then some (0, q_10.2.1, q_10.2.2.1, q_10.2.2.2) else (f_X11_isSound_L2 n q_10.2.1 q_10.2.2.1 q_10.2.2.2 S D P (v1 + 1))))) else (f_X11_isSound_L2 n T F U S D P (v1 + 1))) else none)))))
def f_X11_isSound (T : TS) (F : FS) (U : US) (S : SS) (D : DS) (P : PS)  : Option (Int32 × TS × FS × US) := (f_X11_isSound_L2 100000 T F U S D P 0)
set_option maxHeartbeats 2000000 in
set_option maxRecDepth 100000 in
theorem kl_X11_isSound_2 {l : Launch} (hfl : l.stackTraces = false) {G : GC} {a : AS} {T : TS} {F : FS} {U : US} {S : SS} {D : DS} {R : RS} {M : MS} {N : NS} {P : PS} {A : Nat → Prop} {sz : Nat} {p : Program} {e : Env} {s : State} {m : MethodId} {args : Array Value} {below : List Frame} {meth : Method} {c : Code} (hx : p.tables.exec = Jvm.exec) (hb : c.code = cX11_isSound) (hr : meth.sig.returnType = (some .boolean)) (hml : c.maxLocals = 3) (hown : s.vm.findClass RX11 = some m.cls) (hts : ∀ w ∈ W0, w.before args s = true) (hlocks : meth.locks = false) (hlk : lkA a D.1.toNatClampNeg D.2.1.toNatClampNeg) (hAe : (va_A (wC G a T F U S D R M N P) sz) = A) (hA : ∀ q : Nat, s.heap.size ≤ q → A q) (hE : EV G A s s.heap) (hK : va_K (DG G) clP3 (TY G) s) (r9 : Int32) (T9 : TS) (F9 : FS) (U9 : US) : ∀ (n : Nat), ∀ (T8 : TS) (F8 : FS) (U8 : US) (v1 : Int32) (H : Heap) (locs : List Loc), va_P (DG G) clP3 (wC G a T8 F8 U8 S D R M N P) H → va_D A (wC G a T8 F8 U8 S D R M N P) → va_S A s.heap H locs → ∀ (ls : Array Slot), lv_has ls 3 [(0, .ref (a.1 0)), (1, .int v1)] → f_X11_isSound_L2 n T8 F8 U8 S D P v1 = some (r9, T9, F9, U9) → W p l e ({ frames := 582, cells := 0, slots := 0, locals := 15248 }) s m args below meth c H locs 0 0 (MQ below (va_Qi (fun (r : Int32) (_ : Unit) => r = r9) (fun _ t => PW G (va_A (wC G a T F U S D R M N P) sz) (wC G a T9 F9 U9 S D R M N P) t) (va_A (wC G a T F U S D R M N P) sz)) args s 0 0 (va_A (wC G a T F U S D R M N P) sz)) (F0 m 2 ls []) := by
  intro n
  induction n with
  | zero =>
    intro T8 F8 U8 v1 H locs hP hD hS ls hl hm
    rw [f_X11_isSound_L2] at hm
    cases hm
  | succ n ih =>
    intro T8 F8 U8 v1 H locs hP hD hS ls hl hm
    rw [f_X11_isSound_L2] at hm
    refine lv_iload_n hx hb dX11_isSound_2 rfl (lv_at hl 1 rfl) ?_
    refine lv_aload_n hx hb dX11_isSound_3 rfl (lv_at hl 0 rfl) ?_
    refine va_get (D := DG G) (ci := 10) (v := .ref (a.1 21)) (C := RX11) (T := TX11) (N := 10) hx hb hts inW_X11 hown hK hP 0 rfl rfl 3 (by decide) (hts _ wm287) (fun _ h9 => h9) rfl dX11_isSound_4 ?_
    refine va_getN (D := DG G) (ci := 0) (v := .int D.2.1) (C := RX0) (T := TX0) (N := 8) hx hb hts inW_X0 hown hK hP 21 rfl rfl 6 (by decide) (va_Nw.use rfl (hE.1 _ nw148)) (fun _ h9 => h9) rfl dX11_isSound_7 ?_
    refine lv_icmp_ge (tgt := 65) hx hb dX11_isSound_10 (by decide) (fun c_1 => ?_) (fun c_1 => ?_)
    · rw [if_pos c_1] at hm
      refine lv_aload_n hx hb dX11_isSound_65 rfl (lv_at hl 0 rfl) ?_
      refine va_get (D := DG G) (ci := 10) (v := .ref (a.1 21)) (C := RX11) (T := TX11) (N := 10) hx hb hts inW_X11 hown hK hP 0 rfl rfl 3 (by decide) (hts _ wm287) (fun _ h9 => h9) rfl dX11_isSound_66 ?_
      obtain ⟨q_2, hq_2, hm⟩ := bind_some hm
      have hFc := free_all hD hS hA
      refine va_calli (va_runV (As := []) (rest := []) ⟨hx, hb, hml, hown, hts⟩ (k_X0_anAcceptedOneIsOpen l hfl G a T8 F8 U8 S D R M N P hlk   q_2 hq_2 H.size) (cwV 0 hts (gV wm612 wm613 wm614 wm5 wm615) rfl rfl rfl (by decide +kernel) ⟨Nat.le_of_ble_eq_true rfl, Nat.le_of_ble_eq_true rfl⟩) (pre_v (pre_w hK hP hD hS hE hFc) (va_recv hK hP (ci := 0) (q0 := 21) rfl rfl)) rfl rfl hl.1 rfl (lv_room (Nat.le_of_ble_eq_true rfl)) dX11_isSound_69 ⟨Nat.le_of_ble_eq_true rfl, Nat.le_of_ble_eq_true rfl⟩) hS (fun q _ h => hFc q h) hFc (fun r u t H locs ht hvm hw hB hz1 hk1 hS => ?_)
      rw [show r = q_2 from hw]
      have hP : va_P (DG G) clP3 (wC G a T8 F8 U8 S D R M N P) H := by rw [← ht]; exact hB.1
      have hD : va_D A (wC G a T8 F8 U8 S D R M N P) := hB.2.weaken (fun _ p _ h => hFc p.1 h)
      clear hB hFc hw hk1
      refine W.widen (k := 0) (n := 0) (Nat.le_of_ble_eq_true rfl) (Nat.le_of_ble_eq_true rfl) ?_
      refine lv_if_ne (tgt := 89) hx hb dX11_isSound_72 (by decide) (fun c_3 => ?_) (fun c_3 => ?_)
      · rw [if_neg c_3] at hm
        refine lv_iconst (v := 0) hx hb dX11_isSound_89 (by decide) ?_
        simp only [Option.some.injEq, Prod.mk.injEq] at hm
        obtain ⟨rfl, rfl, rfl, rfl⟩ := hm
        refine W.widen (k := 0) (n := 0) (Nat.le_of_ble_eq_true rfl) (Nat.le_of_ble_eq_true rfl) ?_
        exact W.zret (v := 0) (ty := .boolean) hx hb hr (by decide) (fun t ht hW => ⟨⟨0, (), rfl, rfl, ⟨by rw [ht]; exact hP, by rw [hAe]; exact hD⟩⟩, by rw [hAe]; exact hS.F ht⟩) (by rw [hAe]; exact hS.2.2) dX11_isSound_90 hlocks
      · rw [if_pos c_3] at hm
        refine lv_aload_n hx hb dX11_isSound_75 rfl (lv_at hl 0 rfl) ?_
        refine va_get (D := DG G) (ci := 10) (v := .ref (a.1 21)) (C := RX11) (T := TX11) (N := 10) hx hb hts inW_X11 hown hK hP 0 rfl rfl 3 (by decide) (hts _ wm287) (fun _ h9 => h9) rfl dX11_isSound_76 ?_
        obtain ⟨q_4, hq_4, hm⟩ := bind_some hm
        have hFc := free_all hD hS hA
        refine va_calli (va_runV (As := []) (rest := []) ⟨hx, hb, hml, hown, hts⟩ (k_X0_twoAreAlike l hfl G a T8 F8 U8 S D R M N P hlk   q_4 hq_4 H.size) (cwV 0 hts (gV wm622 wm623 wm624 wm5 wm625) rfl rfl rfl (by decide +kernel) ⟨Nat.le_of_ble_eq_true rfl, Nat.le_of_ble_eq_true rfl⟩) (pre_v (pre_w hK hP hD hS hE hFc) (va_recv hK hP (ci := 0) (q0 := 21) rfl rfl)) rfl rfl hl.1 rfl (lv_room (Nat.le_of_ble_eq_true rfl)) dX11_isSound_79 ⟨Nat.le_of_ble_eq_true rfl, Nat.le_of_ble_eq_true rfl⟩) hS (fun q _ h => hFc q h) hFc (fun r u t H locs ht hvm hw hB hz1 hk1 hS => ?_)
        rw [show r = q_4 from hw]
        have hP : va_P (DG G) clP3 (wC G a T8 F8 U8 S D R M N P) H := by rw [← ht]; exact hB.1
        have hD : va_D A (wC G a T8 F8 U8 S D R M N P) := hB.2.weaken (fun _ p _ h => hFc p.1 h)
        clear hB hFc hw hk1
        refine W.widen (k := 0) (n := 0) (Nat.le_of_ble_eq_true rfl) (Nat.le_of_ble_eq_true rfl) ?_
        refine lv_if_ne (tgt := 89) hx hb dX11_isSound_82 (by decide) (fun c_5 => ?_) (fun c_5 => ?_)
        · rw [if_neg c_5] at hm
          refine lv_iconst (v := 0) hx hb dX11_isSound_89 (by decide) ?_
          simp only [Option.some.injEq, Prod.mk.injEq] at hm
          obtain ⟨rfl, rfl, rfl, rfl⟩ := hm
          refine W.widen (k := 0) (n := 0) (Nat.le_of_ble_eq_true rfl) (Nat.le_of_ble_eq_true rfl) ?_
          exact W.zret (v := 0) (ty := .boolean) hx hb hr (by decide) (fun t ht hW => ⟨⟨0, (), rfl, rfl, ⟨by rw [ht]; exact hP, by rw [hAe]; exact hD⟩⟩, by rw [hAe]; exact hS.F ht⟩) (by rw [hAe]; exact hS.2.2) dX11_isSound_90 hlocks
        · rw [if_pos c_5] at hm
          refine lv_iconst (v := 1) hx hb dX11_isSound_85 (by decide) ?_
          refine lv_goto (tgt := 90) hx hb dX11_isSound_86 (by decide) ?_
          simp only [Option.some.injEq, Prod.mk.injEq] at hm
          obtain ⟨rfl, rfl, rfl, rfl⟩ := hm
          refine W.widen (k := 0) (n := 0) (Nat.le_of_ble_eq_true rfl) (Nat.le_of_ble_eq_true rfl) ?_
          exact W.zret (v := 1) (ty := .boolean) hx hb hr (by decide) (fun t ht hW => ⟨⟨1, (), rfl, rfl, ⟨by rw [ht]; exact hP, by rw [hAe]; exact hD⟩⟩, by rw [hAe]; exact hS.F ht⟩) (by rw [hAe]; exact hS.2.2) dX11_isSound_90 hlocks
    · rw [if_neg c_1] at hm
      refine lv_aload_n hx hb dX11_isSound_13 rfl (lv_at hl 0 rfl) ?_
      refine va_get (D := DG G) (ci := 10) (v := .ref (a.1 21)) (C := RX11) (T := TX11) (N := 10) hx hb hts inW_X11 hown hK hP 0 rfl rfl 3 (by decide) (hts _ wm287) (fun _ h9 => h9) rfl dX11_isSound_14 ?_
      refine lv_iload_n hx hb dX11_isSound_17 rfl (lv_at hl 1 rfl) ?_
      obtain ⟨q_6, hq_6, hm⟩ := bind_some hm
      have hFc := free_all hD hS hA
      refine va_callq (va_runV (As := [.int v1]) (rest := []) ⟨hx, hb, hml, hown, hts⟩ (k_X0_goal l hfl G a T8 F8 U8 S D R M N P hlk v1  q_6 hq_6 H.size) (cwV 1 hts (gV wm604 wm605 wm606 wm5 wm607) rfl rfl rfl (by decide +kernel) ⟨Nat.le_of_ble_eq_true rfl, Nat.le_of_ble_eq_true rfl⟩) (pre_v (pre_w hK hP hD hS hE hFc) (va_recv hK hP (ci := 0) (q0 := 21) rfl rfl)) rfl rfl hl.1 rfl (lv_room (Nat.le_of_ble_eq_true rfl)) dX11_isSound_18 ⟨Nat.le_of_ble_eq_true rfl, Nat.le_of_ble_eq_true rfl⟩) hS (fun q _ h => hFc q h) hFc (fun r u t H locs ht hvm hw hB hz1 hk1 hS => ?_)
      rw [show r = rfG a q_6 from hw]
      have hP : va_P (DG G) clP3 (wC G a T8 F8 U8 S D R M N P) H := by rw [← ht]; exact hB.1
      have hD : va_D A (wC G a T8 F8 U8 S D R M N P) := hB.2.weaken (fun _ p _ h => hFc p.1 h)
      clear hB hFc hw hk1
      refine W.widen (k := 0) (n := 0) (Nat.le_of_ble_eq_true rfl) (Nat.le_of_ble_eq_true rfl) ?_
      by_cases c_7 : q_6 < 0
      · rw [if_pos c_7] at hm
        rw [show rfG a q_6 = none from if_pos c_7]
        refine W.eq (g2 := F0 m 21 ls [.null]) rfl ?_
        refine lv_astore_nN (lv' := [(2, .null), (0, .ref (a.1 0)), (1, .int v1)]) hx hb dX11_isSound_21 rfl hl (by decide) rfl (fun ls hl => ?_)
        refine lv_aload_nN hx hb dX11_isSound_22 rfl (lv_at hl 0 rfl) ?_
        refine lv_ifnullN (tgt := 59) hx hb dX11_isSound_23 (by decide) ?_
        refine lv_iinc (v := (v1 + 1)) (lv' := [(1, .int (v1 + 1)), (2, .null), (0, .ref (a.1 0))]) hx hb dX11_isSound_59 hl (k := 2) rfl rfl (by decide) rfl (fun ls hl => ?_)
        refine lv_goto (tgt := 2) hx hb dX11_isSound_62 (by decide) ?_
        refine W.widen (k := 0) (n := 0) (Nat.le_of_ble_eq_true rfl) (Nat.le_of_ble_eq_true rfl) ?_
        exact ih T8 F8 U8 (v1 + 1)  _ _ hP hD hS _ (lv_sub hl [2, 0] rfl) hm
      · rw [if_neg c_7] at hm
        obtain ⟨g_8, hm⟩ := ite_some hm
        rw [show rfG a q_6 = some _ from if_neg c_7]
        refine W.eq (g2 := F0 m 21 ls [.ref (a.2.2.1 (Int32.toNatClampNeg q_6) 0)]) rfl ?_
        refine lv_astore_n (lv' := [(2, .ref (a.2.2.1 (Int32.toNatClampNeg q_6) 0)), (0, .ref (a.1 0)), (1, .int v1)]) hx hb dX11_isSound_21 rfl hl (by decide) rfl (fun ls hl => ?_)
        refine lv_aload_n hx hb dX11_isSound_22 rfl (lv_at hl 0 rfl) ?_
        refine lv_ifnull hx hb dX11_isSound_23 ?_
        refine lv_aload_n hx hb dX11_isSound_26 rfl (lv_at hl 0 rfl) ?_
        refine va_getN (D := DG G) (ci := 3) (v := .int (P.2.2.2.2.2.1 (Int32.toNatClampNeg q_6))) (C := RX3) (T := TX3) (N := 8) hx hb hts inW_X3 hown hK hP _ ((at_goalC (c := 0) (gix_lt g_8) (by decide)).trans rfl) rfl 4 (by decide) (va_Nw.use rfl (hE.1 _ nw923)) (fun _ h9 => h9) rfl dX11_isSound_27 ?_
        refine lv_bipush (v := 102) hx hb dX11_isSound_30 (by decide) ?_
        refine lv_icmp_ne (tgt := 59) hx hb dX11_isSound_32 (by decide) (fun c_9 => ?_) (fun c_9 => ?_)
        · rw [if_neg c_9] at hm
          refine lv_iinc (v := (v1 + 1)) (lv' := [(1, .int (v1 + 1)), (2, .ref (a.2.2.1 (Int32.toNatClampNeg q_6) 0)), (0, .ref (a.1 0))]) hx hb dX11_isSound_59 hl (k := 2) rfl rfl (by decide) rfl (fun ls hl => ?_)
          refine lv_goto (tgt := 2) hx hb dX11_isSound_62 (by decide) ?_
          refine W.widen (k := 0) (n := 0) (Nat.le_of_ble_eq_true rfl) (Nat.le_of_ble_eq_true rfl) ?_
          exact ih T8 F8 U8 (v1 + 1)  _ _ hP hD hS _ (lv_sub hl [2, 0] rfl) hm
        · rw [if_pos c_9] at hm
          refine lv_aload_n hx hb dX11_isSound_35 rfl (lv_at hl 1 rfl) ?_
          refine va_get (D := DG G) (ci := 10) (v := .ref (a.1 24)) (C := RX11) (T := TX11) (N := 10) hx hb hts inW_X11 hown hK hP 0 rfl rfl 4 (by decide) (hts _ wm288) (fun _ h9 => h9) rfl dX11_isSound_36 ?_
          refine lv_aload_n hx hb dX11_isSound_39 rfl (lv_at hl 0 rfl) ?_
          refine va_getN (D := DG G) (ci := 3) (v := .ref (a.2.2.1 (Int32.toNatClampNeg q_6) 1)) (C := RX3) (T := TX3) (N := 8) hx hb hts inW_X3 hown hK hP _ ((at_goalC (c := 0) (gix_lt g_8) (by decide)).trans rfl) rfl 1 (by decide) (va_Nw.use rfl (hE.1 _ nw911)) (fun _ h9 => h9) rfl dX11_isSound_40 ?_
          refine lv_aload_n hx hb dX11_isSound_43 rfl (lv_at hl 0 rfl) ?_
          refine va_getN (D := DG G) (ci := 3) (v := .int (P.2.2.2.2.2.2.1 (Int32.toNatClampNeg q_6))) (C := RX3) (T := TX3) (N := 8) hx hb hts inW_X3 hown hK hP _ ((at_goalC (c := 0) (gix_lt g_8) (by decide)).trans rfl) rfl 5 (by decide) (va_Nw.use rfl (hE.1 _ nw927)) (fun _ h9 => h9) rfl dX11_isSound_44 ?_
          refine lv_aload_n hx hb dX11_isSound_47 rfl (lv_at hl 0 rfl) ?_
          refine va_getN (D := DG G) (ci := 3) (v := .int (P.2.2.2.2.1 (Int32.toNatClampNeg q_6))) (C := RX3) (T := TX3) (N := 8) hx hb hts inW_X3 hown hK hP _ ((at_goalC (c := 0) (gix_lt g_8) (by decide)).trans rfl) rfl 2 (by decide) (va_Nw.use rfl (hE.1 _ nw914)) (fun _ h9 => h9) rfl dX11_isSound_48 ?_
          obtain ⟨q_10, hq_10, hm⟩ := bind_some hm
          have hFc := free_all hD hS hA
          refine va_calli (va_runV (As := [.ref (a.2.2.1 (Int32.toNatClampNeg q_6) 1), .int (P.2.2.2.2.2.2.1 (Int32.toNatClampNeg q_6)), .int (P.2.2.2.2.1 (Int32.toNatClampNeg q_6))]) (rest := []) ⟨hx, hb, hml, hown, hts⟩ (k_X10_fits l hfl G a T8 F8 U8 S D R M N P hlk q_6 (P.2.2.2.2.2.2.1 (Int32.toNatClampNeg q_6)) (P.2.2.2.2.1 (Int32.toNatClampNeg q_6)) g_8 q_10.1 q_10.2.1 q_10.2.2.1 q_10.2.2.2 hq_10 H.size) (cwV 3 hts (gV wm608 wm609 wm610 wm6 wm611) rfl rfl rfl (by decide +kernel) ⟨Nat.le_of_ble_eq_true rfl, Nat.le_of_ble_eq_true rfl⟩) (pre_v (pre_w hK hP hD hS hE hFc) (va_recv hK hP (ci := 9) (q0 := 24) rfl rfl)) rfl rfl hl.1 rfl (lv_room (Nat.le_of_ble_eq_true rfl)) dX11_isSound_51 ⟨Nat.le_of_ble_eq_true rfl, Nat.le_of_ble_eq_true rfl⟩) hS (fun q _ h => hFc q h) hFc (fun r u t H locs ht hvm hw hB hz1 hk1 hS => ?_)
          rw [show r = q_10.1 from hw]
          have hP : va_P (DG G) clP3 (wC G a q_10.2.1 q_10.2.2.1 q_10.2.2.2 S D R M N P) H := by rw [← ht]; exact hB.1
          have hD : va_D A (wC G a q_10.2.1 q_10.2.2.1 q_10.2.2.2 S D R M N P) := hB.2.weaken (fun _ p _ h => hFc p.1 h)
          clear hB hFc hw hk1
          refine W.widen (k := 0) (n := 0) (Nat.le_of_ble_eq_true rfl) (Nat.le_of_ble_eq_true rfl) ?_
          refine lv_if_ne (tgt := 59) hx hb dX11_isSound_54 (by decide) (fun c_11 => ?_) (fun c_11 => ?_)
          · rw [if_neg c_11] at hm
            refine lv_iinc (v := (v1 + 1)) (lv' := [(1, .int (v1 + 1)), (2, .ref (a.2.2.1 (Int32.toNatClampNeg q_6) 0)), (0, .ref (a.1 0))]) hx hb dX11_isSound_59 hl (k := 2) rfl rfl (by decide) rfl (fun ls hl => ?_)
            refine lv_goto (tgt := 2) hx hb dX11_isSound_62 (by decide) ?_
            refine W.widen (k := 0) (n := 0) (Nat.le_of_ble_eq_true rfl) (Nat.le_of_ble_eq_true rfl) ?_
            exact ih q_10.2.1 q_10.2.2.1 q_10.2.2.2 (v1 + 1)  _ _ hP hD hS _ (lv_sub hl [2, 0] rfl) hm
          · rw [if_pos c_11] at hm
            refine lv_iconst (v := 0) hx hb dX11_isSound_57 (by decide) ?_
            simp only [Option.some.injEq, Prod.mk.injEq] at hm
            obtain ⟨rfl, rfl, rfl, rfl⟩ := hm
            refine W.widen (k := 0) (n := 0) (Nat.le_of_ble_eq_true rfl) (Nat.le_of_ble_eq_true rfl) ?_
            exact W.zret (v := 0) (ty := .boolean) hx hb hr (by decide) (fun t ht hW => ⟨⟨0, (), rfl, rfl, ⟨by rw [ht]; exact hP, by rw [hAe]; exact hD⟩⟩, by rw [hAe]; exact hS.F ht⟩) (by rw [hAe]; exact hS.2.2) dX11_isSound_58 hlocks
set_option maxHeartbeats 2000000 in
set_option maxRecDepth 100000 in
theorem k_X11_isSound (l : Launch) (hfl : l.stackTraces = false) (G : GC) (a : AS) (T : TS) (F : FS) (U : US) (S : SS) (D : DS) (R : RS) (M : MS) (N : NS) (P : PS) (hlk : lkA a D.1.toNatClampNeg D.2.1.toNatClampNeg)  (r9 : Int32) (T9 : TS) (F9 : FS) (U9 : US) (hm : f_X11_isSound T F U S D P = some (r9, T9, F9, U9)) (sz : Nat) : Met l yX11_isSound (Cond.code yX11_isSound cX11_isSound 3 (some .boolean) :: W0) ({ frames := 582, cells := 0, slots := 0, locals := 15248 }) (va_Pc [.ref (a.1 0)] (WD G (wC G a T F U S D R M N P) sz)) (va_Qi (fun (r : Int32) (_ : Unit) => r = r9) (fun _ t => PW G (va_A (wC G a T F U S D R M N P) sz) (wC G a T9 F9 U9 S D R M N P) t) (va_A (wC G a T F U S D R M N P) sz)) 0 0 (va_A (wC G a T F U S D R M N P) sz) := by
  rw [f_X11_isSound] at hm
  refine Met.ofW (cc := cX11_isSound) (maxL := 3) (ret := (some .boolean)) (by decide) rfl ?_
  intro p e s m args below meth c s₁ B hml hv
  obtain ⟨rfl, hsz, hP, hK, hD0, hE⟩ := hv
  have hx := B.exec
  have hb := B.bytes
  have hr := B.returns
  have hts := w0_tail B.pre
  have hown : s.vm.findClass RX11 = some m.cls := findClass_of_methodNamed B.named
  have hlocks := B.notSynchronized
  have hD := hD0.self (sz := sz)
  obtain ⟨A, hAe⟩ : ∃ A, (va_A (wC G a T F U S D R M N P) sz) = A := ⟨_, rfl⟩
  rw [hAe] at hD hE
  have hA : ∀ q : Nat, s.heap.size ≤ q → A q := fun q h => by rw [← hAe]; exact Or.inr (by rw [← hsz]; exact h)
  have hS : va_S A s.heap s.heap [] := va_S.rf
  obtain ⟨H, hHe⟩ : ∃ H : Heap, H = s.heap := ⟨_, rfl⟩
  have hP : va_P (DG G) clP3 (wC G a T F U S D R M N P) H := by rw [hHe]; exact hP
  have hS : va_S A s.heap H [] := by rw [hHe]; exact hS
  have hl := lv_entry ([.ref (a.1 0)]) (n := 3) (Nat.le_of_ble_eq_true rfl)
  rw [lg_entry_eq, ← hHe]
  generalize (lg_sl ([.ref (a.1 0)]) ++ List.replicate (3 - (lg_sl ([.ref (a.1 0)])).length) Slot.unset).toArray = ls at hl ⊢
  have hl : lv_has ls 3 [(0, .ref (a.1 0))] := hl
  refine lv_iconst (v := 0) hx hb dX11_isSound_0 (by decide) ?_
  refine lv_istore_n (lv' := [(1, .int 0), (0, .ref (a.1 0))]) hx hb dX11_isSound_1 rfl hl (by decide) rfl (fun ls hl => ?_)
  refine W.widen (k := 0) (n := 0) (Nat.le_of_ble_eq_true rfl) (Nat.le_of_ble_eq_true rfl) ?_
  exact kl_X11_isSound_2 hfl hx hb hr hml hown hts hlocks hlk hAe hA hE hK r9 T9 F9 U9 100000 T F U 0  _ _ hP hD hS _ (lv_sub hl [1, 0] rfl) hm
