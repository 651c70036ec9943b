def f_L_universe (T : TS) (N : NS) (p1 : Int32) : Option (Int32 × TS × NS) := (Option.bind (f_X11_universe T N p1) (fun q_1 => (if q_1.1 = 0 then some (q_1.2.1, q_1.2.2.1, q_1.2.2.2) else (if q_1.1 = 1 then some ((-2000000), q_1.2.2.1, q_1.2.2.2) else (if q_1.1 = 2 then some ((-1000000), q_1.2.2.1, q_1.2.2.2) else none)))))
set_option maxHeartbeats 2000000 in
set_option maxRecDepth 100000 in
theorem k_L_universe (l : Launch) (hfl : l.stackTraces = false) (G : GC) (a : AS) (T : TS) (F : FS) (U : US) (S : SS) (D : DS) (R : RS) (M : MS) (N : NS) (P : PS) (hlk : lkA a D.1.toNatClampNeg D.2.1.toNatClampNeg) (p1 : Int32) (r9 : Int32) (T9 : TS) (N9 : NS) (hm : f_L_universe T N p1 = some (r9, T9, N9)) (sz : Nat) : vx_Met l yL_universe (Cond.codeWith yL_universe cL_universe 3 (some .int) [(0, 5, 6, 19), (0, 5, 10, 22)] :: W0) ({ frames := 8, cells := 1, slots := 6, locals := 125 }) (va_Pc [.ref (a.1 0), .int p1] (WD G (wC G a T F U S D R M N P) sz)) (va_Qi (S := Unit) (fun r _ => r = r9) (fun _ t => PW G (va_A (wC G a T F U S D R M N P) sz) (wC G a T9 F U S D R M N9 P) t) (va_A (wC G a T F U S D R M N P) sz)) (vx_X (fun _ : Unit => False) (fun (_ : String) (_ : Unit) (_ : State) => True) (va_A (wC G a T F U S D R M N P) sz)) 1 6 (va_A (wC G a T F U S D R M N P) sz) := by
  rw [f_L_universe] at hm
  refine vx_ofWH (cc := cL_universe) (maxL := 3) (ret := (some .int)) (hh := [(0, 5, 6, 19), (0, 5, 10, 22)]) (by decide) rfl ?_
  intro p e s m args below meth c s₁ B hml hv
  obtain ⟨rfl, hsz, hP, hK, hD0, hE⟩ := hv
  have hx := B.exec
  have hb := B.bytes
  have hr := B.returns
  have hts := w0_tail B.pre
  have hown : s.vm.findClass RL = some m.cls := findClass_of_methodNamed B.named
  have hlocks := B.notSynchronized
  have htab := vx_table (x := yL_universe) B (hts _ wm642)
  have hD := hD0.self (sz := sz)
  obtain ⟨A, hAe⟩ : ∃ A, (va_A (wC G a T F U S D R M N P) sz) = A := ⟨_, rfl⟩
  rw [hAe] at hD hE
  have hA : ∀ q : Nat, s.heap.size ≤ q → A q := fun q h => by rw [← hAe]; exact Or.inr (by rw [← hsz]; exact h)
  have hS : va_S A s.heap s.heap [] := va_S.rf
  obtain ⟨H, hHe⟩ : ∃ H : Heap, H = s.heap := ⟨_, rfl⟩
  have hP : va_P (DG G) clP3 (wC G a T F U S D R M N P) H := by rw [hHe]; exact hP
  have hS : va_S A s.heap H [] := by rw [hHe]; exact hS
  have hl := lv_entry ([.ref (a.1 0), .int p1]) (n := 3) (Nat.le_of_ble_eq_true rfl)
  rw [lg_entry_eq, ← hHe]
  generalize (lg_sl ([.ref (a.1 0), .int p1]) ++ List.replicate (3 - (lg_sl ([.ref (a.1 0), .int p1])).length) Slot.unset).toArray = ls at hl ⊢
  have hl : lv_has ls 3 [(0, .ref (a.1 0)), (1, .int p1)] := hl
  refine lv_aload_n hx hb dL_universe_0 rfl (lv_at hl 0 rfl) ?_
  refine lv_iload_n hx hb dL_universe_1 rfl (lv_at hl 1 rfl) ?_
  obtain ⟨q_1, hq_1, hm⟩ := bind_some hm
  have hFc := free_all hD hS hA
  refine vx_calli (vx_runV (As := [.int p1]) (rest := []) ⟨hx, hb, hml, hown, hts⟩ (k_X11_universe l hfl G a T F U S D R M N P hlk p1  q_1.1 q_1.2.1 q_1.2.2.1 q_1.2.2.2 hq_1 H.size) (cwV 1 hts (gV wm645 wm646 wm647 wm1 wm648) rfl rfl rfl (by decide +kernel) ⟨Nat.le_of_ble_eq_true rfl, Nat.le_of_ble_eq_true rfl⟩) (pre_v (pre_w hK hP hD hS hE hFc) (va_recv hK hP (ci := 10) (q0 := 0) rfl rfl)) rfl rfl hl.1 rfl (lv_room (Nat.le_of_ble_eq_true rfl)) dL_universe_2 ⟨Nat.le_of_ble_eq_true rfl, Nat.le_of_ble_eq_true rfl⟩) hS (fun q _ h => hFc q h) hFc (fun q _ h => hFc q h) (fun E ce q9 u_2 t H locs ht hvm hpx hBX hz1 hk1 hS hce hv9 hcl => ?_) (fun r u_2 t H locs ht hvm hw hB hz1 hk1 hS => ?_)
  · have hne : ¬ q_1.1 = 0 := xnm_ne hBX.1
    rw [if_neg hne] at hm
    have hX9 := hBX.1
    have hB := hBX.2
    have hP : va_P (DG G) clP3 (wC G a q_1.2.2.1 F U S D R M q_1.2.2.2 P) H := by rw [← ht]; exact hB.1
    have hD : va_D A (wC G a q_1.2.2.1 F U S D R M q_1.2.2.2 P) := hB.2.weaken (fun _ p _ h => hFc p.1 h)
    by_cases k_3 : q_1.1 = 1
    · rw [if_pos k_3] at hm
      rw [k_3] at hX9
      obtain rfl : "java/lang/IllegalArgumentException" = E := Option.some.inj (xnm1.symm.trans hX9)
      refine vx_widen (k := 1) (n := 6) (Nat.le_of_ble_eq_true rfl) (Nat.le_of_ble_eq_true rfl) ?_
      refine vx_catch hown (tableOf []) ⟨0, 5, 6, 19⟩ (tableOf [(0, 5, 10, 22)]) (htab.trans rfl) xP0 (by decide) (by decide) (hts _ wm643) (va_Nw.use rfl (hE.1 _ nw651)) hce hv9 hcl ?_
      refine W.eq (g2 := F0 m 6 ls [.ref q9]) rfl ?_
      refine lv_astore_n (lv' := [(2, .ref q9), (0, .ref (a.1 0)), (1, .int p1)]) hx hb dL_universe_6 rfl hl (by decide) rfl (fun ls hl => ?_)
      refine lv_ldc (v := (-2000000)) hx hb hown (hts _ wm686) dL_universe_7 ?_
      simp only [Option.some.injEq, Prod.mk.injEq] at hm
      obtain ⟨rfl, rfl, rfl⟩ := hm
      subst hAe
      refine W.widen (k := 1) (n := 6) (Nat.le_of_ble_eq_true rfl) (Nat.le_of_ble_eq_true rfl) ?_
      exact vx_ret (W.iret (v := (-2000000)) hx hb hr (fun t ht hW => ⟨⟨(-2000000), (), rfl, rfl, ⟨by rw [ht]; exact hP, hD⟩⟩, hS.F ht⟩) hS.2.2 dL_universe_9 hlocks)
    · rw [if_neg k_3] at hm
      by_cases k_4 : q_1.1 = 2
      · rw [if_pos k_4] at hm
        rw [k_4] at hX9
        obtain rfl : "java/lang/IllegalStateException" = E := Option.some.inj (xnm2.symm.trans hX9)
        refine vx_widen (k := 1) (n := 6) (Nat.le_of_ble_eq_true rfl) (Nat.le_of_ble_eq_true rfl) ?_
        refine vx_catch hown (tableOf [(0, 5, 6, 19)]) ⟨0, 5, 10, 22⟩ (tableOf []) (htab.trans rfl) (xPc (Or.inr ⟨by decide, _, hts _ wm643, hE.2.2.1 _ nc0⟩) xP0) (by decide) (by decide) (hts _ wm644) (va_Nw.use rfl (hE.1 _ nw671)) hce hv9 hcl ?_
        refine W.eq (g2 := F0 m 10 ls [.ref q9]) rfl ?_
        refine lv_astore_n (lv' := [(2, .ref q9), (0, .ref (a.1 0)), (1, .int p1)]) hx hb dL_universe_10 rfl hl (by decide) rfl (fun ls hl => ?_)
        refine lv_ldc (v := (-1000000)) hx hb hown (hts _ wm687) dL_universe_11 ?_
        simp only [Option.some.injEq, Prod.mk.injEq] at hm
        obtain ⟨rfl, rfl, rfl⟩ := hm
        subst hAe
        refine W.widen (k := 1) (n := 6) (Nat.le_of_ble_eq_true rfl) (Nat.le_of_ble_eq_true rfl) ?_
        exact vx_ret (W.iret (v := (-1000000)) hx hb hr (fun t ht hW => ⟨⟨(-1000000), (), rfl, rfl, ⟨by rw [ht]; exact hP, hD⟩⟩, hS.F ht⟩) hS.2.2 dL_universe_13 hlocks)
      · rw [if_neg k_4] at hm
        cases hm
  · rw [if_pos hw.1] at hm
    rw [show r = q_1.2.1 from hw.2]
    have hP : va_P (DG G) clP3 (wC G a q_1.2.2.1 F U S D R M q_1.2.2.2 P) H := by rw [← ht]; exact hB.1
    have hD : va_D A (wC G a q_1.2.2.1 F U S D R M q_1.2.2.2 P) := hB.2.weaken (fun _ p _ h => hFc p.1 h)
    refine W.widen (k := 1) (n := 6) (Nat.le_of_ble_eq_true rfl) (Nat.le_of_ble_eq_true rfl) ?_
    simp only [Option.some.injEq, Prod.mk.injEq] at hm
    obtain ⟨rfl, rfl, rfl⟩ := hm
    subst hAe
    refine W.widen (k := 1) (n := 6) (Nat.le_of_ble_eq_true rfl) (Nat.le_of_ble_eq_true rfl) ?_
    exact vx_ret (W.iret (v := q_1.2.1) hx hb hr (fun t ht hW => ⟨⟨q_1.2.1, (), rfl, rfl, ⟨by rw [ht]; exact hP, hD⟩⟩, hS.F ht⟩) hS.2.2 dL_universe_5 hlocks)
def f_L_variable (T : TS) (N : NS) (p1 : Int32) : Option (Int32 × TS × NS) := (Option.bind (f_X11_variable T N p1) (fun q_1 => (if q_1.1 = 0 then some (q_1.2.1, q_1.2.2.1, q_1.2.2.2) else (if q_1.1 = 1 then some ((-2000000), q_1.2.2.1, q_1.2.2.2) else (if q_1.1 = 2 then some ((-1000000), q_1.2.2.1, q_1.2.2.2) else none)))))
set_option maxHeartbeats 2000000 in
set_option maxRecDepth 100000 in
theorem k_L_variable (l : Launch) (hfl : l.stackTraces = false) (G : GC) (a : AS) (T : TS) (F : FS) (U : US) (S : SS) (D : DS) (R : RS) (M : MS) (N : NS) (P : PS) (hlk : lkA a D.1.toNatClampNeg D.2.1.toNatClampNeg) (p1 : Int32) (r9 : Int32) (T9 : TS) (N9 : NS) (hm : f_L_variable T N p1 = some (r9, T9, N9)) (sz : Nat) : vx_Met l yL_variable (Cond.codeWith yL_variable cL_variable 3 (some .int) [(0, 5, 6, 19), (0, 5, 10, 22)] :: W0) ({ frames := 8, cells := 1, slots := 6, locals := 125 }) (va_Pc [.ref (a.1 0), .int p1] (WD G (wC G a T F U S D R M N P) sz)) (va_Qi (S := Unit) (fun r _ => r = r9) (fun _ t => PW G (va_A (wC G a T F U S D R M N P) sz) (wC G a T9 F U S D R M N9 P) t) (va_A (wC G a T F U S D R M N P) sz)) (vx_X (fun _ : Unit => False) (fun (_ : String) (_ : Unit) (_ : State) => True) (va_A (wC G a T F U S D R M N P) sz)) 1 6 (va_A (wC G a T F U S D R M N P) sz) := by
  rw [f_L_variable] at hm
  refine vx_ofWH (cc := cL_variable) (maxL := 3) (ret := (some .int)) (hh := [(0, 5, 6, 19), (0, 5, 10, 22)]) (by decide) rfl ?_
  intro p e s m args below meth c s₁ B hml hv
  obtain ⟨rfl, hsz, hP, hK, hD0, hE⟩ := hv
  have hx := B.exec
  have hb := B.bytes
  have hr := B.returns
  have hts := w0_tail B.pre
  have hown : s.vm.findClass RL = some m.cls := findClass_of_methodNamed B.named
  have hlocks := B.notSynchronized
  have htab := vx_table (x := yL_variable) B (hts _ wm690)
  have hD := hD0.self (sz := sz)
  obtain ⟨A, hAe⟩ : ∃ A, (va_A (wC G a T F U S D R M N P) sz) = A := ⟨_, rfl⟩
  rw [hAe] at hD hE
  have hA : ∀ q : Nat, s.heap.size ≤ q → A q := fun q h => by rw [← hAe]; exact Or.inr (by rw [← hsz]; exact h)
  have hS : va_S A s.heap s.heap [] := va_S.rf
  obtain ⟨H, hHe⟩ : ∃ H : Heap, H = s.heap := ⟨_, rfl⟩
  have hP : va_P (DG G) clP3 (wC G a T F U S D R M N P) H := by rw [hHe]; exact hP
  have hS : va_S A s.heap H [] := by rw [hHe]; exact hS
  have hl := lv_entry ([.ref (a.1 0), .int p1]) (n := 3) (Nat.le_of_ble_eq_true rfl)
  rw [lg_entry_eq, ← hHe]
  generalize (lg_sl ([.ref (a.1 0), .int p1]) ++ List.replicate (3 - (lg_sl ([.ref (a.1 0), .int p1])).length) Slot.unset).toArray = ls at hl ⊢
  have hl : lv_has ls 3 [(0, .ref (a.1 0)), (1, .int p1)] := hl
  refine lv_aload_n hx hb dL_variable_0 rfl (lv_at hl 0 rfl) ?_
  refine lv_iload_n hx hb dL_variable_1 rfl (lv_at hl 1 rfl) ?_
  obtain ⟨q_1, hq_1, hm⟩ := bind_some hm
  have hFc := free_all hD hS hA
  refine vx_calli (vx_runV (As := [.int p1]) (rest := []) ⟨hx, hb, hml, hown, hts⟩ (k_X11_variable l hfl G a T F U S D R M N P hlk p1  q_1.1 q_1.2.1 q_1.2.2.1 q_1.2.2.2 hq_1 H.size) (cwV 1 hts (gV wm691 wm692 wm693 wm1 wm694) rfl rfl rfl (by decide +kernel) ⟨Nat.le_of_ble_eq_true rfl, Nat.le_of_ble_eq_true rfl⟩) (pre_v (pre_w hK hP hD hS hE hFc) (va_recv hK hP (ci := 10) (q0 := 0) rfl rfl)) rfl rfl hl.1 rfl (lv_room (Nat.le_of_ble_eq_true rfl)) dL_variable_2 ⟨Nat.le_of_ble_eq_true rfl, Nat.le_of_ble_eq_true rfl⟩) hS (fun q _ h => hFc q h) hFc (fun q _ h => hFc q h) (fun E ce q9 u_2 t H locs ht hvm hpx hBX hz1 hk1 hS hce hv9 hcl => ?_) (fun r u_2 t H locs ht hvm hw hB hz1 hk1 hS => ?_)
  · have hne : ¬ q_1.1 = 0 := xnm_ne hBX.1
    rw [if_neg hne] at hm
    have hX9 := hBX.1
    have hB := hBX.2
    have hP : va_P (DG G) clP3 (wC G a q_1.2.2.1 F U S D R M q_1.2.2.2 P) H := by rw [← ht]; exact hB.1
    have hD : va_D A (wC G a q_1.2.2.1 F U S D R M q_1.2.2.2 P) := hB.2.weaken (fun _ p _ h => hFc p.1 h)
    by_cases k_3 : q_1.1 = 1
    · rw [if_pos k_3] at hm
      rw [k_3] at hX9
      obtain rfl : "java/lang/IllegalArgumentException" = E := Option.some.inj (xnm1.symm.trans hX9)
      refine vx_widen (k := 1) (n := 6) (Nat.le_of_ble_eq_true rfl) (Nat.le_of_ble_eq_true rfl) ?_
      refine vx_catch hown (tableOf []) ⟨0, 5, 6, 19⟩ (tableOf [(0, 5, 10, 22)]) (htab.trans rfl) xP0 (by decide) (by decide) (hts _ wm643) (va_Nw.use rfl (hE.1 _ nw651)) hce hv9 hcl ?_
      refine W.eq (g2 := F0 m 6 ls [.ref q9]) rfl ?_
      refine lv_astore_n (lv' := [(2, .ref q9), (0, .ref (a.1 0)), (1, .int p1)]) hx hb dL_variable_6 rfl hl (by decide) rfl (fun ls hl => ?_)
      refine lv_ldc (v := (-2000000)) hx hb hown (hts _ wm686) dL_variable_7 ?_
      simp only [Option.some.injEq, Prod.mk.injEq] at hm
      obtain ⟨rfl, rfl, rfl⟩ := hm
      subst hAe
      refine W.widen (k := 1) (n := 6) (Nat.le_of_ble_eq_true rfl) (Nat.le_of_ble_eq_true rfl) ?_
      exact vx_ret (W.iret (v := (-2000000)) hx hb hr (fun t ht hW => ⟨⟨(-2000000), (), rfl, rfl, ⟨by rw [ht]; exact hP, hD⟩⟩, hS.F ht⟩) hS.2.2 dL_variable_9 hlocks)
    · rw [if_neg k_3] at hm
      by_cases k_4 : q_1.1 = 2
      · rw [if_pos k_4] at hm
        rw [k_4] at hX9
        obtain rfl : "java/lang/IllegalStateException" = E := Option.some.inj (xnm2.symm.trans hX9)
        refine vx_widen (k := 1) (n := 6) (Nat.le_of_ble_eq_true rfl) (Nat.le_of_ble_eq_true rfl) ?_
        refine vx_catch hown (tableOf [(0, 5, 6, 19)]) ⟨0, 5, 10, 22⟩ (tableOf []) (htab.trans rfl) (xPc (Or.inr ⟨by decide, _, hts _ wm643, hE.2.2.1 _ nc0⟩) xP0) (by decide) (by decide) (hts _ wm644) (va_Nw.use rfl (hE.1 _ nw671)) hce hv9 hcl ?_
        refine W.eq (g2 := F0 m 10 ls [.ref q9]) rfl ?_
        refine lv_astore_n (lv' := [(2, .ref q9), (0, .ref (a.1 0)), (1, .int p1)]) hx hb dL_variable_10 rfl hl (by decide) rfl (fun ls hl => ?_)
        refine lv_ldc (v := (-1000000)) hx hb hown (hts _ wm687) dL_variable_11 ?_
        simp only [Option.some.injEq, Prod.mk.injEq] at hm
        obtain ⟨rfl, rfl, rfl⟩ := hm
        subst hAe
        refine W.widen (k := 1) (n := 6) (Nat.le_of_ble_eq_true rfl) (Nat.le_of_ble_eq_true rfl) ?_
        exact vx_ret (W.iret (v := (-1000000)) hx hb hr (fun t ht hW => ⟨⟨(-1000000), (), rfl, rfl, ⟨by rw [ht]; exact hP, hD⟩⟩, hS.F ht⟩) hS.2.2 dL_variable_13 hlocks)
      · rw [if_neg k_4] at hm
        cases hm
  · rw [if_pos hw.1] at hm
    rw [show r = q_1.2.1 from hw.2]
    have hP : va_P (DG G) clP3 (wC G a q_1.2.2.1 F U S D R M q_1.2.2.2 P) H := by rw [← ht]; exact hB.1
    have hD : va_D A (wC G a q_1.2.2.1 F U S D R M q_1.2.2.2 P) := hB.2.weaken (fun _ p _ h => hFc p.1 h)
    refine W.widen (k := 1) (n := 6) (Nat.le_of_ble_eq_true rfl) (Nat.le_of_ble_eq_true rfl) ?_
    simp only [Option.some.injEq, Prod.mk.injEq] at hm
    obtain ⟨rfl, rfl, rfl⟩ := hm
    subst hAe
    refine W.widen (k := 1) (n := 6) (Nat.le_of_ble_eq_true rfl) (Nat.le_of_ble_eq_true rfl) ?_
    exact vx_ret (W.iret (v := q_1.2.1) hx hb hr (fun t ht hW => ⟨⟨q_1.2.1, (), rfl, rfl, ⟨by rw [ht]; exact hP, hD⟩⟩, hS.F ht⟩) hS.2.2 dL_variable_5 hlocks)
def f_L_functions (T : TS) (N : NS) (p1 : Int32) (p2 : Int32) : Option (Int32 × TS × NS) := (Option.bind (f_X11_functions T N p1 p2) (fun q_1 => (if q_1.1 = 0 then some (q_1.2.1, q_1.2.2.1, q_1.2.2.2) else (if q_1.1 = 3 then some ((-2500000), q_1.2.2.1, q_1.2.2.2) else (if q_1.1 = 2 then some ((-1000000), q_1.2.2.1, q_1.2.2.2) else none)))))
set_option maxHeartbeats 2000000 in
set_option maxRecDepth 100000 in
theorem k_L_functions (l : Launch) (hfl : l.stackTraces = false) (G : GC) (a : AS) (T : TS) (F : FS) (U : US) (S : SS) (D : DS) (R : RS) (M : MS) (N : NS) (P : PS) (hlk : lkA a D.1.toNatClampNeg D.2.1.toNatClampNeg) (p1 : Int32) (p2 : Int32) (r9 : Int32) (T9 : TS) (N9 : NS) (hm : f_L_functions T N p1 p2 = some (r9, T9, N9)) (sz : Nat) : vx_Met l yL_functions (Cond.codeWith yL_functions cL_functions 4 (some .int) [(0, 6, 7, 32), (0, 6, 11, 22)] :: W0) ({ frames := 9, cells := 3, slots := 18, locals := 150 }) (va_Pc [.ref (a.1 0), .int p1, .int p2] (WD G (wC G a T F U S D R M N P) sz)) (va_Qi (S := Unit) (fun r _ => r = r9) (fun _ t => PW G (va_A (wC G a T F U S D R M N P) sz) (wC G a T9 F U S D R M N9 P) t) (va_A (wC G a T F U S D R M N P) sz)) (vx_X (fun _ : Unit => False) (fun (_ : String) (_ : Unit) (_ : State) => True) (va_A (wC G a T F U S D R M N P) sz)) 3 18 (va_A (wC G a T F U S D R M N P) sz) := by
  rw [f_L_functions] at hm
  refine vx_ofWH (cc := cL_functions) (maxL := 4) (ret := (some .int)) (hh := [(0, 6, 7, 32), (0, 6, 11, 22)]) (by decide) rfl ?_
  intro p e s m args below meth c s₁ B hml hv
  obtain ⟨rfl, hsz, hP, hK, hD0, hE⟩ := hv
  have hx := B.exec
  have hb := B.bytes
  have hr := B.returns
  have hts := w0_tail B.pre
  have hown : s.vm.findClass RL = some m.cls := findClass_of_methodNamed B.named
  have hlocks := B.notSynchronized
  have htab := vx_table (x := yL_functions) B (hts _ wm698)
  have hD := hD0.self (sz := sz)
  obtain ⟨A, hAe⟩ : ∃ A, (va_A (wC G a T F U S D R M N P) sz) = A := ⟨_, rfl⟩
  rw [hAe] at hD hE
  have hA : ∀ q : Nat, s.heap.size ≤ q → A q := fun q h => by rw [← hAe]; exact Or.inr (by rw [← hsz]; exact h)
  have hS : va_S A s.heap s.heap [] := va_S.rf
  obtain ⟨H, hHe⟩ : ∃ H : Heap, H = s.heap := ⟨_, rfl⟩
  have hP : va_P (DG G) clP3 (wC G a T F U S D R M N P) H := by rw [hHe]; exact hP
  have hS : va_S A s.heap H [] := by rw [hHe]; exact hS
  have hl := lv_entry ([.ref (a.1 0), .int p1, .int p2]) (n := 4) (Nat.le_of_ble_eq_true rfl)
  rw [lg_entry_eq, ← hHe]
  generalize (lg_sl ([.ref (a.1 0), .int p1, .int p2]) ++ List.replicate (4 - (lg_sl ([.ref (a.1 0), .int p1, .int p2])).length) Slot.unset).toArray = ls at hl ⊢
  have hl : lv_has ls 4 [(0, .ref (a.1 0)), (1, .int p1), (2, .int p2)] := hl
  refine lv_aload_n hx hb dL_functions_0 rfl (lv_at hl 0 rfl) ?_
  refine lv_iload_n hx hb dL_functions_1 rfl (lv_at hl 1 rfl) ?_
  refine lv_iload_n hx hb dL_functions_2 rfl (lv_at hl 2 rfl) ?_
  obtain ⟨q_1, hq_1, hm⟩ := bind_some hm
  have hFc := free_all hD hS hA
  refine vx_calli (vx_runV (As := [.int p1, .int p2]) (rest := []) ⟨hx, hb, hml, hown, hts⟩ (k_X11_functions l hfl G a T F U S D R M N P hlk p1 p2  q_1.1 q_1.2.1 q_1.2.2.1 q_1.2.2.2 hq_1 H.size) (cwV 2 hts (gV wm720 wm721 wm722 wm1 wm723) rfl rfl rfl (by decide +kernel) ⟨Nat.le_of_ble_eq_true rfl, Nat.le_of_ble_eq_true rfl⟩) (pre_v (pre_w hK hP hD hS hE hFc) (va_recv hK hP (ci := 10) (q0 := 0) rfl rfl)) rfl rfl hl.1 rfl (lv_room (Nat.le_of_ble_eq_true rfl)) dL_functions_3 ⟨Nat.le_of_ble_eq_true rfl, Nat.le_of_ble_eq_true rfl⟩) hS (fun q _ h => hFc q h) hFc (fun q _ h => hFc q h) (fun E ce q9 u_2 t H locs ht hvm hpx hBX hz1 hk1 hS hce hv9 hcl => ?_) (fun r u_2 t H locs ht hvm hw hB hz1 hk1 hS => ?_)
  · have hne : ¬ q_1.1 = 0 := xnm_ne hBX.1
    rw [if_neg hne] at hm
    have hX9 := hBX.1
    have hB := hBX.2
    have hP : va_P (DG G) clP3 (wC G a q_1.2.2.1 F U S D R M q_1.2.2.2 P) H := by rw [← ht]; exact hB.1
    have hD : va_D A (wC G a q_1.2.2.1 F U S D R M q_1.2.2.2 P) := hB.2.weaken (fun _ p _ h => hFc p.1 h)
    by_cases k_3 : q_1.1 = 3
    · rw [if_pos k_3] at hm
      rw [k_3] at hX9
      obtain rfl : "java/lang/IndexOutOfBoundsException" = E := Option.some.inj (xnm3.symm.trans hX9)
      refine vx_widen (k := 3) (n := 18) (Nat.le_of_ble_eq_true rfl) (Nat.le_of_ble_eq_true rfl) ?_
      refine vx_catch hown (tableOf []) ⟨0, 6, 7, 32⟩ (tableOf [(0, 6, 11, 22)]) (htab.trans rfl) xP0 (by decide) (by decide) (hts _ wm699) (va_Nw.use rfl (hE.1 _ nw325)) hce hv9 hcl ?_
      refine W.eq (g2 := F0 m 7 ls [.ref q9]) rfl ?_
      refine lv_astore_n (lv' := [(3, .ref q9), (0, .ref (a.1 0)), (1, .int p1), (2, .int p2)]) hx hb dL_functions_7 rfl hl (by decide) rfl (fun ls hl => ?_)
      refine lv_ldc (v := (-2500000)) hx hb hown (hts _ wm730) dL_functions_8 ?_
      simp only [Option.some.injEq, Prod.mk.injEq] at hm
      obtain ⟨rfl, rfl, rfl⟩ := hm
      subst hAe
      refine W.widen (k := 3) (n := 18) (Nat.le_of_ble_eq_true rfl) (Nat.le_of_ble_eq_true rfl) ?_
      exact vx_ret (W.iret (v := (-2500000)) hx hb hr (fun t ht hW => ⟨⟨(-2500000), (), rfl, rfl, ⟨by rw [ht]; exact hP, hD⟩⟩, hS.F ht⟩) hS.2.2 dL_functions_10 hlocks)
    · rw [if_neg k_3] at hm
      by_cases k_4 : q_1.1 = 2
      · rw [if_pos k_4] at hm
        rw [k_4] at hX9
        obtain rfl : "java/lang/IllegalStateException" = E := Option.some.inj (xnm2.symm.trans hX9)
        refine vx_widen (k := 3) (n := 18) (Nat.le_of_ble_eq_true rfl) (Nat.le_of_ble_eq_true rfl) ?_
        refine vx_catch hown (tableOf [(0, 6, 7, 32)]) ⟨0, 6, 11, 22⟩ (tableOf []) (htab.trans rfl) (xPc (Or.inr ⟨by decide, _, hts _ wm699, hE.2.2.1 _ nc1⟩) xP0) (by decide) (by decide) (hts _ wm644) (va_Nw.use rfl (hE.1 _ nw671)) hce hv9 hcl ?_
        refine W.eq (g2 := F0 m 11 ls [.ref q9]) rfl ?_
        refine lv_astore_n (lv' := [(3, .ref q9), (0, .ref (a.1 0)), (1, .int p1), (2, .int p2)]) hx hb dL_functions_11 rfl hl (by decide) rfl (fun ls hl => ?_)
        refine lv_ldc (v := (-1000000)) hx hb hown (hts _ wm687) dL_functions_12 ?_
        simp only [Option.some.injEq, Prod.mk.injEq] at hm
        obtain ⟨rfl, rfl, rfl⟩ := hm
        subst hAe
        refine W.widen (k := 3) (n := 18) (Nat.le_of_ble_eq_true rfl) (Nat.le_of_ble_eq_true rfl) ?_
        exact vx_ret (W.iret (v := (-1000000)) hx hb hr (fun t ht hW => ⟨⟨(-1000000), (), rfl, rfl, ⟨by rw [ht]; exact hP, hD⟩⟩, hS.F ht⟩) hS.2.2 dL_functions_14 hlocks)
      · rw [if_neg k_4] at hm
        cases hm
  · rw [if_pos hw.1] at hm
    rw [show r = q_1.2.1 from hw.2]
    have hP : va_P (DG G) clP3 (wC G a q_1.2.2.1 F U S D R M q_1.2.2.2 P) H := by rw [← ht]; exact hB.1
    have hD : va_D A (wC G a q_1.2.2.1 F U S D R M q_1.2.2.2 P) := hB.2.weaken (fun _ p _ h => hFc p.1 h)
    refine W.widen (k := 3) (n := 18) (Nat.le_of_ble_eq_true rfl) (Nat.le_of_ble_eq_true rfl) ?_
    simp only [Option.some.injEq, Prod.mk.injEq] at hm
    obtain ⟨rfl, rfl, rfl⟩ := hm
    subst hAe
    refine W.widen (k := 3) (n := 18) (Nat.le_of_ble_eq_true rfl) (Nat.le_of_ble_eq_true rfl) ?_
    exact vx_ret (W.iret (v := q_1.2.1) hx hb hr (fun t ht hW => ⟨⟨q_1.2.1, (), rfl, rfl, ⟨by rw [ht]; exact hP, hD⟩⟩, hS.F ht⟩) hS.2.2 dL_functions_6 hlocks)
def f_L_lambda (T : TS) (N : NS) (p1 : Int32) (p2 : Int32) : Option (Int32 × TS × NS) := (Option.bind (f_X11_lambda T N p1 p2) (fun q_1 => (if q_1.1 = 0 then some (q_1.2.1, q_1.2.2.1, q_1.2.2.2) else (if q_1.1 = 3 then some ((-2500000), q_1.2.2.1, q_1.2.2.2) else (if q_1.1 = 2 then some ((-1000000), q_1.2.2.1, q_1.2.2.2) else none)))))
set_option maxHeartbeats 2000000 in
set_option maxRecDepth 100000 in
theorem k_L_lambda (l : Launch) (hfl : l.stackTraces = false) (G : GC) (a : AS) (T : TS) (F : FS) (U : US) (S : SS) (D : DS) (R : RS) (M : MS) (N : NS) (P : PS) (hlk : lkA a D.1.toNatClampNeg D.2.1.toNatClampNeg) (p1 : Int32) (p2 : Int32) (r9 : Int32) (T9 : TS) (N9 : NS) (hm : f_L_lambda T N p1 p2 = some (r9, T9, N9)) (sz : Nat) : vx_Met l yL_lambda (Cond.codeWith yL_lambda cL_lambda 4 (some .int) [(0, 6, 7, 32), (0, 6, 11, 22)] :: W0) ({ frames := 9, cells := 3, slots := 18, locals := 150 }) (va_Pc [.ref (a.1 0), .int p1, .int p2] (WD G (wC G a T F U S D R M N P) sz)) (va_Qi (S := Unit) (fun r _ => r = r9) (fun _ t => PW G (va_A (wC G a T F U S D R M N P) sz) (wC G a T9 F U S D R M N9 P) t) (va_A (wC G a T F U S D R M N P) sz)) (vx_X (fun _ : Unit => False) (fun (_ : String) (_ : Unit) (_ : State) => True) (va_A (wC G a T F U S D R M N P) sz)) 3 18 (va_A (wC G a T F U S D R M N P) sz) := by
  rw [f_L_lambda] at hm
  refine vx_ofWH (cc := cL_lambda) (maxL := 4) (ret := (some .int)) (hh := [(0, 6, 7, 32), (0, 6, 11, 22)]) (by decide) rfl ?_
  intro p e s m args below meth c s₁ B hml hv
  obtain ⟨rfl, hsz, hP, hK, hD0, hE⟩ := hv
  have hx := B.exec
  have hb := B.bytes
  have hr := B.returns
  have hts := w0_tail B.pre
  have hown : s.vm.findClass RL = some m.cls := findClass_of_methodNamed B.named
  have hlocks := B.notSynchronized
  have htab := vx_table (x := yL_lambda) B (hts _ wm733)
  have hD := hD0.self (sz := sz)
  obtain ⟨A, hAe⟩ : ∃ A, (va_A (wC G a T F U S D R M N P) sz) = A := ⟨_, rfl⟩
  rw [hAe] at hD hE
  have hA : ∀ q : Nat, s.heap.size ≤ q → A q := fun q h => by rw [← hAe]; exact Or.inr (by rw [← hsz]; exact h)
  have hS : va_S A s.heap s.heap [] := va_S.rf
  obtain ⟨H, hHe⟩ : ∃ H : Heap, H = s.heap := ⟨_, rfl⟩
  have hP : va_P (DG G) clP3 (wC G a T F U S D R M N P) H := by rw [hHe]; exact hP
  have hS : va_S A s.heap H [] := by rw [hHe]; exact hS
  have hl := lv_entry ([.ref (a.1 0), .int p1, .int p2]) (n := 4) (Nat.le_of_ble_eq_true rfl)
  rw [lg_entry_eq, ← hHe]
  generalize (lg_sl ([.ref (a.1 0), .int p1, .int p2]) ++ List.replicate (4 - (lg_sl ([.ref (a.1 0), .int p1, .int p2])).length) Slot.unset).toArray = ls at hl ⊢
  have hl : lv_has ls 4 [(0, .ref (a.1 0)), (1, .int p1), (2, .int p2)] := hl
  refine lv_aload_n hx hb dL_lambda_0 rfl (lv_at hl 0 rfl) ?_
  refine lv_iload_n hx hb dL_lambda_1 rfl (lv_at hl 1 rfl) ?_
  refine lv_iload_n hx hb dL_lambda_2 rfl (lv_at hl 2 rfl) ?_
  obtain ⟨q_1, hq_1, hm⟩ := bind_some hm
  have hFc := free_all hD hS hA
  refine vx_calli (vx_runV (As := [.int p1, .int p2]) (rest := []) ⟨hx, hb, hml, hown, hts⟩ (k_X11_lambda l hfl G a T F U S D R M N P hlk p1 p2  q_1.1 q_1.2.1 q_1.2.2.1 q_1.2.2.2 hq_1 H.size) (cwV 2 hts (gV wm734 wm735 wm736 wm1 wm737) rfl rfl rfl (by decide +kernel) ⟨Nat.le_of_ble_eq_true rfl, Nat.le_of_ble_eq_true rfl⟩) (pre_v (pre_w hK hP hD hS hE hFc) (va_recv hK hP (ci := 10) (q0 := 0) rfl rfl)) rfl rfl hl.1 rfl (lv_room (Nat.le_of_ble_eq_true rfl)) dL_lambda_3 ⟨Nat.le_of_ble_eq_true rfl, Nat.le_of_ble_eq_true rfl⟩) hS (fun q _ h => hFc q h) hFc (fun q _ h => hFc q h) (fun E ce q9 u_2 t H locs ht hvm hpx hBX hz1 hk1 hS hce hv9 hcl => ?_) (fun r u_2 t H locs ht hvm hw hB hz1 hk1 hS => ?_)
  · have hne : ¬ q_1.1 = 0 := xnm_ne hBX.1
    rw [if_neg hne] at hm
    have hX9 := hBX.1
    have hB := hBX.2
    have hP : va_P (DG G) clP3 (wC G a q_1.2.2.1 F U S D R M q_1.2.2.2 P) H := by rw [← ht]; exact hB.1
    have hD : va_D A (wC G a q_1.2.2.1 F U S D R M q_1.2.2.2 P) := hB.2.weaken (fun _ p _ h => hFc p.1 h)
    by_cases k_3 : q_1.1 = 3
    · rw [if_pos k_3] at hm
      rw [k_3] at hX9
      obtain rfl : "java/lang/IndexOutOfBoundsException" = E := Option.some.inj (xnm3.symm.trans hX9)
      refine vx_widen (k := 3) (n := 18) (Nat.le_of_ble_eq_true rfl) (Nat.le_of_ble_eq_true rfl) ?_
      refine vx_catch hown (tableOf []) ⟨0, 6, 7, 32⟩ (tableOf [(0, 6, 11, 22)]) (htab.trans rfl) xP0 (by decide) (by decide) (hts _ wm699) (va_Nw.use rfl (hE.1 _ nw325)) hce hv9 hcl ?_
      refine W.eq (g2 := F0 m 7 ls [.ref q9]) rfl ?_
      refine lv_astore_n (lv' := [(3, .ref q9), (0, .ref (a.1 0)), (1, .int p1), (2, .int p2)]) hx hb dL_lambda_7 rfl hl (by decide) rfl (fun ls hl => ?_)
      refine lv_ldc (v := (-2500000)) hx hb hown (hts _ wm730) dL_lambda_8 ?_
      simp only [Option.some.injEq, Prod.mk.injEq] at hm
      obtain ⟨rfl, rfl, rfl⟩ := hm
      subst hAe
      refine W.widen (k := 3) (n := 18) (Nat.le_of_ble_eq_true rfl) (Nat.le_of_ble_eq_true rfl) ?_
      exact vx_ret (W.iret (v := (-2500000)) hx hb hr (fun t ht hW => ⟨⟨(-2500000), (), rfl, rfl, ⟨by rw [ht]; exact hP, hD⟩⟩, hS.F ht⟩) hS.2.2 dL_lambda_10 hlocks)
    · rw [if_neg k_3] at hm
      by_cases k_4 : q_1.1 = 2
      · rw [if_pos k_4] at hm
        rw [k_4] at hX9
        obtain rfl : "java/lang/IllegalStateException" = E := Option.some.inj (xnm2.symm.trans hX9)
        refine vx_widen (k := 3) (n := 18) (Nat.le_of_ble_eq_true rfl) (Nat.le_of_ble_eq_true rfl) ?_
        refine vx_catch hown (tableOf [(0, 6, 7, 32)]) ⟨0, 6, 11, 22⟩ (tableOf []) (htab.trans rfl) (xPc (Or.inr ⟨by decide, _, hts _ wm699, hE.2.2.1 _ nc1⟩) xP0) (by decide) (by decide) (hts _ wm644) (va_Nw.use rfl (hE.1 _ nw671)) hce hv9 hcl ?_
        refine W.eq (g2 := F0 m 11 ls [.ref q9]) rfl ?_
        refine lv_astore_n (lv' := [(3, .ref q9), (0, .ref (a.1 0)), (1, .int p1), (2, .int p2)]) hx hb dL_lambda_11 rfl hl (by decide) rfl (fun ls hl => ?_)
        refine lv_ldc (v := (-1000000)) hx hb hown (hts _ wm687) dL_lambda_12 ?_
        simp only [Option.some.injEq, Prod.mk.injEq] at hm
        obtain ⟨rfl, rfl, rfl⟩ := hm
        subst hAe
        refine W.widen (k := 3) (n := 18) (Nat.le_of_ble_eq_true rfl) (Nat.le_of_ble_eq_true rfl) ?_
        exact vx_ret (W.iret (v := (-1000000)) hx hb hr (fun t ht hW => ⟨⟨(-1000000), (), rfl, rfl, ⟨by rw [ht]; exact hP, hD⟩⟩, hS.F ht⟩) hS.2.2 dL_lambda_14 hlocks)
      · rw [if_neg k_4] at hm
        cases hm
  · rw [if_pos hw.1] at hm
    rw [show r = q_1.2.1 from hw.2]
    have hP : va_P (DG G) clP3 (wC G a q_1.2.2.1 F U S D R M q_1.2.2.2 P) H := by rw [← ht]; exact hB.1
    have hD : va_D A (wC G a q_1.2.2.1 F U S D R M q_1.2.2.2 P) := hB.2.weaken (fun _ p _ h => hFc p.1 h)
    refine W.widen (k := 3) (n := 18) (Nat.le_of_ble_eq_true rfl) (Nat.le_of_ble_eq_true rfl) ?_
    simp only [Option.some.injEq, Prod.mk.injEq] at hm
    obtain ⟨rfl, rfl, rfl⟩ := hm
    subst hAe
    refine W.widen (k := 3) (n := 18) (Nat.le_of_ble_eq_true rfl) (Nat.le_of_ble_eq_true rfl) ?_
    exact vx_ret (W.iret (v := q_1.2.1) hx hb hr (fun t ht hW => ⟨⟨q_1.2.1, (), rfl, rfl, ⟨by rw [ht]; exact hP, hD⟩⟩, hS.F ht⟩) hS.2.2 dL_lambda_6 hlocks)
def f_L_apply (T : TS) (N : NS) (p1 : Int32) (p2 : Int32) : Option (Int32 × TS × NS) := (Option.bind (f_X11_apply T N p1 p2) (fun q_1 => (if q_1.1 = 0 then some (q_1.2.1, q_1.2.2.1, q_1.2.2.2) else (if q_1.1 = 3 then some ((-2500000), q_1.2.2.1, q_1.2.2.2) else (if q_1.1 = 2 then some ((-1000000), q_1.2.2.1, q_1.2.2.2) else none)))))
set_option maxHeartbeats 2000000 in
set_option maxRecDepth 100000 in
theorem k_L_apply (l : Launch) (hfl : l.stackTraces = false) (G : GC) (a : AS) (T : TS) (F : FS) (U : US) (S : SS) (D : DS) (R : RS) (M : MS) (N : NS) (P : PS) (hlk : lkA a D.1.toNatClampNeg D.2.1.toNatClampNeg) (p1 : Int32) (p2 : Int32) (r9 : Int32) (T9 : TS) (N9 : NS) (hm : f_L_apply T N p1 p2 = some (r9, T9, N9)) (sz : Nat) : vx_Met l yL_apply (Cond.codeWith yL_apply cL_apply 4 (some .int) [(0, 6, 7, 32), (0, 6, 11, 22)] :: W0) ({ frames := 9, cells := 3, slots := 18, locals := 150 }) (va_Pc [.ref (a.1 0), .int p1, .int p2] (WD G (wC G a T F U S D R M N P) sz)) (va_Qi (S := Unit) (fun r _ => r = r9) (fun _ t => PW G (va_A (wC G a T F U S D R M N P) sz) (wC G a T9 F U S D R M N9 P) t) (va_A (wC G a T F U S D R M N P) sz)) (vx_X (fun _ : Unit => False) (fun (_ : String) (_ : Unit) (_ : State) => True) (va_A (wC G a T F U S D R M N P) sz)) 3 18 (va_A (wC G a T F U S D R M N P) sz) := by
  rw [f_L_apply] at hm
  refine vx_ofWH (cc := cL_apply) (maxL := 4) (ret := (some .int)) (hh := [(0, 6, 7, 32), (0, 6, 11, 22)]) (by decide) rfl ?_
  intro p e s m args below meth c s₁ B hml hv
  obtain ⟨rfl, hsz, hP, hK, hD0, hE⟩ := hv
  have hx := B.exec
  have hb := B.bytes
  have hr := B.returns
  have hts := w0_tail B.pre
  have hown : s.vm.findClass RL = some m.cls := findClass_of_methodNamed B.named
  have hlocks := B.notSynchronized
  have htab := vx_table (x := yL_apply) B (hts _ wm740)
  have hD := hD0.self (sz := sz)
  obtain ⟨A, hAe⟩ : ∃ A, (va_A (wC G a T F U S D R M N P) sz) = A := ⟨_, rfl⟩
  rw [hAe] at hD hE
  have hA : ∀ q : Nat, s.heap.size ≤ q → A q := fun q h => by rw [← hAe]; exact Or.inr (by rw [← hsz]; exact h)
  have hS : va_S A s.heap s.heap [] := va_S.rf
  obtain ⟨H, hHe⟩ : ∃ H : Heap, H = s.heap := ⟨_, rfl⟩
  have hP : va_P (DG G) clP3 (wC G a T F U S D R M N P) H := by rw [hHe]; exact hP
  have hS : va_S A s.heap H [] := by rw [hHe]; exact hS
  have hl := lv_entry ([.ref (a.1 0), .int p1, .int p2]) (n := 4) (Nat.le_of_ble_eq_true rfl)
  rw [lg_entry_eq, ← hHe]
  generalize (lg_sl ([.ref (a.1 0), .int p1, .int p2]) ++ List.replicate (4 - (lg_sl ([.ref (a.1 0), .int p1, .int p2])).length) Slot.unset).toArray = ls at hl ⊢
  have hl : lv_has ls 4 [(0, .ref (a.1 0)), (1, .int p1), (2, .int p2)] := hl
  refine lv_aload_n hx hb dL_apply_0 rfl (lv_at hl 0 rfl) ?_
  refine lv_iload_n hx hb dL_apply_1 rfl (lv_at hl 1 rfl) ?_
  refine lv_iload_n hx hb dL_apply_2 rfl (lv_at hl 2 rfl) ?_
  obtain ⟨q_1, hq_1, hm⟩ := bind_some hm
  have hFc := free_all hD hS hA
  refine vx_calli (vx_runV (As := [.int p1, .int p2]) (rest := []) ⟨hx, hb, hml, hown, hts⟩ (k_X11_apply l hfl G a T F U S D R M N P hlk p1 p2  q_1.1 q_1.2.1 q_1.2.2.1 q_1.2.2.2 hq_1 H.size) (cwV 2 hts (gV wm741 wm742 wm743 wm1 wm744) rfl rfl rfl (by decide +kernel) ⟨Nat.le_of_ble_eq_true rfl, Nat.le_of_ble_eq_true rfl⟩) (pre_v (pre_w hK hP hD hS hE hFc) (va_recv hK hP (ci := 10) (q0 := 0) rfl rfl)) rfl rfl hl.1 rfl (lv_room (Nat.le_of_ble_eq_true rfl)) dL_apply_3 ⟨Nat.le_of_ble_eq_true rfl, Nat.le_of_ble_eq_true rfl⟩) hS (fun q _ h => hFc q h) hFc (fun q _ h => hFc q h) (fun E ce q9 u_2 t H locs ht hvm hpx hBX hz1 hk1 hS hce hv9 hcl => ?_) (fun r u_2 t H locs ht hvm hw hB hz1 hk1 hS => ?_)
  · have hne : ¬ q_1.1 = 0 := xnm_ne hBX.1
    rw [if_neg hne] at hm
    have hX9 := hBX.1
    have hB := hBX.2
    have hP : va_P (DG G) clP3 (wC G a q_1.2.2.1 F U S D R M q_1.2.2.2 P) H := by rw [← ht]; exact hB.1
    have hD : va_D A (wC G a q_1.2.2.1 F U S D R M q_1.2.2.2 P) := hB.2.weaken (fun _ p _ h => hFc p.1 h)
    by_cases k_3 : q_1.1 = 3
    · rw [if_pos k_3] at hm
      rw [k_3] at hX9
      obtain rfl : "java/lang/IndexOutOfBoundsException" = E := Option.some.inj (xnm3.symm.trans hX9)
      refine vx_widen (k := 3) (n := 18) (Nat.le_of_ble_eq_true rfl) (Nat.le_of_ble_eq_true rfl) ?_
      refine vx_catch hown (tableOf []) ⟨0, 6, 7, 32⟩ (tableOf [(0, 6, 11, 22)]) (htab.trans rfl) xP0 (by decide) (by decide) (hts _ wm699) (va_Nw.use rfl (hE.1 _ nw325)) hce hv9 hcl ?_
      refine W.eq (g2 := F0 m 7 ls [.ref q9]) rfl ?_
      refine lv_astore_n (lv' := [(3, .ref q9), (0, .ref (a.1 0)), (1, .int p1), (2, .int p2)]) hx hb dL_apply_7 rfl hl (by decide) rfl (fun ls hl => ?_)
      refine lv_ldc (v := (-2500000)) hx hb hown (hts _ wm730) dL_apply_8 ?_
      simp only [Option.some.injEq, Prod.mk.injEq] at hm
      obtain ⟨rfl, rfl, rfl⟩ := hm
      subst hAe
      refine W.widen (k := 3) (n := 18) (Nat.le_of_ble_eq_true rfl) (Nat.le_of_ble_eq_true rfl) ?_
      exact vx_ret (W.iret (v := (-2500000)) hx hb hr (fun t ht hW => ⟨⟨(-2500000), (), rfl, rfl, ⟨by rw [ht]; exact hP, hD⟩⟩, hS.F ht⟩) hS.2.2 dL_apply_10 hlocks)
    · rw [if_neg k_3] at hm
      by_cases k_4 : q_1.1 = 2
      · rw [if_pos k_4] at hm
        rw [k_4] at hX9
        obtain rfl : "java/lang/IllegalStateException" = E := Option.some.inj (xnm2.symm.trans hX9)
        refine vx_widen (k := 3) (n := 18) (Nat.le_of_ble_eq_true rfl) (Nat.le_of_ble_eq_true rfl) ?_
        refine vx_catch hown (tableOf [(0, 6, 7, 32)]) ⟨0, 6, 11, 22⟩ (tableOf []) (htab.trans rfl) (xPc (Or.inr ⟨by decide, _, hts _ wm699, hE.2.2.1 _ nc1⟩) xP0) (by decide) (by decide) (hts _ wm644) (va_Nw.use rfl (hE.1 _ nw671)) hce hv9 hcl ?_
        refine W.eq (g2 := F0 m 11 ls [.ref q9]) rfl ?_
        refine lv_astore_n (lv' := [(3, .ref q9), (0, .ref (a.1 0)), (1, .int p1), (2, .int p2)]) hx hb dL_apply_11 rfl hl (by decide) rfl (fun ls hl => ?_)
        refine lv_ldc (v := (-1000000)) hx hb hown (hts _ wm687) dL_apply_12 ?_
        simp only [Option.some.injEq, Prod.mk.injEq] at hm
        obtain ⟨rfl, rfl, rfl⟩ := hm
        subst hAe
        refine W.widen (k := 3) (n := 18) (Nat.le_of_ble_eq_true rfl) (Nat.le_of_ble_eq_true rfl) ?_
        exact vx_ret (W.iret (v := (-1000000)) hx hb hr (fun t ht hW => ⟨⟨(-1000000), (), rfl, rfl, ⟨by rw [ht]; exact hP, hD⟩⟩, hS.F ht⟩) hS.2.2 dL_apply_14 hlocks)
      · rw [if_neg k_4] at hm
        cases hm
  · rw [if_pos hw.1] at hm
    rw [show r = q_1.2.1 from hw.2]
    have hP : va_P (DG G) clP3 (wC G a q_1.2.2.1 F U S D R M q_1.2.2.2 P) H := by rw [← ht]; exact hB.1
    have hD : va_D A (wC G a q_1.2.2.1 F U S D R M q_1.2.2.2 P) := hB.2.weaken (fun _ p _ h => hFc p.1 h)
    refine W.widen (k := 3) (n := 18) (Nat.le_of_ble_eq_true rfl) (Nat.le_of_ble_eq_true rfl) ?_
    simp only [Option.some.injEq, Prod.mk.injEq] at hm
    obtain ⟨rfl, rfl, rfl⟩ := hm
    subst hAe
    refine W.widen (k := 3) (n := 18) (Nat.le_of_ble_eq_true rfl) (Nat.le_of_ble_eq_true rfl) ?_
    exact vx_ret (W.iret (v := q_1.2.1) hx hb hr (fun t ht hW => ⟨⟨q_1.2.1, (), rfl, rfl, ⟨by rw [ht]; exact hP, hD⟩⟩, hS.F ht⟩) hS.2.2 dL_apply_6 hlocks)
def f_L_dataNode (T : TS) (S : SS) (N : NS) (p1 : Int32) : Option (Int32 × TS × NS) := (Option.bind (f_X11_dataNode T S N p1) (fun q_1 => (if q_1.1 = 0 then some (q_1.2.1, q_1.2.2.1, q_1.2.2.2) else (if q_1.1 = 4 then some ((-3000000), q_1.2.2.1, q_1.2.2.2) else (if q_1.1 = 2 then some ((-1000000), q_1.2.2.1, q_1.2.2.2) else none)))))
set_option maxHeartbeats 2000000 in
set_option maxRecDepth 100000 in
theorem k_L_dataNode (l : Launch) (hfl : l.stackTraces = false) (G : GC) (a : AS) (T : TS) (F : FS) (U : US) (S : SS) (D : DS) (R : RS) (M : MS) (N : NS) (P : PS) (hlk : lkA a D.1.toNatClampNeg D.2.1.toNatClampNeg) (p1 : Int32) (r9 : Int32) (T9 : TS) (N9 : NS) (hm : f_L_dataNode T S N p1 = some (r9, T9, N9)) (sz : Nat) : vx_Met l yL_dataNode (Cond.codeWith yL_dataNode cL_dataNode 3 (some .int) [(0, 5, 6, 44), (0, 5, 10, 22)] :: W0) ({ frames := 8, cells := 1, slots := 6, locals := 125 }) (va_Pc [.ref (a.1 0), .int p1] (WD G (wC G a T F U S D R M N P) sz)) (va_Qi (S := Unit) (fun r _ => r = r9) (fun _ t => PW G (va_A (wC G a T F U S D R M N P) sz) (wC G a T9 F U S D R M N9 P) t) (va_A (wC G a T F U S D R M N P) sz)) (vx_X (fun _ : Unit => False) (fun (_ : String) (_ : Unit) (_ : State) => True) (va_A (wC G a T F U S D R M N P) sz)) 1 6 (va_A (wC G a T F U S D R M N P) sz) := by
  rw [f_L_dataNode] at hm
  refine vx_ofWH (cc := cL_dataNode) (maxL := 3) (ret := (some .int)) (hh := [(0, 5, 6, 44), (0, 5, 10, 22)]) (by decide) rfl ?_
  intro p e s m args below meth c s₁ B hml hv
  obtain ⟨rfl, hsz, hP, hK, hD0, hE⟩ := hv
  have hx := B.exec
  have hb := B.bytes
  have hr := B.returns
  have hts := w0_tail B.pre
  have hown : s.vm.findClass RL = some m.cls := findClass_of_methodNamed B.named
  have hlocks := B.notSynchronized
  have htab := vx_table (x := yL_dataNode) B (hts _ wm747)
  have hD := hD0.self (sz := sz)
  obtain ⟨A, hAe⟩ : ∃ A, (va_A (wC G a T F U S D R M N P) sz) = A := ⟨_, rfl⟩
  rw [hAe] at hD hE
  have hA : ∀ q : Nat, s.heap.size ≤ q → A q := fun q h => by rw [← hAe]; exact Or.inr (by rw [← hsz]; exact h)
  have hS : va_S A s.heap s.heap [] := va_S.rf
  obtain ⟨H, hHe⟩ : ∃ H : Heap, H = s.heap := ⟨_, rfl⟩
  have hP : va_P (DG G) clP3 (wC G a T F U S D R M N P) H := by rw [hHe]; exact hP
  have hS : va_S A s.heap H [] := by rw [hHe]; exact hS
  have hl := lv_entry ([.ref (a.1 0), .int p1]) (n := 3) (Nat.le_of_ble_eq_true rfl)
  rw [lg_entry_eq, ← hHe]
  generalize (lg_sl ([.ref (a.1 0), .int p1]) ++ List.replicate (3 - (lg_sl ([.ref (a.1 0), .int p1])).length) Slot.unset).toArray = ls at hl ⊢
  have hl : lv_has ls 3 [(0, .ref (a.1 0)), (1, .int p1)] := hl
  refine lv_aload_n hx hb dL_dataNode_0 rfl (lv_at hl 0 rfl) ?_
  refine lv_iload_n hx hb dL_dataNode_1 rfl (lv_at hl 1 rfl) ?_
  obtain ⟨q_1, hq_1, hm⟩ := bind_some hm
  have hFc := free_all hD hS hA
  refine vx_calli (vx_runV (As := [.int p1]) (rest := []) ⟨hx, hb, hml, hown, hts⟩ (k_X11_dataNode l hfl G a T F U S D R M N P hlk p1  q_1.1 q_1.2.1 q_1.2.2.1 q_1.2.2.2 hq_1 H.size) (cwV 1 hts (gV wm749 wm750 wm751 wm1 wm752) rfl rfl rfl (by decide +kernel) ⟨Nat.le_of_ble_eq_true rfl, Nat.le_of_ble_eq_true rfl⟩) (pre_v (pre_w hK hP hD hS hE hFc) (va_recv hK hP (ci := 10) (q0 := 0) rfl rfl)) rfl rfl hl.1 rfl (lv_room (Nat.le_of_ble_eq_true rfl)) dL_dataNode_2 ⟨Nat.le_of_ble_eq_true rfl, Nat.le_of_ble_eq_true rfl⟩) hS (fun q _ h => hFc q h) hFc (fun q _ h => hFc q h) (fun E ce q9 u_2 t H locs ht hvm hpx hBX hz1 hk1 hS hce hv9 hcl => ?_) (fun r u_2 t H locs ht hvm hw hB hz1 hk1 hS => ?_)
  · have hne : ¬ q_1.1 = 0 := xnm_ne hBX.1
    rw [if_neg hne] at hm
    have hX9 := hBX.1
    have hB := hBX.2
    have hP : va_P (DG G) clP3 (wC G a q_1.2.2.1 F U S D R M q_1.2.2.2 P) H := by rw [← ht]; exact hB.1
    have hD : va_D A (wC G a q_1.2.2.1 F U S D R M q_1.2.2.2 P) := hB.2.weaken (fun _ p _ h => hFc p.1 h)
    by_cases k_3 : q_1.1 = 4
    · rw [if_pos k_3] at hm
      rw [k_3] at hX9
      obtain rfl : "java/util/NoSuchElementException" = E := Option.some.inj (xnm4.symm.trans hX9)
      refine vx_widen (k := 1) (n := 6) (Nat.le_of_ble_eq_true rfl) (Nat.le_of_ble_eq_true rfl) ?_
      refine vx_catch hown (tableOf []) ⟨0, 5, 6, 44⟩ (tableOf [(0, 5, 10, 22)]) (htab.trans rfl) xP0 (by decide) (by decide) (hts _ wm748) (va_Nw.use rfl (hE.1 _ nw578)) hce hv9 hcl ?_
      refine W.eq (g2 := F0 m 6 ls [.ref q9]) rfl ?_
      refine lv_astore_n (lv' := [(2, .ref q9), (0, .ref (a.1 0)), (1, .int p1)]) hx hb dL_dataNode_6 rfl hl (by decide) rfl (fun ls hl => ?_)
      refine lv_ldc (v := (-3000000)) hx hb hown (hts _ wm758) dL_dataNode_7 ?_
      simp only [Option.some.injEq, Prod.mk.injEq] at hm
      obtain ⟨rfl, rfl, rfl⟩ := hm
      subst hAe
      refine W.widen (k := 1) (n := 6) (Nat.le_of_ble_eq_true rfl) (Nat.le_of_ble_eq_true rfl) ?_
      exact vx_ret (W.iret (v := (-3000000)) hx hb hr (fun t ht hW => ⟨⟨(-3000000), (), rfl, rfl, ⟨by rw [ht]; exact hP, hD⟩⟩, hS.F ht⟩) hS.2.2 dL_dataNode_9 hlocks)
    · rw [if_neg k_3] at hm
      by_cases k_4 : q_1.1 = 2
      · rw [if_pos k_4] at hm
        rw [k_4] at hX9
        obtain rfl : "java/lang/IllegalStateException" = E := Option.some.inj (xnm2.symm.trans hX9)
        refine vx_widen (k := 1) (n := 6) (Nat.le_of_ble_eq_true rfl) (Nat.le_of_ble_eq_true rfl) ?_
        refine vx_catch hown (tableOf [(0, 5, 6, 44)]) ⟨0, 5, 10, 22⟩ (tableOf []) (htab.trans rfl) (xPc (Or.inr ⟨by decide, _, hts _ wm748, hE.2.2.1 _ nc2⟩) xP0) (by decide) (by decide) (hts _ wm644) (va_Nw.use rfl (hE.1 _ nw671)) hce hv9 hcl ?_
        refine W.eq (g2 := F0 m 10 ls [.ref q9]) rfl ?_
        refine lv_astore_n (lv' := [(2, .ref q9), (0, .ref (a.1 0)), (1, .int p1)]) hx hb dL_dataNode_10 rfl hl (by decide) rfl (fun ls hl => ?_)
        refine lv_ldc (v := (-1000000)) hx hb hown (hts _ wm687) dL_dataNode_11 ?_
        simp only [Option.some.injEq, Prod.mk.injEq] at hm
        obtain ⟨rfl, rfl, rfl⟩ := hm
        subst hAe
        refine W.widen (k := 1) (n := 6) (Nat.le_of_ble_eq_true rfl) (Nat.le_of_ble_eq_true rfl) ?_
        exact vx_ret (W.iret (v := (-1000000)) hx hb hr (fun t ht hW => ⟨⟨(-1000000), (), rfl, rfl, ⟨by rw [ht]; exact hP, hD⟩⟩, hS.F ht⟩) hS.2.2 dL_dataNode_13 hlocks)
      · rw [if_neg k_4] at hm
        cases hm
  · rw [if_pos hw.1] at hm
    rw [show r = q_1.2.1 from hw.2]
    have hP : va_P (DG G) clP3 (wC G a q_1.2.2.1 F U S D R M q_1.2.2.2 P) H := by rw [← ht]; exact hB.1
    have hD : va_D A (wC G a q_1.2.2.1 F U S D R M q_1.2.2.2 P) := hB.2.weaken (fun _ p _ h => hFc p.1 h)
    refine W.widen (k := 1) (n := 6) (Nat.le_of_ble_eq_true rfl) (Nat.le_of_ble_eq_true rfl) ?_
    simp only [Option.some.injEq, Prod.mk.injEq] at hm
    obtain ⟨rfl, rfl, rfl⟩ := hm
    subst hAe
    refine W.widen (k := 1) (n := 6) (Nat.le_of_ble_eq_true rfl) (Nat.le_of_ble_eq_true rfl) ?_
    exact vx_ret (W.iret (v := q_1.2.1) hx hb hr (fun t ht hW => ⟨⟨q_1.2.1, (), rfl, rfl, ⟨by rw [ht]; exact hP, hD⟩⟩, hS.F ht⟩) hS.2.2 dL_dataNode_5 hlocks)
def f_L_constructorNode (T : TS) (S : SS) (N : NS) (p1 : Int32) : Option (Int32 × TS × NS) := (Option.bind (f_X11_constructorNode T S N p1) (fun q_1 => (if q_1.1 = 0 then some (q_1.2.1, q_1.2.2.1, q_1.2.2.2) else (if q_1.1 = 4 then some ((-3000000), q_1.2.2.1, q_1.2.2.2) else (if q_1.1 = 2 then some ((-1000000), q_1.2.2.1, q_1.2.2.2) else none)))))
set_option maxHeartbeats 2000000 in
set_option maxRecDepth 100000 in
theorem k_L_constructorNode (l : Launch) (hfl : l.stackTraces = false) (G : GC) (a : AS) (T : TS) (F : FS) (U : US) (S : SS) (D : DS) (R : RS) (M : MS) (N : NS) (P : PS) (hlk : lkA a D.1.toNatClampNeg D.2.1.toNatClampNeg) (p1 : Int32) (r9 : Int32) (T9 : TS) (N9 : NS) (hm : f_L_constructorNode T S N p1 = some (r9, T9, N9)) (sz : Nat) : vx_Met l yL_constructorNode (Cond.codeWith yL_constructorNode cL_constructorNode 3 (some .int) [(0, 5, 6, 44), (0, 5, 10, 22)] :: W0) ({ frames := 8, cells := 1, slots := 6, locals := 125 }) (va_Pc [.ref (a.1 0), .int p1] (WD G (wC G a T F U S D R M N P) sz)) (va_Qi (S := Unit) (fun r _ => r = r9) (fun _ t => PW G (va_A (wC G a T F U S D R M N P) sz) (wC G a T9 F U S D R M N9 P) t) (va_A (wC G a T F U S D R M N P) sz)) (vx_X (fun _ : Unit => False) (fun (_ : String) (_ : Unit) (_ : State) => True) (va_A (wC G a T F U S D R M N P) sz)) 1 6 (va_A (wC G a T F U S D R M N P) sz) := by
  rw [f_L_constructorNode] at hm
  refine vx_ofWH (cc := cL_constructorNode) (maxL := 3) (ret := (some .int)) (hh := [(0, 5, 6, 44), (0, 5, 10, 22)]) (by decide) rfl ?_
  intro p e s m args below meth c s₁ B hml hv
  obtain ⟨rfl, hsz, hP, hK, hD0, hE⟩ := hv
  have hx := B.exec
  have hb := B.bytes
  have hr := B.returns
  have hts := w0_tail B.pre
  have hown : s.vm.findClass RL = some m.cls := findClass_of_methodNamed B.named
  have hlocks := B.notSynchronized
  have htab := vx_table (x := yL_constructorNode) B (hts _ wm761)
  have hD := hD0.self (sz := sz)
  obtain ⟨A, hAe⟩ : ∃ A, (va_A (wC G a T F U S D R M N P) sz) = A := ⟨_, rfl⟩
  rw [hAe] at hD hE
  have hA : ∀ q : Nat, s.heap.size ≤ q → A q := fun q h => by rw [← hAe]; exact Or.inr (by rw [← hsz]; exact h)
  have hS : va_S A s.heap s.heap [] := va_S.rf
  obtain ⟨H, hHe⟩ : ∃ H : Heap, H = s.heap := ⟨_, rfl⟩
  have hP : va_P (DG G) clP3 (wC G a T F U S D R M N P) H := by rw [hHe]; exact hP
  have hS : va_S A s.heap H [] := by rw [hHe]; exact hS
  have hl := lv_entry ([.ref (a.1 0), .int p1]) (n := 3) (Nat.le_of_ble_eq_true rfl)
  rw [lg_entry_eq, ← hHe]
  generalize (lg_sl ([.ref (a.1 0), .int p1]) ++ List.replicate (3 - (lg_sl ([.ref (a.1 0), .int p1])).length) Slot.unset).toArray = ls at hl ⊢
  have hl : lv_has ls 3 [(0, .ref (a.1 0)), (1, .int p1)] := hl
  refine lv_aload_n hx hb dL_constructorNode_0 rfl (lv_at hl 0 rfl) ?_
  refine lv_iload_n hx hb dL_constructorNode_1 rfl (lv_at hl 1 rfl) ?_
  obtain ⟨q_1, hq_1, hm⟩ := bind_some hm
  have hFc := free_all hD hS hA
  refine vx_calli (vx_runV (As := [.int p1]) (rest := []) ⟨hx, hb, hml, hown, hts⟩ (k_X11_constructorNode l hfl G a T F U S D R M N P hlk p1  q_1.1 q_1.2.1 q_1.2.2.1 q_1.2.2.2 hq_1 H.size) (cwV 1 hts (gV wm762 wm763 wm764 wm1 wm765) rfl rfl rfl (by decide +kernel) ⟨Nat.le_of_ble_eq_true rfl, Nat.le_of_ble_eq_true rfl⟩) (pre_v (pre_w hK hP hD hS hE hFc) (va_recv hK hP (ci := 10) (q0 := 0) rfl rfl)) rfl rfl hl.1 rfl (lv_room (Nat.le_of_ble_eq_true rfl)) dL_constructorNode_2 ⟨Nat.le_of_ble_eq_true rfl, Nat.le_of_ble_eq_true rfl⟩) hS (fun q _ h => hFc q h) hFc (fun q _ h => hFc q h) (fun E ce q9 u_2 t H locs ht hvm hpx hBX hz1 hk1 hS hce hv9 hcl => ?_) (fun r u_2 t H locs ht hvm hw hB hz1 hk1 hS => ?_)
  · have hne : ¬ q_1.1 = 0 := xnm_ne hBX.1
    rw [if_neg hne] at hm
    have hX9 := hBX.1
    have hB := hBX.2
    have hP : va_P (DG G) clP3 (wC G a q_1.2.2.1 F U S D R M q_1.2.2.2 P) H := by rw [← ht]; exact hB.1
    have hD : va_D A (wC G a q_1.2.2.1 F U S D R M q_1.2.2.2 P) := hB.2.weaken (fun _ p _ h => hFc p.1 h)
    by_cases k_3 : q_1.1 = 4
    · rw [if_pos k_3] at hm
      rw [k_3] at hX9
      obtain rfl : "java/util/NoSuchElementException" = E := Option.some.inj (xnm4.symm.trans hX9)
      refine vx_widen (k := 1) (n := 6) (Nat.le_of_ble_eq_true rfl) (Nat.le_of_ble_eq_true rfl) ?_
      refine vx_catch hown (tableOf []) ⟨0, 5, 6, 44⟩ (tableOf [(0, 5, 10, 22)]) (htab.trans rfl) xP0 (by decide) (by decide) (hts _ wm748) (va_Nw.use rfl (hE.1 _ nw578)) hce hv9 hcl ?_
      refine W.eq (g2 := F0 m 6 ls [.ref q9]) rfl ?_
      refine lv_astore_n (lv' := [(2, .ref q9), (0, .ref (a.1 0)), (1, .int p1)]) hx hb dL_constructorNode_6 rfl hl (by decide) rfl (fun ls hl => ?_)
      refine lv_ldc (v := (-3000000)) hx hb hown (hts _ wm758) dL_constructorNode_7 ?_
      simp only [Option.some.injEq, Prod.mk.injEq] at hm
      obtain ⟨rfl, rfl, rfl⟩ := hm
      subst hAe
      refine W.widen (k := 1) (n := 6) (Nat.le_of_ble_eq_true rfl) (Nat.le_of_ble_eq_true rfl) ?_
      exact vx_ret (W.iret (v := (-3000000)) hx hb hr (fun t ht hW => ⟨⟨(-3000000), (), rfl, rfl, ⟨by rw [ht]; exact hP, hD⟩⟩, hS.F ht⟩) hS.2.2 dL_constructorNode_9 hlocks)
    · rw [if_neg k_3] at hm
      by_cases k_4 : q_1.1 = 2
      · rw [if_pos k_4] at hm
        rw [k_4] at hX9
        obtain rfl : "java/lang/IllegalStateException" = E := Option.some.inj (xnm2.symm.trans hX9)
        refine vx_widen (k := 1) (n := 6) (Nat.le_of_ble_eq_true rfl) (Nat.le_of_ble_eq_true rfl) ?_
        refine vx_catch hown (tableOf [(0, 5, 6, 44)]) ⟨0, 5, 10, 22⟩ (tableOf []) (htab.trans rfl) (xPc (Or.inr ⟨by decide, _, hts _ wm748, hE.2.2.1 _ nc2⟩) xP0) (by decide) (by decide) (hts _ wm644) (va_Nw.use rfl (hE.1 _ nw671)) hce hv9 hcl ?_
        refine W.eq (g2 := F0 m 10 ls [.ref q9]) rfl ?_
        refine lv_astore_n (lv' := [(2, .ref q9), (0, .ref (a.1 0)), (1, .int p1)]) hx hb dL_constructorNode_10 rfl hl (by decide) rfl (fun ls hl => ?_)
        refine lv_ldc (v := (-1000000)) hx hb hown (hts _ wm687) dL_constructorNode_11 ?_
        simp only [Option.some.injEq, Prod.mk.injEq] at hm
        obtain ⟨rfl, rfl, rfl⟩ := hm
        subst hAe
        refine W.widen (k := 1) (n := 6) (Nat.le_of_ble_eq_true rfl) (Nat.le_of_ble_eq_true rfl) ?_
        exact vx_ret (W.iret (v := (-1000000)) hx hb hr (fun t ht hW => ⟨⟨(-1000000), (), rfl, rfl, ⟨by rw [ht]; exact hP, hD⟩⟩, hS.F ht⟩) hS.2.2 dL_constructorNode_13 hlocks)
      · rw [if_neg k_4] at hm
        cases hm
  · rw [if_pos hw.1] at hm
    rw [show r = q_1.2.1 from hw.2]
    have hP : va_P (DG G) clP3 (wC G a q_1.2.2.1 F U S D R M q_1.2.2.2 P) H := by rw [← ht]; exact hB.1
    have hD : va_D A (wC G a q_1.2.2.1 F U S D R M q_1.2.2.2 P) := hB.2.weaken (fun _ p _ h => hFc p.1 h)
    refine W.widen (k := 1) (n := 6) (Nat.le_of_ble_eq_true rfl) (Nat.le_of_ble_eq_true rfl) ?_
    simp only [Option.some.injEq, Prod.mk.injEq] at hm
    obtain ⟨rfl, rfl, rfl⟩ := hm
    subst hAe
    refine W.widen (k := 1) (n := 6) (Nat.le_of_ble_eq_true rfl) (Nat.le_of_ble_eq_true rfl) ?_
    exact vx_ret (W.iret (v := q_1.2.1) hx hb hr (fun t ht hW => ⟨⟨q_1.2.1, (), rfl, rfl, ⟨by rw [ht]; exact hP, hD⟩⟩, hS.F ht⟩) hS.2.2 dL_constructorNode_5 hlocks)
def f_L_functionNode (T : TS) (D : DS) (N : NS) (p1 : Int32) : Option (Int32 × TS × NS) := (Option.bind (f_X11_functionNode T D N p1) (fun q_1 => (if q_1.1 = 0 then some (q_1.2.1, q_1.2.2.1, q_1.2.2.2) else (if q_1.1 = 4 then some ((-3000000), q_1.2.2.1, q_1.2.2.2) else (if q_1.1 = 2 then some ((-1000000), q_1.2.2.1, q_1.2.2.2) else none)))))
set_option maxHeartbeats 2000000 in
set_option maxRecDepth 100000 in
theorem k_L_functionNode (l : Launch) (hfl : l.stackTraces = false) (G : GC) (a : AS) (T : TS) (F : FS) (U : US) (S : SS) (D : DS) (R : RS) (M : MS) (N : NS) (P : PS) (hlk : lkA a D.1.toNatClampNeg D.2.1.toNatClampNeg) (p1 : Int32) (r9 : Int32) (T9 : TS) (N9 : NS) (hm : f_L_functionNode T D N p1 = some (r9, T9, N9)) (sz : Nat) : vx_Met l yL_functionNode (Cond.codeWith yL_functionNode cL_functionNode 3 (some .int) [(0, 5, 6, 44), (0, 5, 10, 22)] :: W0) ({ frames := 8, cells := 2, slots := 12, locals := 125 }) (va_Pc [.ref (a.1 0), .int p1] (WD G (wC G a T F U S D R M N P) sz)) (va_Qi (S := Unit) (fun r _ => r = r9) (fun _ t => PW G (va_A (wC G a T F U S D R M N P) sz) (wC G a T9 F U S D R M N9 P) t) (va_A (wC G a T F U S D R M N P) sz)) (vx_X (fun _ : Unit => False) (fun (_ : String) (_ : Unit) (_ : State) => True) (va_A (wC G a T F U S D R M N P) sz)) 2 12 (va_A (wC G a T F U S D R M N P) sz) := by
  rw [f_L_functionNode] at hm
  refine vx_ofWH (cc := cL_functionNode) (maxL := 3) (ret := (some .int)) (hh := [(0, 5, 6, 44), (0, 5, 10, 22)]) (by decide) rfl ?_
  intro p e s m args below meth c s₁ B hml hv
  obtain ⟨rfl, hsz, hP, hK, hD0, hE⟩ := hv
  have hx := B.exec
  have hb := B.bytes
  have hr := B.returns
  have hts := w0_tail B.pre
  have hown : s.vm.findClass RL = some m.cls := findClass_of_methodNamed B.named
  have hlocks := B.notSynchronized
  have htab := vx_table (x := yL_functionNode) B (hts _ wm770)
  have hD := hD0.self (sz := sz)
  obtain ⟨A, hAe⟩ : ∃ A, (va_A (wC G a T F U S D R M N P) sz) = A := ⟨_, rfl⟩
  rw [hAe] at hD hE
  have hA : ∀ q : Nat, s.heap.size ≤ q → A q := fun q h => by rw [← hAe]; exact Or.inr (by rw [← hsz]; exact h)
  have hS : va_S A s.heap s.heap [] := va_S.rf
  obtain ⟨H, hHe⟩ : ∃ H : Heap, H = s.heap := ⟨_, rfl⟩
  have hP : va_P (DG G) clP3 (wC G a T F U S D R M N P) H := by rw [hHe]; exact hP
  have hS : va_S A s.heap H [] := by rw [hHe]; exact hS
  have hl := lv_entry ([.ref (a.1 0), .int p1]) (n := 3) (Nat.le_of_ble_eq_true rfl)
  rw [lg_entry_eq, ← hHe]
  generalize (lg_sl ([.ref (a.1 0), .int p1]) ++ List.replicate (3 - (lg_sl ([.ref (a.1 0), .int p1])).length) Slot.unset).toArray = ls at hl ⊢
  have hl : lv_has ls 3 [(0, .ref (a.1 0)), (1, .int p1)] := hl
  refine lv_aload_n hx hb dL_functionNode_0 rfl (lv_at hl 0 rfl) ?_
  refine lv_iload_n hx hb dL_functionNode_1 rfl (lv_at hl 1 rfl) ?_
  obtain ⟨q_1, hq_1, hm⟩ := bind_some hm
  have hFc := free_all hD hS hA
  refine vx_calli (vx_runV (As := [.int p1]) (rest := []) ⟨hx, hb, hml, hown, hts⟩ (k_X11_functionNode l hfl G a T F U S D R M N P hlk p1  q_1.1 q_1.2.1 q_1.2.2.1 q_1.2.2.2 hq_1 H.size) (cwV 1 hts (gV wm771 wm772 wm773 wm1 wm774) rfl rfl rfl (by decide +kernel) ⟨Nat.le_of_ble_eq_true rfl, Nat.le_of_ble_eq_true rfl⟩) (pre_v (pre_w hK hP hD hS hE hFc) (va_recv hK hP (ci := 10) (q0 := 0) rfl rfl)) rfl rfl hl.1 rfl (lv_room (Nat.le_of_ble_eq_true rfl)) dL_functionNode_2 ⟨Nat.le_of_ble_eq_true rfl, Nat.le_of_ble_eq_true rfl⟩) hS (fun q _ h => hFc q h) hFc (fun q _ h => hFc q h) (fun E ce q9 u_2 t H locs ht hvm hpx hBX hz1 hk1 hS hce hv9 hcl => ?_) (fun r u_2 t H locs ht hvm hw hB hz1 hk1 hS => ?_)
  · have hne : ¬ q_1.1 = 0 := xnm_ne hBX.1
    rw [if_neg hne] at hm
    have hX9 := hBX.1
    have hB := hBX.2
    have hP : va_P (DG G) clP3 (wC G a q_1.2.2.1 F U S D R M q_1.2.2.2 P) H := by rw [← ht]; exact hB.1
    have hD : va_D A (wC G a q_1.2.2.1 F U S D R M q_1.2.2.2 P) := hB.2.weaken (fun _ p _ h => hFc p.1 h)
    by_cases k_3 : q_1.1 = 4
    · rw [if_pos k_3] at hm
      rw [k_3] at hX9
      obtain rfl : "java/util/NoSuchElementException" = E := Option.some.inj (xnm4.symm.trans hX9)
      refine vx_widen (k := 2) (n := 12) (Nat.le_of_ble_eq_true rfl) (Nat.le_of_ble_eq_true rfl) ?_
      refine vx_catch hown (tableOf []) ⟨0, 5, 6, 44⟩ (tableOf [(0, 5, 10, 22)]) (htab.trans rfl) xP0 (by decide) (by decide) (hts _ wm748) (va_Nw.use rfl (hE.1 _ nw578)) hce hv9 hcl ?_
      refine W.eq (g2 := F0 m 6 ls [.ref q9]) rfl ?_
      refine lv_astore_n (lv' := [(2, .ref q9), (0, .ref (a.1 0)), (1, .int p1)]) hx hb dL_functionNode_6 rfl hl (by decide) rfl (fun ls hl => ?_)
      refine lv_ldc (v := (-3000000)) hx hb hown (hts _ wm758) dL_functionNode_7 ?_
      simp only [Option.some.injEq, Prod.mk.injEq] at hm
      obtain ⟨rfl, rfl, rfl⟩ := hm
      subst hAe
      refine W.widen (k := 2) (n := 12) (Nat.le_of_ble_eq_true rfl) (Nat.le_of_ble_eq_true rfl) ?_
      exact vx_ret (W.iret (v := (-3000000)) hx hb hr (fun t ht hW => ⟨⟨(-3000000), (), rfl, rfl, ⟨by rw [ht]; exact hP, hD⟩⟩, hS.F ht⟩) hS.2.2 dL_functionNode_9 hlocks)
    · rw [if_neg k_3] at hm
      by_cases k_4 : q_1.1 = 2
      · rw [if_pos k_4] at hm
        rw [k_4] at hX9
        obtain rfl : "java/lang/IllegalStateException" = E := Option.some.inj (xnm2.symm.trans hX9)
        refine vx_widen (k := 2) (n := 12) (Nat.le_of_ble_eq_true rfl) (Nat.le_of_ble_eq_true rfl) ?_
        refine vx_catch hown (tableOf [(0, 5, 6, 44)]) ⟨0, 5, 10, 22⟩ (tableOf []) (htab.trans rfl) (xPc (Or.inr ⟨by decide, _, hts _ wm748, hE.2.2.1 _ nc2⟩) xP0) (by decide) (by decide) (hts _ wm644) (va_Nw.use rfl (hE.1 _ nw671)) hce hv9 hcl ?_
        refine W.eq (g2 := F0 m 10 ls [.ref q9]) rfl ?_
        refine lv_astore_n (lv' := [(2, .ref q9), (0, .ref (a.1 0)), (1, .int p1)]) hx hb dL_functionNode_10 rfl hl (by decide) rfl (fun ls hl => ?_)
        refine lv_ldc (v := (-1000000)) hx hb hown (hts _ wm687) dL_functionNode_11 ?_
        simp only [Option.some.injEq, Prod.mk.injEq] at hm
        obtain ⟨rfl, rfl, rfl⟩ := hm
        subst hAe
        refine W.widen (k := 2) (n := 12) (Nat.le_of_ble_eq_true rfl) (Nat.le_of_ble_eq_true rfl) ?_
        exact vx_ret (W.iret (v := (-1000000)) hx hb hr (fun t ht hW => ⟨⟨(-1000000), (), rfl, rfl, ⟨by rw [ht]; exact hP, hD⟩⟩, hS.F ht⟩) hS.2.2 dL_functionNode_13 hlocks)
      · rw [if_neg k_4] at hm
        cases hm
  · rw [if_pos hw.1] at hm
    rw [show r = q_1.2.1 from hw.2]
    have hP : va_P (DG G) clP3 (wC G a q_1.2.2.1 F U S D R M q_1.2.2.2 P) H := by rw [← ht]; exact hB.1
    have hD : va_D A (wC G a q_1.2.2.1 F U S D R M q_1.2.2.2 P) := hB.2.weaken (fun _ p _ h => hFc p.1 h)
    refine W.widen (k := 2) (n := 12) (Nat.le_of_ble_eq_true rfl) (Nat.le_of_ble_eq_true rfl) ?_
    simp only [Option.some.injEq, Prod.mk.injEq] at hm
    obtain ⟨rfl, rfl, rfl⟩ := hm
    subst hAe
    refine W.widen (k := 2) (n := 12) (Nat.le_of_ble_eq_true rfl) (Nat.le_of_ble_eq_true rfl) ?_
    exact vx_ret (W.iret (v := q_1.2.1) hx hb hr (fun t ht hW => ⟨⟨q_1.2.1, (), rfl, rfl, ⟨by rw [ht]; exact hP, hD⟩⟩, hS.F ht⟩) hS.2.2 dL_functionNode_5 hlocks)
def f_L_addData (S : SS)  : Option (Int32 × SS) := (Option.bind (f_X11_addData S) (fun q_1 => (if q_1.1 = 0 then some (q_1.2.1, q_1.2.2) else (if q_1.1 = 2 then some ((-1000000), q_1.2.2) else none))))
set_option maxHeartbeats 2000000 in
set_option maxRecDepth 100000 in
theorem k_L_addData (l : Launch) (hfl : l.stackTraces = false) (G : GC) (a : AS) (T : TS) (F : FS) (U : US) (S : SS) (D : DS) (R : RS) (M : MS) (N : NS) (P : PS) (hlk : lkA a D.1.toNatClampNeg D.2.1.toNatClampNeg)  (r9 : Int32) (S9 : SS) (hm : f_L_addData S = some (r9, S9)) (sz : Nat) : vx_Met l yL_addData (Cond.codeWith yL_addData cL_addData 2 (some .int) [(0, 4, 5, 22)] :: W0) ({ frames := 7, cells := 1, slots := 6, locals := 102 }) (va_Pc [.ref (a.1 0)] (WD G (wC G a T F U S D R M N P) sz)) (va_Qi (S := Unit) (fun r _ => r = r9) (fun _ t => PW G (va_A (wC G a T F U S D R M N P) sz) (wC G a T F U S9 D R M N P) t) (va_A (wC G a T F U S D R M N P) sz)) (vx_X (fun _ : Unit => False) (fun (_ : String) (_ : Unit) (_ : State) => True) (va_A (wC G a T F U S D R M N P) sz)) 1 6 (va_A (wC G a T F U S D R M N P) sz) := by
  rw [f_L_addData] at hm
  refine vx_ofWH (cc := cL_addData) (maxL := 2) (ret := (some .int)) (hh := [(0, 4, 5, 22)]) (by decide) rfl ?_
  intro p e s m args below meth c s₁ B hml hv
  obtain ⟨rfl, hsz, hP, hK, hD0, hE⟩ := hv
  have hx := B.exec
  have hb := B.bytes
  have hr := B.returns
  have hts := w0_tail B.pre
  have hown : s.vm.findClass RL = some m.cls := findClass_of_methodNamed B.named
  have hlocks := B.notSynchronized
  have htab := vx_table (x := yL_addData) B (hts _ wm777)
  have hD := hD0.self (sz := sz)
  obtain ⟨A, hAe⟩ : ∃ A, (va_A (wC G a T F U S D R M N P) sz) = A := ⟨_, rfl⟩
  rw [hAe] at hD hE
  have hA : ∀ q : Nat, s.heap.size ≤ q → A q := fun q h => by rw [← hAe]; exact Or.inr (by rw [← hsz]; exact h)
  have hS : va_S A s.heap s.heap [] := va_S.rf
  obtain ⟨H, hHe⟩ : ∃ H : Heap, H = s.heap := ⟨_, rfl⟩
  have hP : va_P (DG G) clP3 (wC G a T F U S D R M N P) H := by rw [hHe]; exact hP
  have hS : va_S A s.heap H [] := by rw [hHe]; exact hS
  have hl := lv_entry ([.ref (a.1 0)]) (n := 2) (Nat.le_of_ble_eq_true rfl)
  rw [lg_entry_eq, ← hHe]
  generalize (lg_sl ([.ref (a.1 0)]) ++ List.replicate (2 - (lg_sl ([.ref (a.1 0)])).length) Slot.unset).toArray = ls at hl ⊢
  have hl : lv_has ls 2 [(0, .ref (a.1 0))] := hl
  refine lv_aload_n hx hb dL_addData_0 rfl (lv_at hl 0 rfl) ?_
  obtain ⟨q_1, hq_1, hm⟩ := bind_some hm
  have hFc := free_all hD hS hA
  refine vx_calli (vx_runV (As := []) (rest := []) ⟨hx, hb, hml, hown, hts⟩ (k_X11_addData l hfl G a T F U S D R M N P hlk   q_1.1 q_1.2.1 q_1.2.2 hq_1 H.size) (cwV 0 hts (gV wm778 wm779 wm780 wm1 wm781) rfl rfl rfl (by decide +kernel) ⟨Nat.le_of_ble_eq_true rfl, Nat.le_of_ble_eq_true rfl⟩) (pre_v (pre_w hK hP hD hS hE hFc) (va_recv hK hP (ci := 10) (q0 := 0) rfl rfl)) rfl rfl hl.1 rfl (lv_room (Nat.le_of_ble_eq_true rfl)) dL_addData_1 ⟨Nat.le_of_ble_eq_true rfl, Nat.le_of_ble_eq_true rfl⟩) hS (fun q _ h => hFc q h) hFc (fun q _ h => hFc q h) (fun E ce q9 u_2 t H locs ht hvm hpx hBX hz1 hk1 hS hce hv9 hcl => ?_) (fun r u_2 t H locs ht hvm hw hB hz1 hk1 hS => ?_)
  · have hne : ¬ q_1.1 = 0 := xnm_ne hBX.1
    rw [if_neg hne] at hm
    have hX9 := hBX.1
    have hB := hBX.2
    have hP : va_P (DG G) clP3 (wC G a T F U q_1.2.2 D R M N P) H := by rw [← ht]; exact hB.1
    have hD : va_D A (wC G a T F U q_1.2.2 D R M N P) := hB.2.weaken (fun _ p _ h => hFc p.1 h)
    by_cases k_3 : q_1.1 = 2
    · rw [if_pos k_3] at hm
      rw [k_3] at hX9
      obtain rfl : "java/lang/IllegalStateException" = E := Option.some.inj (xnm2.symm.trans hX9)
      refine vx_widen (k := 1) (n := 6) (Nat.le_of_ble_eq_true rfl) (Nat.le_of_ble_eq_true rfl) ?_
      refine vx_catch hown (tableOf []) ⟨0, 4, 5, 22⟩ (tableOf []) (htab.trans rfl) xP0 (by decide) (by decide) (hts _ wm644) (va_Nw.use rfl (hE.1 _ nw671)) hce hv9 hcl ?_
      refine W.eq (g2 := F0 m 5 ls [.ref q9]) rfl ?_
      refine lv_astore_n (lv' := [(1, .ref q9), (0, .ref (a.1 0))]) hx hb dL_addData_5 rfl hl (by decide) rfl (fun ls hl => ?_)
      refine lv_ldc (v := (-1000000)) hx hb hown (hts _ wm687) dL_addData_6 ?_
      simp only [Option.some.injEq, Prod.mk.injEq] at hm
      obtain ⟨rfl, rfl⟩ := hm
      subst hAe
      refine W.widen (k := 1) (n := 6) (Nat.le_of_ble_eq_true rfl) (Nat.le_of_ble_eq_true rfl) ?_
      exact vx_ret (W.iret (v := (-1000000)) hx hb hr (fun t ht hW => ⟨⟨(-1000000), (), rfl, rfl, ⟨by rw [ht]; exact hP, hD⟩⟩, hS.F ht⟩) hS.2.2 dL_addData_8 hlocks)
    · rw [if_neg k_3] at hm
      cases hm
  · rw [if_pos hw.1] at hm
    rw [show r = q_1.2.1 from hw.2]
    have hP : va_P (DG G) clP3 (wC G a T F U q_1.2.2 D R M N P) H := by rw [← ht]; exact hB.1
    have hD : va_D A (wC G a T F U q_1.2.2 D R M N P) := hB.2.weaken (fun _ p _ h => hFc p.1 h)
    refine W.widen (k := 1) (n := 6) (Nat.le_of_ble_eq_true rfl) (Nat.le_of_ble_eq_true rfl) ?_
    simp only [Option.some.injEq, Prod.mk.injEq] at hm
    obtain ⟨rfl, rfl⟩ := hm
    subst hAe
    refine W.widen (k := 1) (n := 6) (Nat.le_of_ble_eq_true rfl) (Nat.le_of_ble_eq_true rfl) ?_
    exact vx_ret (W.iret (v := q_1.2.1) hx hb hr (fun t ht hW => ⟨⟨q_1.2.1, (), rfl, rfl, ⟨by rw [ht]; exact hP, hD⟩⟩, hS.F ht⟩) hS.2.2 dL_addData_4 hlocks)
def f_L_addConstructor (T : TS) (S : SS) (D : DS) (p1 : Int32) (p2 : Int32) (p3 : Int32) (p4 : Int32) (p5 : Int32) : Option (Int32 × TS × SS) := (Option.bind (f_X11_addConstructor T S D p1 p2 p3 p4 p5) (fun q_1 => (if q_1.1 = 0 then some (q_1.2.1, q_1.2.2.1, q_1.2.2.2) else (if q_1.1 = 4 then some ((-3000000), q_1.2.2.1, q_1.2.2.2) else (if q_1.1 = 1 then some ((-2000000), q_1.2.2.1, q_1.2.2.2) else (if q_1.1 = 2 then some ((-1000000), q_1.2.2.1, q_1.2.2.2) else none))))))
set_option maxHeartbeats 2000000 in
set_option maxRecDepth 100000 in
theorem k_L_addConstructor (l : Launch) (hfl : l.stackTraces = false) (G : GC) (a : AS) (T : TS) (F : FS) (U : US) (S : SS) (D : DS) (R : RS) (M : MS) (N : NS) (P : PS) (hlk : lkA a D.1.toNatClampNeg D.2.1.toNatClampNeg) (p1 : Int32) (p2 : Int32) (p3 : Int32) (p4 : Int32) (p5 : Int32) (r9 : Int32) (T9 : TS) (S9 : SS) (hm : f_L_addConstructor T S D p1 p2 p3 p4 p5 = some (r9, T9, S9)) (sz : Nat) : vx_Met l yL_addConstructor (Cond.codeWith yL_addConstructor cL_addConstructor 7 (some .int) [(0, 11, 12, 44), (0, 11, 17, 19), (0, 11, 22, 22)] :: W0) ({ frames := 7, cells := 1, slots := 6, locals := 108 }) (va_Pc [.ref (a.1 0), .int p1, .int p2, .int p3, .int p4, .int p5] (WD G (wC G a T F U S D R M N P) sz)) (va_Qi (S := Unit) (fun r _ => r = r9) (fun _ t => PW G (va_A (wC G a T F U S D R M N P) sz) (wC G a T9 F U S9 D R M N P) t) (va_A (wC G a T F U S D R M N P) sz)) (vx_X (fun _ : Unit => False) (fun (_ : String) (_ : Unit) (_ : State) => True) (va_A (wC G a T F U S D R M N P) sz)) 1 6 (va_A (wC G a T F U S D R M N P) sz) := by
  rw [f_L_addConstructor] at hm
  refine vx_ofWH (cc := cL_addConstructor) (maxL := 7) (ret := (some .int)) (hh := [(0, 11, 12, 44), (0, 11, 17, 19), (0, 11, 22, 22)]) (by decide) rfl ?_
  intro p e s m args below meth c s₁ B hml hv
  obtain ⟨rfl, hsz, hP, hK, hD0, hE⟩ := hv
  have hx := B.exec
  have hb := B.bytes
  have hr := B.returns
  have hts := w0_tail B.pre
  have hown : s.vm.findClass RL = some m.cls := findClass_of_methodNamed B.named
  have hlocks := B.notSynchronized
  have htab := vx_table (x := yL_addConstructor) B (hts _ wm789)
  have hD := hD0.self (sz := sz)
  obtain ⟨A, hAe⟩ : ∃ A, (va_A (wC G a T F U S D R M N P) sz) = A := ⟨_, rfl⟩
  rw [hAe] at hD hE
  have hA : ∀ q : Nat, s.heap.size ≤ q → A q := fun q h => by rw [← hAe]; exact Or.inr (by rw [← hsz]; exact h)
  have hS : va_S A s.heap s.heap [] := va_S.rf
  obtain ⟨H, hHe⟩ : ∃ H : Heap, H = s.heap := ⟨_, rfl⟩
  have hP : va_P (DG G) clP3 (wC G a T F U S D R M N P) H := by rw [hHe]; exact hP
  have hS : va_S A s.heap H [] := by rw [hHe]; exact hS
  have hl := lv_entry ([.ref (a.1 0), .int p1, .int p2, .int p3, .int p4, .int p5]) (n := 7) (Nat.le_of_ble_eq_true rfl)
  rw [lg_entry_eq, ← hHe]
  generalize (lg_sl ([.ref (a.1 0), .int p1, .int p2, .int p3, .int p4, .int p5]) ++ List.replicate (7 - (lg_sl ([.ref (a.1 0), .int p1, .int p2, .int p3, .int p4, .int p5])).length) Slot.unset).toArray = ls at hl ⊢
  have hl : lv_has ls 7 [(0, .ref (a.1 0)), (1, .int p1), (2, .int p2), (3, .int p3), (4, .int p4), (5, .int p5)] := hl
  refine lv_aload_n hx hb dL_addConstructor_0 rfl (lv_at hl 0 rfl) ?_
  refine lv_iload_n hx hb dL_addConstructor_1 rfl (lv_at hl 1 rfl) ?_
  refine lv_iload_n hx hb dL_addConstructor_2 rfl (lv_at hl 2 rfl) ?_
  refine lv_iload_n hx hb dL_addConstructor_3 rfl (lv_at hl 3 rfl) ?_
  refine lv_iload hx hb dL_addConstructor_4 (lv_at hl 4 rfl) ?_
  refine lv_iload hx hb dL_addConstructor_6 (lv_at hl 5 rfl) ?_
  obtain ⟨q_1, hq_1, hm⟩ := bind_some hm
  have hFc := free_all hD hS hA
  refine vx_calli (vx_runV (As := [.int p1, .int p2, .int p3, .int p4, .int p5]) (rest := []) ⟨hx, hb, hml, hown, hts⟩ (k_X11_addConstructor l hfl G a T F U S D R M N P hlk p1 p2 p3 p4 p5  q_1.1 q_1.2.1 q_1.2.2.1 q_1.2.2.2 hq_1 H.size) (cwV 5 hts (gV wm790 wm791 wm792 wm1 wm793) rfl rfl rfl (by decide +kernel) ⟨Nat.le_of_ble_eq_true rfl, Nat.le_of_ble_eq_true rfl⟩) (pre_v (pre_w hK hP hD hS hE hFc) (va_recv hK hP (ci := 10) (q0 := 0) rfl rfl)) rfl rfl hl.1 rfl (lv_room (Nat.le_of_ble_eq_true rfl)) dL_addConstructor_8 ⟨Nat.le_of_ble_eq_true rfl, Nat.le_of_ble_eq_true rfl⟩) hS (fun q _ h => hFc q h) hFc (fun q _ h => hFc q h) (fun E ce q9 u_2 t H locs ht hvm hpx hBX hz1 hk1 hS hce hv9 hcl => ?_) (fun r u_2 t H locs ht hvm hw hB hz1 hk1 hS => ?_)
  · have hne : ¬ q_1.1 = 0 := xnm_ne hBX.1
    rw [if_neg hne] at hm
    have hX9 := hBX.1
    have hB := hBX.2
    have hP : va_P (DG G) clP3 (wC G a q_1.2.2.1 F U q_1.2.2.2 D R M N P) H := by rw [← ht]; exact hB.1
    have hD : va_D A (wC G a q_1.2.2.1 F U q_1.2.2.2 D R M N P) := hB.2.weaken (fun _ p _ h => hFc p.1 h)
    by_cases k_3 : q_1.1 = 4
    · rw [if_pos k_3] at hm
      rw [k_3] at hX9
      obtain rfl : "java/util/NoSuchElementException" = E := Option.some.inj (xnm4.symm.trans hX9)
      refine vx_widen (k := 1) (n := 6) (Nat.le_of_ble_eq_true rfl) (Nat.le_of_ble_eq_true rfl) ?_
      refine vx_catch hown (tableOf []) ⟨0, 11, 12, 44⟩ (tableOf [(0, 11, 17, 19), (0, 11, 22, 22)]) (htab.trans rfl) xP0 (by decide) (by decide) (hts _ wm748) (va_Nw.use rfl (hE.1 _ nw578)) hce hv9 hcl ?_
      refine W.eq (g2 := F0 m 12 ls [.ref q9]) rfl ?_
      refine lv_astore (lv' := [(6, .ref q9), (0, .ref (a.1 0)), (1, .int p1), (2, .int p2), (3, .int p3), (4, .int p4), (5, .int p5)]) hx hb dL_addConstructor_12 hl (by decide) rfl (fun ls hl => ?_)
      refine lv_ldc (v := (-3000000)) hx hb hown (hts _ wm758) dL_addConstructor_14 ?_
      simp only [Option.some.injEq, Prod.mk.injEq] at hm
      obtain ⟨rfl, rfl, rfl⟩ := hm
      subst hAe
      refine W.widen (k := 1) (n := 6) (Nat.le_of_ble_eq_true rfl) (Nat.le_of_ble_eq_true rfl) ?_
      exact vx_ret (W.iret (v := (-3000000)) hx hb hr (fun t ht hW => ⟨⟨(-3000000), (), rfl, rfl, ⟨by rw [ht]; exact hP, hD⟩⟩, hS.F ht⟩) hS.2.2 dL_addConstructor_16 hlocks)
    · rw [if_neg k_3] at hm
      by_cases k_4 : q_1.1 = 1
      · rw [if_pos k_4] at hm
        rw [k_4] at hX9
        obtain rfl : "java/lang/IllegalArgumentException" = E := Option.some.inj (xnm1.symm.trans hX9)
        refine vx_widen (k := 1) (n := 6) (Nat.le_of_ble_eq_true rfl) (Nat.le_of_ble_eq_true rfl) ?_
        refine vx_catch hown (tableOf [(0, 11, 12, 44)]) ⟨0, 11, 17, 19⟩ (tableOf [(0, 11, 22, 22)]) (htab.trans rfl) (xPc (Or.inr ⟨by decide, _, hts _ wm748, hE.2.2.1 _ nc3⟩) xP0) (by decide) (by decide) (hts _ wm643) (va_Nw.use rfl (hE.1 _ nw651)) hce hv9 hcl ?_
        refine W.eq (g2 := F0 m 17 ls [.ref q9]) rfl ?_
        refine lv_astore (lv' := [(6, .ref q9), (0, .ref (a.1 0)), (1, .int p1), (2, .int p2), (3, .int p3), (4, .int p4), (5, .int p5)]) hx hb dL_addConstructor_17 hl (by decide) rfl (fun ls hl => ?_)
        refine lv_ldc (v := (-2000000)) hx hb hown (hts _ wm686) dL_addConstructor_19 ?_
        simp only [Option.some.injEq, Prod.mk.injEq] at hm
        obtain ⟨rfl, rfl, rfl⟩ := hm
        subst hAe
        refine W.widen (k := 1) (n := 6) (Nat.le_of_ble_eq_true rfl) (Nat.le_of_ble_eq_true rfl) ?_
        exact vx_ret (W.iret (v := (-2000000)) hx hb hr (fun t ht hW => ⟨⟨(-2000000), (), rfl, rfl, ⟨by rw [ht]; exact hP, hD⟩⟩, hS.F ht⟩) hS.2.2 dL_addConstructor_21 hlocks)
      · rw [if_neg k_4] at hm
        by_cases k_5 : q_1.1 = 2
        · rw [if_pos k_5] at hm
          rw [k_5] at hX9
          obtain rfl : "java/lang/IllegalStateException" = E := Option.some.inj (xnm2.symm.trans hX9)
          refine vx_widen (k := 1) (n := 6) (Nat.le_of_ble_eq_true rfl) (Nat.le_of_ble_eq_true rfl) ?_
          refine vx_catch hown (tableOf [(0, 11, 12, 44), (0, 11, 17, 19)]) ⟨0, 11, 22, 22⟩ (tableOf []) (htab.trans rfl) (xPc (Or.inr ⟨by decide, _, hts _ wm748, hE.2.2.1 _ nc2⟩) (xPc (Or.inr ⟨by decide, _, hts _ wm643, hE.2.2.1 _ nc0⟩) xP0)) (by decide) (by decide) (hts _ wm644) (va_Nw.use rfl (hE.1 _ nw671)) hce hv9 hcl ?_
          refine W.eq (g2 := F0 m 22 ls [.ref q9]) rfl ?_
          refine lv_astore (lv' := [(6, .ref q9), (0, .ref (a.1 0)), (1, .int p1), (2, .int p2), (3, .int p3), (4, .int p4), (5, .int p5)]) hx hb dL_addConstructor_22 hl (by decide) rfl (fun ls hl => ?_)
          refine lv_ldc (v := (-1000000)) hx hb hown (hts _ wm687) dL_addConstructor_24 ?_
          simp only [Option.some.injEq, Prod.mk.injEq] at hm
          obtain ⟨rfl, rfl, rfl⟩ := hm
          subst hAe
          refine W.widen (k := 1) (n := 6) (Nat.le_of_ble_eq_true rfl) (Nat.le_of_ble_eq_true rfl) ?_
          exact vx_ret (W.iret (v := (-1000000)) hx hb hr (fun t ht hW => ⟨⟨(-1000000), (), rfl, rfl, ⟨by rw [ht]; exact hP, hD⟩⟩, hS.F ht⟩) hS.2.2 dL_addConstructor_26 hlocks)
        · rw [if_neg k_5] at hm
          cases hm
  · rw [if_pos hw.1] at hm
    rw [show r = q_1.2.1 from hw.2]
    have hP : va_P (DG G) clP3 (wC G a q_1.2.2.1 F U q_1.2.2.2 D R M N P) H := by rw [← ht]; exact hB.1
    have hD : va_D A (wC G a q_1.2.2.1 F U q_1.2.2.2 D R M N P) := hB.2.weaken (fun _ p _ h => hFc p.1 h)
    refine W.widen (k := 1) (n := 6) (Nat.le_of_ble_eq_true rfl) (Nat.le_of_ble_eq_true rfl) ?_
    simp only [Option.some.injEq, Prod.mk.injEq] at hm
    obtain ⟨rfl, rfl, rfl⟩ := hm
    subst hAe
    refine W.widen (k := 1) (n := 6) (Nat.le_of_ble_eq_true rfl) (Nat.le_of_ble_eq_true rfl) ?_
    exact vx_ret (W.iret (v := q_1.2.1) hx hb hr (fun t ht hW => ⟨⟨q_1.2.1, (), rfl, rfl, ⟨by rw [ht]; exact hP, hD⟩⟩, hS.F ht⟩) hS.2.2 dL_addConstructor_11 hlocks)
def f_L_size (T : TS) (N : NS) (p1 : Int32) : Option (Int32) := (Option.bind (f_X11_size T N p1) (fun q_1 => (if q_1.1 = 0 then some q_1.2 else (if q_1.1 = 3 then some (-2500000) else none))))
set_option maxHeartbeats 2000000 in
set_option maxRecDepth 100000 in
theorem k_L_size (l : Launch) (hfl : l.stackTraces = false) (G : GC) (a : AS) (T : TS) (F : FS) (U : US) (S : SS) (D : DS) (R : RS) (M : MS) (N : NS) (P : PS) (hlk : lkA a D.1.toNatClampNeg D.2.1.toNatClampNeg) (p1 : Int32) (r9 : Int32) (hm : f_L_size T N p1 = some r9) (sz : Nat) : vx_Met l yL_size (Cond.codeWith yL_size cL_size 3 (some .int) [(0, 5, 6, 32)] :: W0) ({ frames := 8, cells := 1, slots := 6, locals := 124 }) (va_Pc [.ref (a.1 0), .int p1] (WD G (wC G a T F U S D R M N P) sz)) (va_Qi (S := Unit) (fun r _ => r = r9) (fun _ t => PW G (va_A (wC G a T F U S D R M N P) sz) (wC G a T F U S D R M N P) t) (va_A (wC G a T F U S D R M N P) sz)) (vx_X (fun _ : Unit => False) (fun (_ : String) (_ : Unit) (_ : State) => True) (va_A (wC G a T F U S D R M N P) sz)) 1 6 (va_A (wC G a T F U S D R M N P) sz) := by
  rw [f_L_size] at hm
  refine vx_ofWH (cc := cL_size) (maxL := 3) (ret := (some .int)) (hh := [(0, 5, 6, 32)]) (by decide) rfl ?_
  intro p e s m args below meth c s₁ B hml hv
  obtain ⟨rfl, hsz, hP, hK, hD0, hE⟩ := hv
  have hx := B.exec
  have hb := B.bytes
  have hr := B.returns
  have hts := w0_tail B.pre
  have hown : s.vm.findClass RL = some m.cls := findClass_of_methodNamed B.named
  have hlocks := B.notSynchronized
  have htab := vx_table (x := yL_size) B (hts _ wm1253)
  have hD := hD0.self (sz := sz)
  obtain ⟨A, hAe⟩ : ∃ A, (va_A (wC G a T F U S D R M N P) sz) = A := ⟨_, rfl⟩
  rw [hAe] at hD hE
  have hA : ∀ q : Nat, s.heap.size ≤ q → A q := fun q h => by rw [← hAe]; exact Or.inr (by rw [← hsz]; exact h)
  have hS : va_S A s.heap s.heap [] := va_S.rf
  obtain ⟨H, hHe⟩ : ∃ H : Heap, H = s.heap := ⟨_, rfl⟩
  have hP : va_P (DG G) clP3 (wC G a T F U S D R M N P) H := by rw [hHe]; exact hP
  have hS : va_S A s.heap H [] := by rw [hHe]; exact hS
  have hl := lv_entry ([.ref (a.1 0), .int p1]) (n := 3) (Nat.le_of_ble_eq_true rfl)
  rw [lg_entry_eq, ← hHe]
  generalize (lg_sl ([.ref (a.1 0), .int p1]) ++ List.replicate (3 - (lg_sl ([.ref (a.1 0), .int p1])).length) Slot.unset).toArray = ls at hl ⊢
  have hl : lv_has ls 3 [(0, .ref (a.1 0)), (1, .int p1)] := hl
  refine lv_aload_n hx hb dL_size_0 rfl (lv_at hl 0 rfl) ?_
  refine lv_iload_n hx hb dL_size_1 rfl (lv_at hl 1 rfl) ?_
  obtain ⟨q_1, hq_1, hm⟩ := bind_some hm
  have hFc := free_all hD hS hA
  refine vx_calli (vx_runV (As := [.int p1]) (rest := []) ⟨hx, hb, hml, hown, hts⟩ (k_X11_size l hfl G a T F U S D R M N P hlk p1  q_1.1 q_1.2 hq_1 H.size) (cwV 1 hts (gV wm315 wm316 wm317 wm1 wm318) rfl rfl rfl (by decide +kernel) ⟨Nat.le_of_ble_eq_true rfl, Nat.le_of_ble_eq_true rfl⟩) (pre_v (pre_w hK hP hD hS hE hFc) (va_recv hK hP (ci := 10) (q0 := 0) rfl rfl)) rfl rfl hl.1 rfl (lv_room (Nat.le_of_ble_eq_true rfl)) dL_size_2 ⟨Nat.le_of_ble_eq_true rfl, Nat.le_of_ble_eq_true rfl⟩) hS (fun q _ h => hFc q h) hFc (fun q _ h => hFc q h) (fun E ce q9 u_2 t H locs ht hvm hpx hBX hz1 hk1 hS hce hv9 hcl => ?_) (fun r u_2 t H locs ht hvm hw hB hz1 hk1 hS => ?_)
  · have hne : ¬ q_1.1 = 0 := xnm_ne hBX.1
    rw [if_neg hne] at hm
    have hX9 := hBX.1
    have hB := hBX.2
    have hP : va_P (DG G) clP3 (wC G a T F U S D R M N P) H := by rw [← ht]; exact hB.1
    have hD : va_D A (wC G a T F U S D R M N P) := hB.2.weaken (fun _ p _ h => hFc p.1 h)
    by_cases k_3 : q_1.1 = 3
    · rw [if_pos k_3] at hm
      rw [k_3] at hX9
      obtain rfl : "java/lang/IndexOutOfBoundsException" = E := Option.some.inj (xnm3.symm.trans hX9)
      refine vx_widen (k := 1) (n := 6) (Nat.le_of_ble_eq_true rfl) (Nat.le_of_ble_eq_true rfl) ?_
      refine vx_catch hown (tableOf []) ⟨0, 5, 6, 32⟩ (tableOf []) (htab.trans rfl) xP0 (by decide) (by decide) (hts _ wm699) (va_Nw.use rfl (hE.1 _ nw325)) hce hv9 hcl ?_
      refine W.eq (g2 := F0 m 6 ls [.ref q9]) rfl ?_
      refine lv_astore_n (lv' := [(2, .ref q9), (0, .ref (a.1 0)), (1, .int p1)]) hx hb dL_size_6 rfl hl (by decide) rfl (fun ls hl => ?_)
      refine lv_ldc (v := (-2500000)) hx hb hown (hts _ wm730) dL_size_7 ?_
      obtain rfl := Option.some.inj hm
      subst hAe
      refine W.widen (k := 1) (n := 6) (Nat.le_of_ble_eq_true rfl) (Nat.le_of_ble_eq_true rfl) ?_
      exact vx_ret (W.iret (v := (-2500000)) hx hb hr (fun t ht hW => ⟨⟨(-2500000), (), rfl, rfl, ⟨by rw [ht]; exact hP, hD⟩⟩, hS.F ht⟩) hS.2.2 dL_size_9 hlocks)
    · rw [if_neg k_3] at hm
      cases hm
  · rw [if_pos hw.1] at hm
    rw [show r = q_1.2 from hw.2]
    have hP : va_P (DG G) clP3 (wC G a T F U S D R M N P) H := by rw [← ht]; exact hB.1
    have hD : va_D A (wC G a T F U S D R M N P) := hB.2.weaken (fun _ p _ h => hFc p.1 h)
    refine W.widen (k := 1) (n := 6) (Nat.le_of_ble_eq_true rfl) (Nat.le_of_ble_eq_true rfl) ?_
    obtain rfl := Option.some.inj hm
    subst hAe
    refine W.widen (k := 1) (n := 6) (Nat.le_of_ble_eq_true rfl) (Nat.le_of_ble_eq_true rfl) ?_
    exact vx_ret (W.iret (v := q_1.2) hx hb hr (fun t ht hW => ⟨⟨q_1.2, (), rfl, rfl, ⟨by rw [ht]; exact hP, hD⟩⟩, hS.F ht⟩) hS.2.2 dL_size_5 hlocks)
def f_L_normal (T : TS) (F : FS) (N : NS) (p1 : Int32) : Option (Int32 × TS × FS) := (Option.bind (f_X11_normal T F N p1) (fun q_1 => (if q_1.1 = 0 then some (q_1.2.1, q_1.2.2.1, q_1.2.2.2) else (if q_1.1 = 3 then some ((-2500000), q_1.2.2.1, q_1.2.2.2) else (if q_1.1 = 5 then some ((-1500000), q_1.2.2.1, q_1.2.2.2) else none)))))
set_option maxHeartbeats 2000000 in
set_option maxRecDepth 100000 in
theorem k_L_normal (l : Launch) (hfl : l.stackTraces = false) (G : GC) (a : AS) (T : TS) (F : FS) (U : US) (S : SS) (D : DS) (R : RS) (M : MS) (N : NS) (P : PS) (hlk : lkA a D.1.toNatClampNeg D.2.1.toNatClampNeg) (p1 : Int32) (r9 : Int32) (T9 : TS) (F9 : FS) (hm : f_L_normal T F N p1 = some (r9, T9, F9)) (sz : Nat) : vx_Met l yL_normal (Cond.codeWith yL_normal cL_normal 3 (some .int) [(0, 5, 6, 32), (0, 5, 10, 70)] :: W0) ({ frames := 406, cells := 2, slots := 12, locals := 10540 }) (va_Pc [.ref (a.1 0), .int p1] (WD G (wC G a T F U S D R M N P) sz)) (va_Qi (S := Unit) (fun r _ => r = r9) (fun _ t => PW G (va_A (wC G a T F U S D R M N P) sz) (wC G a T9 F9 U S D R M N P) t) (va_A (wC G a T F U S D R M N P) sz)) (vx_X (fun _ : Unit => False) (fun (_ : String) (_ : Unit) (_ : State) => True) (va_A (wC G a T F U S D R M N P) sz)) 2 12 (va_A (wC G a T F U S D R M N P) sz) := by
  rw [f_L_normal] at hm
  refine vx_ofWH (cc := cL_normal) (maxL := 3) (ret := (some .int)) (hh := [(0, 5, 6, 32), (0, 5, 10, 70)]) (by decide) rfl ?_
  intro p e s m args below meth c s₁ B hml hv
  obtain ⟨rfl, hsz, hP, hK, hD0, hE⟩ := hv
  have hx := B.exec
  have hb := B.bytes
  have hr := B.returns
  have hts := w0_tail B.pre
  have hown : s.vm.findClass RL = some m.cls := findClass_of_methodNamed B.named
  have hlocks := B.notSynchronized
  have htab := vx_table (x := yL_normal) B (hts _ wm809)
  have hD := hD0.self (sz := sz)
  obtain ⟨A, hAe⟩ : ∃ A, (va_A (wC G a T F U S D R M N P) sz) = A := ⟨_, rfl⟩
  rw [hAe] at hD hE
  have hA : ∀ q : Nat, s.heap.size ≤ q → A q := fun q h => by rw [← hAe]; exact Or.inr (by rw [← hsz]; exact h)
  have hS : va_S A s.heap s.heap [] := va_S.rf
  obtain ⟨H, hHe⟩ : ∃ H : Heap, H = s.heap := ⟨_, rfl⟩
  have hP : va_P (DG G) clP3 (wC G a T F U S D R M N P) H := by rw [hHe]; exact hP
  have hS : va_S A s.heap H [] := by rw [hHe]; exact hS
  have hl := lv_entry ([.ref (a.1 0), .int p1]) (n := 3) (Nat.le_of_ble_eq_true rfl)
  rw [lg_entry_eq, ← hHe]
  generalize (lg_sl ([.ref (a.1 0), .int p1]) ++ List.replicate (3 - (lg_sl ([.ref (a.1 0), .int p1])).length) Slot.unset).toArray = ls at hl ⊢
  have hl : lv_has ls 3 [(0, .ref (a.1 0)), (1, .int p1)] := hl
  refine lv_aload_n hx hb dL_normal_0 rfl (lv_at hl 0 rfl) ?_
  refine lv_iload_n hx hb dL_normal_1 rfl (lv_at hl 1 rfl) ?_
  obtain ⟨q_1, hq_1, hm⟩ := bind_some hm
  have hFc := free_all hD hS hA
  refine vx_calli (vx_runV (As := [.int p1]) (rest := []) ⟨hx, hb, hml, hown, hts⟩ (k_X11_normal l hfl G a T F U S D R M N P hlk p1  q_1.1 q_1.2.1 q_1.2.2.1 q_1.2.2.2 hq_1 H.size) (cwV 1 hts (gV wm811 wm812 wm813 wm1 wm814) rfl rfl rfl (by decide +kernel) ⟨Nat.le_of_ble_eq_true rfl, Nat.le_of_ble_eq_true rfl⟩) (pre_v (pre_w hK hP hD hS hE hFc) (va_recv hK hP (ci := 10) (q0 := 0) rfl rfl)) rfl rfl hl.1 rfl (lv_room (Nat.le_of_ble_eq_true rfl)) dL_normal_2 ⟨Nat.le_of_ble_eq_true rfl, Nat.le_of_ble_eq_true rfl⟩) hS (fun q _ h => hFc q h) hFc (fun q _ h => hFc q h) (fun E ce q9 u_2 t H locs ht hvm hpx hBX hz1 hk1 hS hce hv9 hcl => ?_) (fun r u_2 t H locs ht hvm hw hB hz1 hk1 hS => ?_)
  · have hne : ¬ q_1.1 = 0 := xnm_ne hBX.1
    rw [if_neg hne] at hm
    have hX9 := hBX.1
    have hB := hBX.2
    have hP : va_P (DG G) clP3 (wC G a q_1.2.2.1 q_1.2.2.2 U S D R M N P) H := by rw [← ht]; exact hB.1
    have hD : va_D A (wC G a q_1.2.2.1 q_1.2.2.2 U S D R M N P) := hB.2.weaken (fun _ p _ h => hFc p.1 h)
    by_cases k_3 : q_1.1 = 3
    · rw [if_pos k_3] at hm
      rw [k_3] at hX9
      obtain rfl : "java/lang/IndexOutOfBoundsException" = E := Option.some.inj (xnm3.symm.trans hX9)
      refine vx_widen (k := 2) (n := 12) (Nat.le_of_ble_eq_true rfl) (Nat.le_of_ble_eq_true rfl) ?_
      refine vx_catch hown (tableOf []) ⟨0, 5, 6, 32⟩ (tableOf [(0, 5, 10, 70)]) (htab.trans rfl) xP0 (by decide) (by decide) (hts _ wm699) (va_Nw.use rfl (hE.1 _ nw325)) hce hv9 hcl ?_
      refine W.eq (g2 := F0 m 6 ls [.ref q9]) rfl ?_
      refine lv_astore_n (lv' := [(2, .ref q9), (0, .ref (a.1 0)), (1, .int p1)]) hx hb dL_normal_6 rfl hl (by decide) rfl (fun ls hl => ?_)
      refine lv_ldc (v := (-2500000)) hx hb hown (hts _ wm730) dL_normal_7 ?_
      simp only [Option.some.injEq, Prod.mk.injEq] at hm
      obtain ⟨rfl, rfl, rfl⟩ := hm
      subst hAe
      refine W.widen (k := 2) (n := 12) (Nat.le_of_ble_eq_true rfl) (Nat.le_of_ble_eq_true rfl) ?_
      exact vx_ret (W.iret (v := (-2500000)) hx hb hr (fun t ht hW => ⟨⟨(-2500000), (), rfl, rfl, ⟨by rw [ht]; exact hP, hD⟩⟩, hS.F ht⟩) hS.2.2 dL_normal_9 hlocks)
    · rw [if_neg k_3] at hm
      by_cases k_4 : q_1.1 = 5
      · rw [if_pos k_4] at hm
        rw [k_4] at hX9
        obtain rfl : "java/lang/UnsupportedOperationException" = E := Option.some.inj (xnm5.symm.trans hX9)
        refine vx_widen (k := 2) (n := 12) (Nat.le_of_ble_eq_true rfl) (Nat.le_of_ble_eq_true rfl) ?_
        refine vx_catch hown (tableOf [(0, 5, 6, 32)]) ⟨0, 5, 10, 70⟩ (tableOf []) (htab.trans rfl) (xPc (Or.inr ⟨by decide, _, hts _ wm699, hE.2.2.1 _ nc4⟩) xP0) (by decide) (by decide) (hts _ wm810) (va_Nw.use rfl (hE.1 _ nw821)) hce hv9 hcl ?_
        refine W.eq (g2 := F0 m 10 ls [.ref q9]) rfl ?_
        refine lv_astore_n (lv' := [(2, .ref q9), (0, .ref (a.1 0)), (1, .int p1)]) hx hb dL_normal_10 rfl hl (by decide) rfl (fun ls hl => ?_)
        refine lv_ldc (v := (-1500000)) hx hb hown (hts _ wm835) dL_normal_11 ?_
        simp only [Option.some.injEq, Prod.mk.injEq] at hm
        obtain ⟨rfl, rfl, rfl⟩ := hm
        subst hAe
        refine W.widen (k := 2) (n := 12) (Nat.le_of_ble_eq_true rfl) (Nat.le_of_ble_eq_true rfl) ?_
        exact vx_ret (W.iret (v := (-1500000)) hx hb hr (fun t ht hW => ⟨⟨(-1500000), (), rfl, rfl, ⟨by rw [ht]; exact hP, hD⟩⟩, hS.F ht⟩) hS.2.2 dL_normal_13 hlocks)
      · rw [if_neg k_4] at hm
        cases hm
  · rw [if_pos hw.1] at hm
    rw [show r = q_1.2.1 from hw.2]
    have hP : va_P (DG G) clP3 (wC G a q_1.2.2.1 q_1.2.2.2 U S D R M N P) H := by rw [← ht]; exact hB.1
    have hD : va_D A (wC G a q_1.2.2.1 q_1.2.2.2 U S D R M N P) := hB.2.weaken (fun _ p _ h => hFc p.1 h)
    refine W.widen (k := 2) (n := 12) (Nat.le_of_ble_eq_true rfl) (Nat.le_of_ble_eq_true rfl) ?_
    simp only [Option.some.injEq, Prod.mk.injEq] at hm
    obtain ⟨rfl, rfl, rfl⟩ := hm
    subst hAe
    refine W.widen (k := 2) (n := 12) (Nat.le_of_ble_eq_true rfl) (Nat.le_of_ble_eq_true rfl) ?_
    exact vx_ret (W.iret (v := q_1.2.1) hx hb hr (fun t ht hW => ⟨⟨q_1.2.1, (), rfl, rfl, ⟨by rw [ht]; exact hP, hD⟩⟩, hS.F ht⟩) hS.2.2 dL_normal_5 hlocks)
def f_L_typeOf (T : TS) (F : FS) (U : US) (S : SS) (D : DS) (N : NS) (P : PS) (p1 : Int32) : Option (Int32 × TS × FS × US) := (Option.bind (f_X11_typeOf T F U S D N P p1) (fun q_1 => (if q_1.1 = 0 then some (q_1.2.1, q_1.2.2.1, q_1.2.2.2.1, q_1.2.2.2.2) else (if q_1.1 = 3 then some ((-2500000), q_1.2.2.1, q_1.2.2.2.1, q_1.2.2.2.2) else (if q_1.1 = 5 then some ((-1500000), q_1.2.2.1, q_1.2.2.2.1, q_1.2.2.2.2) else none)))))
set_option maxHeartbeats 2000000 in
set_option maxRecDepth 100000 in
theorem k_L_typeOf (l : Launch) (hfl : l.stackTraces = false) (G : GC) (a : AS) (T : TS) (F : FS) (U : US) (S : SS) (D : DS) (R : RS) (M : MS) (N : NS) (P : PS) (hlk : lkA a D.1.toNatClampNeg D.2.1.toNatClampNeg) (p1 : Int32) (r9 : Int32) (T9 : TS) (F9 : FS) (U9 : US) (hm : f_L_typeOf T F U S D N P p1 = some (r9, T9, F9, U9)) (sz : Nat) : vx_Met l yL_typeOf (Cond.codeWith yL_typeOf cL_typeOf 3 (some .int) [(0, 5, 6, 32), (0, 5, 10, 70)] :: W0) ({ frames := 583, cells := 2, slots := 12, locals := 15268 }) (va_Pc [.ref (a.1 0), .int p1] (WD G (wC G a T F U S D R M N P) sz)) (va_Qi (S := Unit) (fun r _ => r = r9) (fun _ t => PW G (va_A (wC G a T F U S D R M N P) sz) (wC G a T9 F9 U9 S D R M N P) t) (va_A (wC G a T F U S D R M N P) sz)) (vx_X (fun _ : Unit => False) (fun (_ : String) (_ : Unit) (_ : State) => True) (va_A (wC G a T F U S D R M N P) sz)) 2 12 (va_A (wC G a T F U S D R M N P) sz) := by
  rw [f_L_typeOf] at hm
  refine vx_ofWH (cc := cL_typeOf) (maxL := 3) (ret := (some .int)) (hh := [(0, 5, 6, 32), (0, 5, 10, 70)]) (by decide) rfl ?_
  intro p e s m args below meth c s₁ B hml hv
  obtain ⟨rfl, hsz, hP, hK, hD0, hE⟩ := hv
  have hx := B.exec
  have hb := B.bytes
  have hr := B.returns
  have hts := w0_tail B.pre
  have hown : s.vm.findClass RL = some m.cls := findClass_of_methodNamed B.named
  have hlocks := B.notSynchronized
  have htab := vx_table (x := yL_typeOf) B (hts _ wm838)
  have hD := hD0.self (sz := sz)
  obtain ⟨A, hAe⟩ : ∃ A, (va_A (wC G a T F U S D R M N P) sz) = A := ⟨_, rfl⟩
  rw [hAe] at hD hE
  have hA : ∀ q : Nat, s.heap.size ≤ q → A q := fun q h => by rw [← hAe]; exact Or.inr (by rw [← hsz]; exact h)
  have hS : va_S A s.heap s.heap [] := va_S.rf
  obtain ⟨H, hHe⟩ : ∃ H : Heap, H = s.heap := ⟨_, rfl⟩
  have hP : va_P (DG G) clP3 (wC G a T F U S D R M N P) H := by rw [hHe]; exact hP
  have hS : va_S A s.heap H [] := by rw [hHe]; exact hS
  have hl := lv_entry ([.ref (a.1 0), .int p1]) (n := 3) (Nat.le_of_ble_eq_true rfl)
  rw [lg_entry_eq, ← hHe]
  generalize (lg_sl ([.ref (a.1 0), .int p1]) ++ List.replicate (3 - (lg_sl ([.ref (a.1 0), .int p1])).length) Slot.unset).toArray = ls at hl ⊢
  have hl : lv_has ls 3 [(0, .ref (a.1 0)), (1, .int p1)] := hl
  refine lv_aload_n hx hb dL_typeOf_0 rfl (lv_at hl 0 rfl) ?_
  refine lv_iload_n hx hb dL_typeOf_1 rfl (lv_at hl 1 rfl) ?_
  obtain ⟨q_1, hq_1, hm⟩ := bind_some hm
  have hFc := free_all hD hS hA
  refine vx_calli (vx_runV (As := [.int p1]) (rest := []) ⟨hx, hb, hml, hown, hts⟩ (k_X11_typeOf l hfl G a T F U S D R M N P hlk p1  q_1.1 q_1.2.1 q_1.2.2.1 q_1.2.2.2.1 q_1.2.2.2.2 hq_1 H.size) (cwV 1 hts (gV wm839 wm840 wm841 wm1 wm842) rfl rfl rfl (by decide +kernel) ⟨Nat.le_of_ble_eq_true rfl, Nat.le_of_ble_eq_true rfl⟩) (pre_v (pre_w hK hP hD hS hE hFc) (va_recv hK hP (ci := 10) (q0 := 0) rfl rfl)) rfl rfl hl.1 rfl (lv_room (Nat.le_of_ble_eq_true rfl)) dL_typeOf_2 ⟨Nat.le_of_ble_eq_true rfl, Nat.le_of_ble_eq_true rfl⟩) hS (fun q _ h => hFc q h) hFc (fun q _ h => hFc q h) (fun E ce q9 u_2 t H locs ht hvm hpx hBX hz1 hk1 hS hce hv9 hcl => ?_) (fun r u_2 t H locs ht hvm hw hB hz1 hk1 hS => ?_)
  · have hne : ¬ q_1.1 = 0 := xnm_ne hBX.1
    rw [if_neg hne] at hm
    have hX9 := hBX.1
    have hB := hBX.2
    have hP : va_P (DG G) clP3 (wC G a q_1.2.2.1 q_1.2.2.2.1 q_1.2.2.2.2 S D R M N P) H := by rw [← ht]; exact hB.1
    have hD : va_D A (wC G a q_1.2.2.1 q_1.2.2.2.1 q_1.2.2.2.2 S D R M N P) := hB.2.weaken (fun _ p _ h => hFc p.1 h)
    by_cases k_3 : q_1.1 = 3
    · rw [if_pos k_3] at hm
      rw [k_3] at hX9
      obtain rfl : "java/lang/IndexOutOfBoundsException" = E := Option.some.inj (xnm3.symm.trans hX9)
      refine vx_widen (k := 2) (n := 12) (Nat.le_of_ble_eq_true rfl) (Nat.le_of_ble_eq_true rfl) ?_
      refine vx_catch hown (tableOf []) ⟨0, 5, 6, 32⟩ (tableOf [(0, 5, 10, 70)]) (htab.trans rfl) xP0 (by decide) (by decide) (hts _ wm699) (va_Nw.use rfl (hE.1 _ nw325)) hce hv9 hcl ?_
      refine W.eq (g2 := F0 m 6 ls [.ref q9]) rfl ?_
      refine lv_astore_n (lv' := [(2, .ref q9), (0, .ref (a.1 0)), (1, .int p1)]) hx hb dL_typeOf_6 rfl hl (by decide) rfl (fun ls hl => ?_)
      refine lv_ldc (v := (-2500000)) hx hb hown (hts _ wm730) dL_typeOf_7 ?_
      simp only [Option.some.injEq, Prod.mk.injEq] at hm
      obtain ⟨rfl, rfl, rfl, rfl⟩ := hm
      subst hAe
      refine W.widen (k := 2) (n := 12) (Nat.le_of_ble_eq_true rfl) (Nat.le_of_ble_eq_true rfl) ?_
      exact vx_ret (W.iret (v := (-2500000)) hx hb hr (fun t ht hW => ⟨⟨(-2500000), (), rfl, rfl, ⟨by rw [ht]; exact hP, hD⟩⟩, hS.F ht⟩) hS.2.2 dL_typeOf_9 hlocks)
    · rw [if_neg k_3] at hm
      by_cases k_4 : q_1.1 = 5
      · rw [if_pos k_4] at hm
        rw [k_4] at hX9
        obtain rfl : "java/lang/UnsupportedOperationException" = E := Option.some.inj (xnm5.symm.trans hX9)
        refine vx_widen (k := 2) (n := 12) (Nat.le_of_ble_eq_true rfl) (Nat.le_of_ble_eq_true rfl) ?_
        refine vx_catch hown (tableOf [(0, 5, 6, 32)]) ⟨0, 5, 10, 70⟩ (tableOf []) (htab.trans rfl) (xPc (Or.inr ⟨by decide, _, hts _ wm699, hE.2.2.1 _ nc4⟩) xP0) (by decide) (by decide) (hts _ wm810) (va_Nw.use rfl (hE.1 _ nw821)) hce hv9 hcl ?_
        refine W.eq (g2 := F0 m 10 ls [.ref q9]) rfl ?_
        refine lv_astore_n (lv' := [(2, .ref q9), (0, .ref (a.1 0)), (1, .int p1)]) hx hb dL_typeOf_10 rfl hl (by decide) rfl (fun ls hl => ?_)
        refine lv_ldc (v := (-1500000)) hx hb hown (hts _ wm835) dL_typeOf_11 ?_
        simp only [Option.some.injEq, Prod.mk.injEq] at hm
        obtain ⟨rfl, rfl, rfl, rfl⟩ := hm
        subst hAe
        refine W.widen (k := 2) (n := 12) (Nat.le_of_ble_eq_true rfl) (Nat.le_of_ble_eq_true rfl) ?_
        exact vx_ret (W.iret (v := (-1500000)) hx hb hr (fun t ht hW => ⟨⟨(-1500000), (), rfl, rfl, ⟨by rw [ht]; exact hP, hD⟩⟩, hS.F ht⟩) hS.2.2 dL_typeOf_13 hlocks)
      · rw [if_neg k_4] at hm
        cases hm
  · rw [if_pos hw.1] at hm
    rw [show r = q_1.2.1 from hw.2]
    have hP : va_P (DG G) clP3 (wC G a q_1.2.2.1 q_1.2.2.2.1 q_1.2.2.2.2 S D R M N P) H := by rw [← ht]; exact hB.1
    have hD : va_D A (wC G a q_1.2.2.1 q_1.2.2.2.1 q_1.2.2.2.2 S D R M N P) := hB.2.weaken (fun _ p _ h => hFc p.1 h)
    refine W.widen (k := 2) (n := 12) (Nat.le_of_ble_eq_true rfl) (Nat.le_of_ble_eq_true rfl) ?_
    simp only [Option.some.injEq, Prod.mk.injEq] at hm
    obtain ⟨rfl, rfl, rfl, rfl⟩ := hm
    subst hAe
    refine W.widen (k := 2) (n := 12) (Nat.le_of_ble_eq_true rfl) (Nat.le_of_ble_eq_true rfl) ?_
    exact vx_ret (W.iret (v := q_1.2.1) hx hb hr (fun t ht hW => ⟨⟨q_1.2.1, (), rfl, rfl, ⟨by rw [ht]; exact hP, hD⟩⟩, hS.F ht⟩) hS.2.2 dL_typeOf_5 hlocks)
def f_L_level (T : TS) (F : FS) (U : US) (S : SS) (D : DS) (N : NS) (P : PS) (p1 : Int32) : Option (Int32 × TS × FS × US) := (Option.bind (f_X11_level T F U S D N P p1) (fun q_1 => (if q_1.1 = 0 then some (q_1.2.1, q_1.2.2.1, q_1.2.2.2.1, q_1.2.2.2.2) else (if q_1.1 = 3 then some ((-2500000), q_1.2.2.1, q_1.2.2.2.1, q_1.2.2.2.2) else (if q_1.1 = 5 then some ((-1500000), q_1.2.2.1, q_1.2.2.2.1, q_1.2.2.2.2) else none)))))
set_option maxHeartbeats 2000000 in
set_option maxRecDepth 100000 in
theorem k_L_level (l : Launch) (hfl : l.stackTraces = false) (G : GC) (a : AS) (T : TS) (F : FS) (U : US) (S : SS) (D : DS) (R : RS) (M : MS) (N : NS) (P : PS) (hlk : lkA a D.1.toNatClampNeg D.2.1.toNatClampNeg) (p1 : Int32) (r9 : Int32) (T9 : TS) (F9 : FS) (U9 : US) (hm : f_L_level T F U S D N P p1 = some (r9, T9, F9, U9)) (sz : Nat) : vx_Met l yL_level (Cond.codeWith yL_level cL_level 3 (some .int) [(0, 5, 6, 32), (0, 5, 10, 70)] :: W0) ({ frames := 583, cells := 2, slots := 12, locals := 15269 }) (va_Pc [.ref (a.1 0), .int p1] (WD G (wC G a T F U S D R M N P) sz)) (va_Qi (S := Unit) (fun r _ => r = r9) (fun _ t => PW G (va_A (wC G a T F U S D R M N P) sz) (wC G a T9 F9 U9 S D R M N P) t) (va_A (wC G a T F U S D R M N P) sz)) (vx_X (fun _ : Unit => False) (fun (_ : String) (_ : Unit) (_ : State) => True) (va_A (wC G a T F U S D R M N P) sz)) 2 12 (va_A (wC G a T F U S D R M N P) sz) := by
  rw [f_L_level] at hm
  refine vx_ofWH (cc := cL_level) (maxL := 3) (ret := (some .int)) (hh := [(0, 5, 6, 32), (0, 5, 10, 70)]) (by decide) rfl ?_
  intro p e s m args below meth c s₁ B hml hv
  obtain ⟨rfl, hsz, hP, hK, hD0, hE⟩ := hv
  have hx := B.exec
  have hb := B.bytes
  have hr := B.returns
  have hts := w0_tail B.pre
  have hown : s.vm.findClass RL = some m.cls := findClass_of_methodNamed B.named
  have hlocks := B.notSynchronized
  have htab := vx_table (x := yL_level) B (hts _ wm845)
  have hD := hD0.self (sz := sz)
  obtain ⟨A, hAe⟩ : ∃ A, (va_A (wC G a T F U S D R M N P) sz) = A := ⟨_, rfl⟩
  rw [hAe] at hD hE
  have hA : ∀ q : Nat, s.heap.size ≤ q → A q := fun q h => by rw [← hAe]; exact Or.inr (by rw [← hsz]; exact h)
  have hS : va_S A s.heap s.heap [] := va_S.rf
  obtain ⟨H, hHe⟩ : ∃ H : Heap, H = s.heap := ⟨_, rfl⟩
  have hP : va_P (DG G) clP3 (wC G a T F U S D R M N P) H := by rw [hHe]; exact hP
  have hS : va_S A s.heap H [] := by rw [hHe]; exact hS
  have hl := lv_entry ([.ref (a.1 0), .int p1]) (n := 3) (Nat.le_of_ble_eq_true rfl)
  rw [lg_entry_eq, ← hHe]
  generalize (lg_sl ([.ref (a.1 0), .int p1]) ++ List.replicate (3 - (lg_sl ([.ref (a.1 0), .int p1])).length) Slot.unset).toArray = ls at hl ⊢
  have hl : lv_has ls 3 [(0, .ref (a.1 0)), (1, .int p1)] := hl
  refine lv_aload_n hx hb dL_level_0 rfl (lv_at hl 0 rfl) ?_
  refine lv_iload_n hx hb dL_level_1 rfl (lv_at hl 1 rfl) ?_
  obtain ⟨q_1, hq_1, hm⟩ := bind_some hm
  have hFc := free_all hD hS hA
  refine vx_calli (vx_runV (As := [.int p1]) (rest := []) ⟨hx, hb, hml, hown, hts⟩ (k_X11_level l hfl G a T F U S D R M N P hlk p1  q_1.1 q_1.2.1 q_1.2.2.1 q_1.2.2.2.1 q_1.2.2.2.2 hq_1 H.size) (cwV 1 hts (gV wm846 wm847 wm848 wm1 wm849) rfl rfl rfl (by decide +kernel) ⟨Nat.le_of_ble_eq_true rfl, Nat.le_of_ble_eq_true rfl⟩) (pre_v (pre_w hK hP hD hS hE hFc) (va_recv hK hP (ci := 10) (q0 := 0) rfl rfl)) rfl rfl hl.1 rfl (lv_room (Nat.le_of_ble_eq_true rfl)) dL_level_2 ⟨Nat.le_of_ble_eq_true rfl, Nat.le_of_ble_eq_true rfl⟩) hS (fun q _ h => hFc q h) hFc (fun q _ h => hFc q h) (fun E ce q9 u_2 t H locs ht hvm hpx hBX hz1 hk1 hS hce hv9 hcl => ?_) (fun r u_2 t H locs ht hvm hw hB hz1 hk1 hS => ?_)
  · have hne : ¬ q_1.1 = 0 := xnm_ne hBX.1
    rw [if_neg hne] at hm
    have hX9 := hBX.1
    have hB := hBX.2
    have hP : va_P (DG G) clP3 (wC G a q_1.2.2.1 q_1.2.2.2.1 q_1.2.2.2.2 S D R M N P) H := by rw [← ht]; exact hB.1
    have hD : va_D A (wC G a q_1.2.2.1 q_1.2.2.2.1 q_1.2.2.2.2 S D R M N P) := hB.2.weaken (fun _ p _ h => hFc p.1 h)
    by_cases k_3 : q_1.1 = 3
    · rw [if_pos k_3] at hm
      rw [k_3] at hX9
      obtain rfl : "java/lang/IndexOutOfBoundsException" = E := Option.some.inj (xnm3.symm.trans hX9)
      refine vx_widen (k := 2) (n := 12) (Nat.le_of_ble_eq_true rfl) (Nat.le_of_ble_eq_true rfl) ?_
      refine vx_catch hown (tableOf []) ⟨0, 5, 6, 32⟩ (tableOf [(0, 5, 10, 70)]) (htab.trans rfl) xP0 (by decide) (by decide) (hts _ wm699) (va_Nw.use rfl (hE.1 _ nw325)) hce hv9 hcl ?_
      refine W.eq (g2 := F0 m 6 ls [.ref q9]) rfl ?_
      refine lv_astore_n (lv' := [(2, .ref q9), (0, .ref (a.1 0)), (1, .int p1)]) hx hb dL_level_6 rfl hl (by decide) rfl (fun ls hl => ?_)
      refine lv_ldc (v := (-2500000)) hx hb hown (hts _ wm730) dL_level_7 ?_
      simp only [Option.some.injEq, Prod.mk.injEq] at hm
      obtain ⟨rfl, rfl, rfl, rfl⟩ := hm
      subst hAe
      refine W.widen (k := 2) (n := 12) (Nat.le_of_ble_eq_true rfl) (Nat.le_of_ble_eq_true rfl) ?_
      exact vx_ret (W.iret (v := (-2500000)) hx hb hr (fun t ht hW => ⟨⟨(-2500000), (), rfl, rfl, ⟨by rw [ht]; exact hP, hD⟩⟩, hS.F ht⟩) hS.2.2 dL_level_9 hlocks)
    · rw [if_neg k_3] at hm
      by_cases k_4 : q_1.1 = 5
      · rw [if_pos k_4] at hm
        rw [k_4] at hX9
        obtain rfl : "java/lang/UnsupportedOperationException" = E := Option.some.inj (xnm5.symm.trans hX9)
        refine vx_widen (k := 2) (n := 12) (Nat.le_of_ble_eq_true rfl) (Nat.le_of_ble_eq_true rfl) ?_
        refine vx_catch hown (tableOf [(0, 5, 6, 32)]) ⟨0, 5, 10, 70⟩ (tableOf []) (htab.trans rfl) (xPc (Or.inr ⟨by decide, _, hts _ wm699, hE.2.2.1 _ nc4⟩) xP0) (by decide) (by decide) (hts _ wm810) (va_Nw.use rfl (hE.1 _ nw821)) hce hv9 hcl ?_
        refine W.eq (g2 := F0 m 10 ls [.ref q9]) rfl ?_
        refine lv_astore_n (lv' := [(2, .ref q9), (0, .ref (a.1 0)), (1, .int p1)]) hx hb dL_level_10 rfl hl (by decide) rfl (fun ls hl => ?_)
        refine lv_ldc (v := (-1500000)) hx hb hown (hts _ wm835) dL_level_11 ?_
        simp only [Option.some.injEq, Prod.mk.injEq] at hm
        obtain ⟨rfl, rfl, rfl, rfl⟩ := hm
        subst hAe
        refine W.widen (k := 2) (n := 12) (Nat.le_of_ble_eq_true rfl) (Nat.le_of_ble_eq_true rfl) ?_
        exact vx_ret (W.iret (v := (-1500000)) hx hb hr (fun t ht hW => ⟨⟨(-1500000), (), rfl, rfl, ⟨by rw [ht]; exact hP, hD⟩⟩, hS.F ht⟩) hS.2.2 dL_level_13 hlocks)
      · rw [if_neg k_4] at hm
        cases hm
  · rw [if_pos hw.1] at hm
    rw [show r = q_1.2.1 from hw.2]
    have hP : va_P (DG G) clP3 (wC G a q_1.2.2.1 q_1.2.2.2.1 q_1.2.2.2.2 S D R M N P) H := by rw [← ht]; exact hB.1
    have hD : va_D A (wC G a q_1.2.2.1 q_1.2.2.2.1 q_1.2.2.2.2 S D R M N P) := hB.2.weaken (fun _ p _ h => hFc p.1 h)
    refine W.widen (k := 2) (n := 12) (Nat.le_of_ble_eq_true rfl) (Nat.le_of_ble_eq_true rfl) ?_
    simp only [Option.some.injEq, Prod.mk.injEq] at hm
    obtain ⟨rfl, rfl, rfl, rfl⟩ := hm
    subst hAe
    refine W.widen (k := 2) (n := 12) (Nat.le_of_ble_eq_true rfl) (Nat.le_of_ble_eq_true rfl) ?_
    exact vx_ret (W.iret (v := q_1.2.1) hx hb hr (fun t ht hW => ⟨⟨q_1.2.1, (), rfl, rfl, ⟨by rw [ht]; exact hP, hD⟩⟩, hS.F ht⟩) hS.2.2 dL_level_5 hlocks)
def f_L_declare (T : TS) (F : FS) (U : US) (S : SS) (D : DS) (N : NS) (P : PS) (p1 : Int32) : Option (Int32 × TS × FS × US × DS × PS) := (Option.bind (f_X11_declare T F U S D N P p1) (fun q_1 => (if q_1.1 = 0 then some (q_1.2.1, q_1.2.2.1, q_1.2.2.2.1, q_1.2.2.2.2.1, q_1.2.2.2.2.2.1, q_1.2.2.2.2.2.2) else (if q_1.1 = 3 then some ((-2500000), q_1.2.2.1, q_1.2.2.2.1, q_1.2.2.2.2.1, q_1.2.2.2.2.2.1, q_1.2.2.2.2.2.2) else (if q_1.1 = 5 then some ((-1500000), q_1.2.2.1, q_1.2.2.2.1, q_1.2.2.2.2.1, q_1.2.2.2.2.2.1, q_1.2.2.2.2.2.2) else (if q_1.1 = 2 then some ((-1000000), q_1.2.2.1, q_1.2.2.2.1, q_1.2.2.2.2.1, q_1.2.2.2.2.2.1, q_1.2.2.2.2.2.2) else none))))))
set_option maxHeartbeats 2000000 in
set_option maxRecDepth 100000 in
theorem k_L_declare (l : Launch) (hfl : l.stackTraces = false) (G : GC) (a : AS) (T : TS) (F : FS) (U : US) (S : SS) (D : DS) (R : RS) (M : MS) (N : NS) (P : PS) (hlk : lkA a D.1.toNatClampNeg D.2.1.toNatClampNeg) (p1 : Int32) (r9 : Int32) (T9 : TS) (F9 : FS) (U9 : US) (D9 : DS) (P9 : PS) (hm : f_L_declare T F U S D N P p1 = some (r9, T9, F9, U9, D9, P9)) (sz : Nat) : vx_Met l yL_declare (Cond.codeWith yL_declare cL_declare 3 (some .int) [(0, 5, 6, 32), (0, 5, 10, 70), (0, 5, 14, 22)] :: W0) ({ frames := 583, cells := 6, slots := 147, locals := 15272 }) (va_Pc [.ref (a.1 0), .int p1] (WD G (wC G a T F U S D R M N P) sz)) (va_Qi (S := BS) (fun r _ => r = r9) (fun b2 t => lkA (a.1, b2) D9.1.toNatClampNeg D9.2.1.toNatClampNeg ∧ PW G (va_A (wC G a T F U S D R M N P) sz) (wC G (a.1, b2) T9 F9 U9 S D9 R M N P9) t) (va_A (wC G a T F U S D R M N P) sz)) (vx_X (fun _ : Unit => False) (fun (_ : String) (_ : Unit) (_ : State) => True) (va_A (wC G a T F U S D R M N P) sz)) 6 147 (va_A (wC G a T F U S D R M N P) sz) := by
  rw [f_L_declare] at hm
  refine vx_ofWH (cc := cL_declare) (maxL := 3) (ret := (some .int)) (hh := [(0, 5, 6, 32), (0, 5, 10, 70), (0, 5, 14, 22)]) (by decide) rfl ?_
  intro p e s m args below meth c s₁ B hml hv
  obtain ⟨rfl, hsz, hP, hK, hD0, hE⟩ := hv
  have hx := B.exec
  have hb := B.bytes
  have hr := B.returns
  have hts := w0_tail B.pre
  have hown : s.vm.findClass RL = some m.cls := findClass_of_methodNamed B.named
  have hlocks := B.notSynchronized
  have htab := vx_table (x := yL_declare) B (hts _ wm857)
  have hD := hD0.self (sz := sz)
  obtain ⟨A, hAe⟩ : ∃ A, (va_A (wC G a T F U S D R M N P) sz) = A := ⟨_, rfl⟩
  rw [hAe] at hD hE
  have hA : ∀ q : Nat, s.heap.size ≤ q → A q := fun q h => by rw [← hAe]; exact Or.inr (by rw [← hsz]; exact h)
  have hS : va_S A s.heap s.heap [] := va_S.rf
  obtain ⟨H, hHe⟩ : ∃ H : Heap, H = s.heap := ⟨_, rfl⟩
  have hP : va_P (DG G) clP3 (wC G a T F U S D R M N P) H := by rw [hHe]; exact hP
  have hS : va_S A s.heap H [] := by rw [hHe]; exact hS
  have hl := lv_entry ([.ref (a.1 0), .int p1]) (n := 3) (Nat.le_of_ble_eq_true rfl)
  rw [lg_entry_eq, ← hHe]
  generalize (lg_sl ([.ref (a.1 0), .int p1]) ++ List.replicate (3 - (lg_sl ([.ref (a.1 0), .int p1])).length) Slot.unset).toArray = ls at hl ⊢
  have hl : lv_has ls 3 [(0, .ref (a.1 0)), (1, .int p1)] := hl
  refine lv_aload_n hx hb dL_declare_0 rfl (lv_at hl 0 rfl) ?_
  refine lv_iload_n hx hb dL_declare_1 rfl (lv_at hl 1 rfl) ?_
  obtain ⟨q_1, hq_1, hm⟩ := bind_some hm
  have hFc := free_all hD hS hA
  refine vx_calli (vx_runV (As := [.int p1]) (rest := []) ⟨hx, hb, hml, hown, hts⟩ (k_X11_declare l hfl G a T F U S D R M N P hlk p1  q_1.1 q_1.2.1 q_1.2.2.1 q_1.2.2.2.1 q_1.2.2.2.2.1 q_1.2.2.2.2.2.1 q_1.2.2.2.2.2.2 hq_1 H.size) (cwV 1 hts (gV wm858 wm859 wm860 wm1 wm861) rfl rfl rfl (by decide +kernel) ⟨Nat.le_of_ble_eq_true rfl, Nat.le_of_ble_eq_true rfl⟩) (pre_v (pre_w hK hP hD hS hE hFc) (va_recv hK hP (ci := 10) (q0 := 0) rfl rfl)) rfl rfl hl.1 rfl (lv_room (Nat.le_of_ble_eq_true rfl)) dL_declare_2 ⟨Nat.le_of_ble_eq_true rfl, Nat.le_of_ble_eq_true rfl⟩) hS (fun q _ h => hFc q h) hFc (fun q _ h => hFc q h) (fun E ce q9 u_2 t H locs ht hvm hpx hBX hz1 hk1 hS hce hv9 hcl => ?_) (fun r u_2 t H locs ht hvm hw hB hz1 hk1 hS => ?_)
  · have hne : ¬ q_1.1 = 0 := xnm_ne hBX.1
    rw [if_neg hne] at hm
    have hX9 := hBX.1
    have hB := hBX.2
    have hlk9 := hB.1
    have hlk : lkA (a.1, u_2) (Int32.toNatClampNeg q_1.2.2.2.2.2.1.1) (Int32.toNatClampNeg q_1.2.2.2.2.2.1.2.1) := hlk9
    have hP : va_P (DG G) clP3 (wC G (a.1, u_2) q_1.2.2.1 q_1.2.2.2.1 q_1.2.2.2.2.1 S q_1.2.2.2.2.2.1 R M N q_1.2.2.2.2.2.2) H := by rw [← ht]; exact hB.2.1
    have hD : va_D A (wC G (a.1, u_2) q_1.2.2.1 q_1.2.2.2.1 q_1.2.2.2.2.1 S q_1.2.2.2.2.2.1 R M N q_1.2.2.2.2.2.2) := hB.2.2.weaken (fun _ p _ h => hFc p.1 h)
    by_cases k_3 : q_1.1 = 3
    · rw [if_pos k_3] at hm
      rw [k_3] at hX9
      obtain rfl : "java/lang/IndexOutOfBoundsException" = E := Option.some.inj (xnm3.symm.trans hX9)
      refine vx_widen (k := 6) (n := 147) (Nat.le_of_ble_eq_true rfl) (Nat.le_of_ble_eq_true rfl) ?_
      refine vx_catch hown (tableOf []) ⟨0, 5, 6, 32⟩ (tableOf [(0, 5, 10, 70), (0, 5, 14, 22)]) (htab.trans rfl) xP0 (by decide) (by decide) (hts _ wm699) (va_Nw.use rfl (hE.1 _ nw325)) hce hv9 hcl ?_
      refine W.eq (g2 := F0 m 6 ls [.ref q9]) rfl ?_
      refine lv_astore_n (lv' := [(2, .ref q9), (0, .ref (a.1 0)), (1, .int p1)]) hx hb dL_declare_6 rfl hl (by decide) rfl (fun ls hl => ?_)
      refine lv_ldc (v := (-2500000)) hx hb hown (hts _ wm730) dL_declare_7 ?_
      simp only [Option.some.injEq, Prod.mk.injEq] at hm
      obtain ⟨rfl, rfl, rfl, rfl, rfl, rfl⟩ := hm
      subst hAe
      refine W.widen (k := 6) (n := 147) (Nat.le_of_ble_eq_true rfl) (Nat.le_of_ble_eq_true rfl) ?_
      exact vx_ret (W.iret (v := (-2500000)) hx hb hr (fun t ht hW => ⟨⟨(-2500000), u_2, rfl, rfl, ⟨hlk9, by rw [ht]; exact hP, hD⟩⟩, hS.F ht⟩) hS.2.2 dL_declare_9 hlocks)
    · rw [if_neg k_3] at hm
      by_cases k_4 : q_1.1 = 5
      · rw [if_pos k_4] at hm
        rw [k_4] at hX9
        obtain rfl : "java/lang/UnsupportedOperationException" = E := Option.some.inj (xnm5.symm.trans hX9)
        refine vx_widen (k := 6) (n := 147) (Nat.le_of_ble_eq_true rfl) (Nat.le_of_ble_eq_true rfl) ?_
        refine vx_catch hown (tableOf [(0, 5, 6, 32)]) ⟨0, 5, 10, 70⟩ (tableOf [(0, 5, 14, 22)]) (htab.trans rfl) (xPc (Or.inr ⟨by decide, _, hts _ wm699, hE.2.2.1 _ nc4⟩) xP0) (by decide) (by decide) (hts _ wm810) (va_Nw.use rfl (hE.1 _ nw821)) hce hv9 hcl ?_
        refine W.eq (g2 := F0 m 10 ls [.ref q9]) rfl ?_
        refine lv_astore_n (lv' := [(2, .ref q9), (0, .ref (a.1 0)), (1, .int p1)]) hx hb dL_declare_10 rfl hl (by decide) rfl (fun ls hl => ?_)
        refine lv_ldc (v := (-1500000)) hx hb hown (hts _ wm835) dL_declare_11 ?_
        simp only [Option.some.injEq, Prod.mk.injEq] at hm
        obtain ⟨rfl, rfl, rfl, rfl, rfl, rfl⟩ := hm
        subst hAe
        refine W.widen (k := 6) (n := 147) (Nat.le_of_ble_eq_true rfl) (Nat.le_of_ble_eq_true rfl) ?_
        exact vx_ret (W.iret (v := (-1500000)) hx hb hr (fun t ht hW => ⟨⟨(-1500000), u_2, rfl, rfl, ⟨hlk9, by rw [ht]; exact hP, hD⟩⟩, hS.F ht⟩) hS.2.2 dL_declare_13 hlocks)
      · rw [if_neg k_4] at hm
        by_cases k_5 : q_1.1 = 2
        · rw [if_pos k_5] at hm
          rw [k_5] at hX9
          obtain rfl : "java/lang/IllegalStateException" = E := Option.some.inj (xnm2.symm.trans hX9)
          refine vx_widen (k := 6) (n := 147) (Nat.le_of_ble_eq_true rfl) (Nat.le_of_ble_eq_true rfl) ?_
          refine vx_catch hown (tableOf [(0, 5, 6, 32), (0, 5, 10, 70)]) ⟨0, 5, 14, 22⟩ (tableOf []) (htab.trans rfl) (xPc (Or.inr ⟨by decide, _, hts _ wm699, hE.2.2.1 _ nc1⟩) (xPc (Or.inr ⟨by decide, _, hts _ wm810, hE.2.2.1 _ nc5⟩) xP0)) (by decide) (by decide) (hts _ wm644) (va_Nw.use rfl (hE.1 _ nw671)) hce hv9 hcl ?_
          refine W.eq (g2 := F0 m 14 ls [.ref q9]) rfl ?_
          refine lv_astore_n (lv' := [(2, .ref q9), (0, .ref (a.1 0)), (1, .int p1)]) hx hb dL_declare_14 rfl hl (by decide) rfl (fun ls hl => ?_)
          refine lv_ldc (v := (-1000000)) hx hb hown (hts _ wm687) dL_declare_15 ?_
          simp only [Option.some.injEq, Prod.mk.injEq] at hm
          obtain ⟨rfl, rfl, rfl, rfl, rfl, rfl⟩ := hm
          subst hAe
          refine W.widen (k := 6) (n := 147) (Nat.le_of_ble_eq_true rfl) (Nat.le_of_ble_eq_true rfl) ?_
          exact vx_ret (W.iret (v := (-1000000)) hx hb hr (fun t ht hW => ⟨⟨(-1000000), u_2, rfl, rfl, ⟨hlk9, by rw [ht]; exact hP, hD⟩⟩, hS.F ht⟩) hS.2.2 dL_declare_17 hlocks)
        · rw [if_neg k_5] at hm
          cases hm
  · rw [if_pos hw.1] at hm
    rw [show r = q_1.2.1 from hw.2]
    have hlk9 := hB.1
    have hlk : lkA (a.1, u_2) (Int32.toNatClampNeg q_1.2.2.2.2.2.1.1) (Int32.toNatClampNeg q_1.2.2.2.2.2.1.2.1) := hlk9
    have hP : va_P (DG G) clP3 (wC G (a.1, u_2) q_1.2.2.1 q_1.2.2.2.1 q_1.2.2.2.2.1 S q_1.2.2.2.2.2.1 R M N q_1.2.2.2.2.2.2) H := by rw [← ht]; exact hB.2.1
    have hD : va_D A (wC G (a.1, u_2) q_1.2.2.1 q_1.2.2.2.1 q_1.2.2.2.2.1 S q_1.2.2.2.2.2.1 R M N q_1.2.2.2.2.2.2) := hB.2.2.weaken (fun _ p _ h => hFc p.1 h)
    refine W.widen (k := 6) (n := 147) (Nat.le_of_ble_eq_true rfl) (Nat.le_of_ble_eq_true rfl) ?_
    simp only [Option.some.injEq, Prod.mk.injEq] at hm
    obtain ⟨rfl, rfl, rfl, rfl, rfl, rfl⟩ := hm
    subst hAe
    refine W.widen (k := 6) (n := 147) (Nat.le_of_ble_eq_true rfl) (Nat.le_of_ble_eq_true rfl) ?_
    exact vx_ret (W.iret (v := q_1.2.1) hx hb hr (fun t ht hW => ⟨⟨q_1.2.1, u_2, rfl, rfl, ⟨hlk9, by rw [ht]; exact hP, hD⟩⟩, hS.F ht⟩) hS.2.2 dL_declare_5 hlocks)
def f_L_split (T : TS) (F : FS) (S : SS) (D : DS) (P : PS) (p1 : Int32) (p2 : Int32) : Option (Int32 × TS × FS × SS × DS × PS) := (Option.bind (f_X11_split T F S D P p1 p2) (fun q_1 => (if q_1.1 = 0 then some (q_1.2.1, q_1.2.2.1, q_1.2.2.2.1, q_1.2.2.2.2.1, q_1.2.2.2.2.2.1, q_1.2.2.2.2.2.2) else (if q_1.1 = 4 then some ((-3000000), q_1.2.2.1, q_1.2.2.2.1, q_1.2.2.2.2.1, q_1.2.2.2.2.2.1, q_1.2.2.2.2.2.2) else (if q_1.1 = 3 then some ((-2500000), q_1.2.2.1, q_1.2.2.2.1, q_1.2.2.2.2.1, q_1.2.2.2.2.2.1, q_1.2.2.2.2.2.2) else (if q_1.1 = 2 then some ((-1000000), q_1.2.2.1, q_1.2.2.2.1, q_1.2.2.2.2.1, q_1.2.2.2.2.2.1, q_1.2.2.2.2.2.2) else (if q_1.1 = 5 then some ((-1500000), q_1.2.2.1, q_1.2.2.2.1, q_1.2.2.2.2.1, q_1.2.2.2.2.2.1, q_1.2.2.2.2.2.2) else none)))))))
set_option maxHeartbeats 2000000 in
set_option maxRecDepth 100000 in
theorem k_L_split (l : Launch) (hfl : l.stackTraces = false) (G : GC) (a : AS) (T : TS) (F : FS) (U : US) (S : SS) (D : DS) (R : RS) (M : MS) (N : NS) (P : PS) (hlk : lkA a D.1.toNatClampNeg D.2.1.toNatClampNeg) (p1 : Int32) (p2 : Int32) (r9 : Int32) (T9 : TS) (F9 : FS) (S9 : SS) (D9 : DS) (P9 : PS) (hm : f_L_split T F S D P p1 p2 = some (r9, T9, F9, S9, D9, P9)) (sz : Nat) : vx_Met l yL_split (Cond.codeWith yL_split cL_split 4 (some .int) [(0, 6, 7, 44), (0, 6, 11, 32), (0, 6, 15, 22), (0, 6, 19, 70)] :: W0) ({ frames := 409, cells := 167, slots := 5676, locals := 10625 }) (va_Pc [.ref (a.1 0), .int p1, .int p2] (WD G (wC G a T F U S D R M N P) sz)) (va_Qi (S := BS) (fun r _ => r = r9) (fun b2 t => lkA (a.1, b2) D9.1.toNatClampNeg D9.2.1.toNatClampNeg ∧ PW G (va_A (wC G a T F U S D R M N P) sz) (wC G (a.1, b2) T9 F9 U S9 D9 R M N P9) t) (va_A (wC G a T F U S D R M N P) sz)) (vx_X (fun _ : Unit => False) (fun (_ : String) (_ : Unit) (_ : State) => True) (va_A (wC G a T F U S D R M N P) sz)) 167 5676 (va_A (wC G a T F U S D R M N P) sz) := by
  rw [f_L_split] at hm
  refine vx_ofWH (cc := cL_split) (maxL := 4) (ret := (some .int)) (hh := [(0, 6, 7, 44), (0, 6, 11, 32), (0, 6, 15, 22), (0, 6, 19, 70)]) (by decide) rfl ?_
  intro p e s m args below meth c s₁ B hml hv
  obtain ⟨rfl, hsz, hP, hK, hD0, hE⟩ := hv
  have hx := B.exec
  have hb := B.bytes
  have hr := B.returns
  have hts := w0_tail B.pre
  have hown : s.vm.findClass RL = some m.cls := findClass_of_methodNamed B.named
  have hlocks := B.notSynchronized
  have htab := vx_table (x := yL_split) B (hts _ wm951)
  have hD := hD0.self (sz := sz)
  obtain ⟨A, hAe⟩ : ∃ A, (va_A (wC G a T F U S D R M N P) sz) = A := ⟨_, rfl⟩
  rw [hAe] at hD hE
  have hA : ∀ q : Nat, s.heap.size ≤ q → A q := fun q h => by rw [← hAe]; exact Or.inr (by rw [← hsz]; exact h)
  have hS : va_S A s.heap s.heap [] := va_S.rf
  obtain ⟨H, hHe⟩ : ∃ H : Heap, H = s.heap := ⟨_, rfl⟩
  have hP : va_P (DG G) clP3 (wC G a T F U S D R M N P) H := by rw [hHe]; exact hP
  have hS : va_S A s.heap H [] := by rw [hHe]; exact hS
  have hl := lv_entry ([.ref (a.1 0), .int p1, .int p2]) (n := 4) (Nat.le_of_ble_eq_true rfl)
  rw [lg_entry_eq, ← hHe]
  generalize (lg_sl ([.ref (a.1 0), .int p1, .int p2]) ++ List.replicate (4 - (lg_sl ([.ref (a.1 0), .int p1, .int p2])).length) Slot.unset).toArray = ls at hl ⊢
  have hl : lv_has ls 4 [(0, .ref (a.1 0)), (1, .int p1), (2, .int p2)] := hl
  refine lv_aload_n hx hb dL_split_0 rfl (lv_at hl 0 rfl) ?_
  refine lv_iload_n hx hb dL_split_1 rfl (lv_at hl 1 rfl) ?_
  refine lv_iload_n hx hb dL_split_2 rfl (lv_at hl 2 rfl) ?_
  obtain ⟨q_1, hq_1, hm⟩ := bind_some hm
  have hFc := free_all hD hS hA
  refine vx_calli (vx_runV (As := [.int p1, .int p2]) (rest := []) ⟨hx, hb, hml, hown, hts⟩ (k_X11_split l hfl G a T F U S D R M N P hlk p1 p2  q_1.1 q_1.2.1 q_1.2.2.1 q_1.2.2.2.1 q_1.2.2.2.2.1 q_1.2.2.2.2.2.1 q_1.2.2.2.2.2.2 hq_1 H.size) (cwV 2 hts (gV wm952 wm953 wm954 wm1 wm955) rfl rfl rfl (by decide +kernel) ⟨Nat.le_of_ble_eq_true rfl, Nat.le_of_ble_eq_true rfl⟩) (pre_v (pre_w hK hP hD hS hE hFc) (va_recv hK hP (ci := 10) (q0 := 0) rfl rfl)) rfl rfl hl.1 rfl (lv_room (Nat.le_of_ble_eq_true rfl)) dL_split_3 ⟨Nat.le_of_ble_eq_true rfl, Nat.le_of_ble_eq_true rfl⟩) hS (fun q _ h => hFc q h) hFc (fun q _ h => hFc q h) (fun E ce q9 u_2 t H locs ht hvm hpx hBX hz1 hk1 hS hce hv9 hcl => ?_) (fun r u_2 t H locs ht hvm hw hB hz1 hk1 hS => ?_)
  · have hne : ¬ q_1.1 = 0 := xnm_ne hBX.1
    rw [if_neg hne] at hm
    have hX9 := hBX.1
    have hB := hBX.2
    have hlk9 := hB.1
    have hlk : lkA (a.1, u_2) (Int32.toNatClampNeg q_1.2.2.2.2.2.1.1) (Int32.toNatClampNeg q_1.2.2.2.2.2.1.2.1) := hlk9
    have hP : va_P (DG G) clP3 (wC G (a.1, u_2) q_1.2.2.1 q_1.2.2.2.1 U q_1.2.2.2.2.1 q_1.2.2.2.2.2.1 R M N q_1.2.2.2.2.2.2) H := by rw [← ht]; exact hB.2.1
    have hD : va_D A (wC G (a.1, u_2) q_1.2.2.1 q_1.2.2.2.1 U q_1.2.2.2.2.1 q_1.2.2.2.2.2.1 R M N q_1.2.2.2.2.2.2) := hB.2.2.weaken (fun _ p _ h => hFc p.1 h)
    by_cases k_3 : q_1.1 = 4
    · rw [if_pos k_3] at hm
      rw [k_3] at hX9
      obtain rfl : "java/util/NoSuchElementException" = E := Option.some.inj (xnm4.symm.trans hX9)
      refine vx_widen (k := 167) (n := 5676) (Nat.le_of_ble_eq_true rfl) (Nat.le_of_ble_eq_true rfl) ?_
      refine vx_catch hown (tableOf []) ⟨0, 6, 7, 44⟩ (tableOf [(0, 6, 11, 32), (0, 6, 15, 22), (0, 6, 19, 70)]) (htab.trans rfl) xP0 (by decide) (by decide) (hts _ wm748) (va_Nw.use rfl (hE.1 _ nw578)) hce hv9 hcl ?_
      refine W.eq (g2 := F0 m 7 ls [.ref q9]) rfl ?_
      refine lv_astore_n (lv' := [(3, .ref q9), (0, .ref (a.1 0)), (1, .int p1), (2, .int p2)]) hx hb dL_split_7 rfl hl (by decide) rfl (fun ls hl => ?_)
      refine lv_ldc (v := (-3000000)) hx hb hown (hts _ wm758) dL_split_8 ?_
      simp only [Option.some.injEq, Prod.mk.injEq] at hm
      obtain ⟨rfl, rfl, rfl, rfl, rfl, rfl⟩ := hm
      subst hAe
      refine W.widen (k := 167) (n := 5676) (Nat.le_of_ble_eq_true rfl) (Nat.le_of_ble_eq_true rfl) ?_
      exact vx_ret (W.iret (v := (-3000000)) hx hb hr (fun t ht hW => ⟨⟨(-3000000), u_2, rfl, rfl, ⟨hlk9, by rw [ht]; exact hP, hD⟩⟩, hS.F ht⟩) hS.2.2 dL_split_10 hlocks)
    · rw [if_neg k_3] at hm
      by_cases k_4 : q_1.1 = 3
      · rw [if_pos k_4] at hm
        rw [k_4] at hX9
        obtain rfl : "java/lang/IndexOutOfBoundsException" = E := Option.some.inj (xnm3.symm.trans hX9)
        refine vx_widen (k := 167) (n := 5676) (Nat.le_of_ble_eq_true rfl) (Nat.le_of_ble_eq_true rfl) ?_
        refine vx_catch hown (tableOf [(0, 6, 7, 44)]) ⟨0, 6, 11, 32⟩ (tableOf [(0, 6, 15, 22), (0, 6, 19, 70)]) (htab.trans rfl) (xPc (Or.inr ⟨by decide, _, hts _ wm748, hE.2.2.1 _ nc6⟩) xP0) (by decide) (by decide) (hts _ wm699) (va_Nw.use rfl (hE.1 _ nw325)) hce hv9 hcl ?_
        refine W.eq (g2 := F0 m 11 ls [.ref q9]) rfl ?_
        refine lv_astore_n (lv' := [(3, .ref q9), (0, .ref (a.1 0)), (1, .int p1), (2, .int p2)]) hx hb dL_split_11 rfl hl (by decide) rfl (fun ls hl => ?_)
        refine lv_ldc (v := (-2500000)) hx hb hown (hts _ wm730) dL_split_12 ?_
        simp only [Option.some.injEq, Prod.mk.injEq] at hm
        obtain ⟨rfl, rfl, rfl, rfl, rfl, rfl⟩ := hm
        subst hAe
        refine W.widen (k := 167) (n := 5676) (Nat.le_of_ble_eq_true rfl) (Nat.le_of_ble_eq_true rfl) ?_
        exact vx_ret (W.iret (v := (-2500000)) hx hb hr (fun t ht hW => ⟨⟨(-2500000), u_2, rfl, rfl, ⟨hlk9, by rw [ht]; exact hP, hD⟩⟩, hS.F ht⟩) hS.2.2 dL_split_14 hlocks)
      · rw [if_neg k_4] at hm
        by_cases k_5 : q_1.1 = 2
        · rw [if_pos k_5] at hm
          rw [k_5] at hX9
          obtain rfl : "java/lang/IllegalStateException" = E := Option.some.inj (xnm2.symm.trans hX9)
          refine vx_widen (k := 167) (n := 5676) (Nat.le_of_ble_eq_true rfl) (Nat.le_of_ble_eq_true rfl) ?_
          refine vx_catch hown (tableOf [(0, 6, 7, 44), (0, 6, 11, 32)]) ⟨0, 6, 15, 22⟩ (tableOf [(0, 6, 19, 70)]) (htab.trans rfl) (xPc (Or.inr ⟨by decide, _, hts _ wm748, hE.2.2.1 _ nc2⟩) (xPc (Or.inr ⟨by decide, _, hts _ wm699, hE.2.2.1 _ nc1⟩) xP0)) (by decide) (by decide) (hts _ wm644) (va_Nw.use rfl (hE.1 _ nw671)) hce hv9 hcl ?_
          refine W.eq (g2 := F0 m 15 ls [.ref q9]) rfl ?_
          refine lv_astore_n (lv' := [(3, .ref q9), (0, .ref (a.1 0)), (1, .int p1), (2, .int p2)]) hx hb dL_split_15 rfl hl (by decide) rfl (fun ls hl => ?_)
          refine lv_ldc (v := (-1000000)) hx hb hown (hts _ wm687) dL_split_16 ?_
          simp only [Option.some.injEq, Prod.mk.injEq] at hm
          obtain ⟨rfl, rfl, rfl, rfl, rfl, rfl⟩ := hm
          subst hAe
          refine W.widen (k := 167) (n := 5676) (Nat.le_of_ble_eq_true rfl) (Nat.le_of_ble_eq_true rfl) ?_
          exact vx_ret (W.iret (v := (-1000000)) hx hb hr (fun t ht hW => ⟨⟨(-1000000), u_2, rfl, rfl, ⟨hlk9, by rw [ht]; exact hP, hD⟩⟩, hS.F ht⟩) hS.2.2 dL_split_18 hlocks)
        · rw [if_neg k_5] at hm
          by_cases k_6 : q_1.1 = 5
          · rw [if_pos k_6] at hm
            rw [k_6] at hX9
            obtain rfl : "java/lang/UnsupportedOperationException" = E := Option.some.inj (xnm5.symm.trans hX9)
            refine vx_widen (k := 167) (n := 5676) (Nat.le_of_ble_eq_true rfl) (Nat.le_of_ble_eq_true rfl) ?_
            refine vx_catch hown (tableOf [(0, 6, 7, 44), (0, 6, 11, 32), (0, 6, 15, 22)]) ⟨0, 6, 19, 70⟩ (tableOf []) (htab.trans rfl) (xPc (Or.inr ⟨by decide, _, hts _ wm748, hE.2.2.1 _ nc8⟩) (xPc (Or.inr ⟨by decide, _, hts _ wm699, hE.2.2.1 _ nc4⟩) (xPc (Or.inr ⟨by decide, _, hts _ wm644, hE.2.2.1 _ nc7⟩) xP0))) (by decide) (by decide) (hts _ wm810) (va_Nw.use rfl (hE.1 _ nw821)) hce hv9 hcl ?_
            refine W.eq (g2 := F0 m 19 ls [.ref q9]) rfl ?_
            refine lv_astore_n (lv' := [(3, .ref q9), (0, .ref (a.1 0)), (1, .int p1), (2, .int p2)]) hx hb dL_split_19 rfl hl (by decide) rfl (fun ls hl => ?_)
            refine lv_ldc (v := (-1500000)) hx hb hown (hts _ wm835) dL_split_20 ?_
            simp only [Option.some.injEq, Prod.mk.injEq] at hm
            obtain ⟨rfl, rfl, rfl, rfl, rfl, rfl⟩ := hm
            subst hAe
            refine W.widen (k := 167) (n := 5676) (Nat.le_of_ble_eq_true rfl) (Nat.le_of_ble_eq_true rfl) ?_
            exact vx_ret (W.iret (v := (-1500000)) hx hb hr (fun t ht hW => ⟨⟨(-1500000), u_2, rfl, rfl, ⟨hlk9, by rw [ht]; exact hP, hD⟩⟩, hS.F ht⟩) hS.2.2 dL_split_22 hlocks)
          · rw [if_neg k_6] at hm
            cases hm
  · rw [if_pos hw.1] at hm
    rw [show r = q_1.2.1 from hw.2]
    have hlk9 := hB.1
    have hlk : lkA (a.1, u_2) (Int32.toNatClampNeg q_1.2.2.2.2.2.1.1) (Int32.toNatClampNeg q_1.2.2.2.2.2.1.2.1) := hlk9
    have hP : va_P (DG G) clP3 (wC G (a.1, u_2) q_1.2.2.1 q_1.2.2.2.1 U q_1.2.2.2.2.1 q_1.2.2.2.2.2.1 R M N q_1.2.2.2.2.2.2) H := by rw [← ht]; exact hB.2.1
    have hD : va_D A (wC G (a.1, u_2) q_1.2.2.1 q_1.2.2.2.1 U q_1.2.2.2.2.1 q_1.2.2.2.2.2.1 R M N q_1.2.2.2.2.2.2) := hB.2.2.weaken (fun _ p _ h => hFc p.1 h)
    refine W.widen (k := 167) (n := 5676) (Nat.le_of_ble_eq_true rfl) (Nat.le_of_ble_eq_true rfl) ?_
    simp only [Option.some.injEq, Prod.mk.injEq] at hm
    obtain ⟨rfl, rfl, rfl, rfl, rfl, rfl⟩ := hm
    subst hAe
    refine W.widen (k := 167) (n := 5676) (Nat.le_of_ble_eq_true rfl) (Nat.le_of_ble_eq_true rfl) ?_
    exact vx_ret (W.iret (v := q_1.2.1) hx hb hr (fun t ht hW => ⟨⟨q_1.2.1, u_2, rfl, rfl, ⟨hlk9, by rw [ht]; exact hP, hD⟩⟩, hS.F ht⟩) hS.2.2 dL_split_6 hlocks)
def f_L_fill (T : TS) (F : FS) (U : US) (S : SS) (D : DS) (N : NS) (P : PS) (p1 : Int32) (p2 : Int32) : Option (Int32 × TS × FS × US × PS) := (Option.bind (f_X11_fill T F U S D N P p1 p2) (fun q_1 => (if q_1.1 = 0 then some (q_1.2.1, q_1.2.2.1, q_1.2.2.2.1, q_1.2.2.2.2.1, q_1.2.2.2.2.2) else (if q_1.1 = 4 then some ((-3000000), q_1.2.2.1, q_1.2.2.2.1, q_1.2.2.2.2.1, q_1.2.2.2.2.2) else (if q_1.1 = 3 then some ((-2500000), q_1.2.2.1, q_1.2.2.2.1, q_1.2.2.2.2.1, q_1.2.2.2.2.2) else (if q_1.1 = 2 then some ((-1000000), q_1.2.2.1, q_1.2.2.2.1, q_1.2.2.2.2.1, q_1.2.2.2.2.2) else (if q_1.1 = 5 then some ((-1500000), q_1.2.2.1, q_1.2.2.2.1, q_1.2.2.2.2.1, q_1.2.2.2.2.2) else none)))))))
set_option maxHeartbeats 2000000 in
set_option maxRecDepth 100000 in
theorem k_L_fill (l : Launch) (hfl : l.stackTraces = false) (G : GC) (a : AS) (T : TS) (F : FS) (U : US) (S : SS) (D : DS) (R : RS) (M : MS) (N : NS) (P : PS) (hlk : lkA a D.1.toNatClampNeg D.2.1.toNatClampNeg) (p1 : Int32) (p2 : Int32) (r9 : Int32) (T9 : TS) (F9 : FS) (U9 : US) (P9 : PS) (hm : f_L_fill T F U S D N P p1 p2 = some (r9, T9, F9, U9, P9)) (sz : Nat) : vx_Met l yL_fill (Cond.codeWith yL_fill cL_fill 4 (some .int) [(0, 6, 7, 44), (0, 6, 11, 32), (0, 6, 15, 22), (0, 6, 19, 70)] :: W0) ({ frames := 583, cells := 4, slots := 24, locals := 15273 }) (va_Pc [.ref (a.1 0), .int p1, .int p2] (WD G (wC G a T F U S D R M N P) sz)) (va_Qi (S := Unit) (fun r _ => r = r9) (fun _ t => PW G (va_A (wC G a T F U S D R M N P) sz) (wC G a T9 F9 U9 S D R M N P9) t) (va_A (wC G a T F U S D R M N P) sz)) (vx_X (fun _ : Unit => False) (fun (_ : String) (_ : Unit) (_ : State) => True) (va_A (wC G a T F U S D R M N P) sz)) 4 24 (va_A (wC G a T F U S D R M N P) sz) := by
  rw [f_L_fill] at hm
  refine vx_ofWH (cc := cL_fill) (maxL := 4) (ret := (some .int)) (hh := [(0, 6, 7, 44), (0, 6, 11, 32), (0, 6, 15, 22), (0, 6, 19, 70)]) (by decide) rfl ?_
  intro p e s m args below meth c s₁ B hml hv
  obtain ⟨rfl, hsz, hP, hK, hD0, hE⟩ := hv
  have hx := B.exec
  have hb := B.bytes
  have hr := B.returns
  have hts := w0_tail B.pre
  have hown : s.vm.findClass RL = some m.cls := findClass_of_methodNamed B.named
  have hlocks := B.notSynchronized
  have htab := vx_table (x := yL_fill) B (hts _ wm1021)
  have hD := hD0.self (sz := sz)
  obtain ⟨A, hAe⟩ : ∃ A, (va_A (wC G a T F U S D R M N P) sz) = A := ⟨_, rfl⟩
  rw [hAe] at hD hE
  have hA : ∀ q : Nat, s.heap.size ≤ q → A q := fun q h => by rw [← hAe]; exact Or.inr (by rw [← hsz]; exact h)
  have hS : va_S A s.heap s.heap [] := va_S.rf
  obtain ⟨H, hHe⟩ : ∃ H : Heap, H = s.heap := ⟨_, rfl⟩
  have hP : va_P (DG G) clP3 (wC G a T F U S D R M N P) H := by rw [hHe]; exact hP
  have hS : va_S A s.heap H [] := by rw [hHe]; exact hS
  have hl := lv_entry ([.ref (a.1 0), .int p1, .int p2]) (n := 4) (Nat.le_of_ble_eq_true rfl)
  rw [lg_entry_eq, ← hHe]
  generalize (lg_sl ([.ref (a.1 0), .int p1, .int p2]) ++ List.replicate (4 - (lg_sl ([.ref (a.1 0), .int p1, .int p2])).length) Slot.unset).toArray = ls at hl ⊢
  have hl : lv_has ls 4 [(0, .ref (a.1 0)), (1, .int p1), (2, .int p2)] := hl
  refine lv_aload_n hx hb dL_fill_0 rfl (lv_at hl 0 rfl) ?_
  refine lv_iload_n hx hb dL_fill_1 rfl (lv_at hl 1 rfl) ?_
  refine lv_iload_n hx hb dL_fill_2 rfl (lv_at hl 2 rfl) ?_
  obtain ⟨q_1, hq_1, hm⟩ := bind_some hm
  have hFc := free_all hD hS hA
  refine vx_calli (vx_runV (As := [.int p1, .int p2]) (rest := []) ⟨hx, hb, hml, hown, hts⟩ (k_X11_fill l hfl G a T F U S D R M N P hlk p1 p2  q_1.1 q_1.2.1 q_1.2.2.1 q_1.2.2.2.1 q_1.2.2.2.2.1 q_1.2.2.2.2.2 hq_1 H.size) (cwV 2 hts (gV wm1022 wm1023 wm1024 wm1 wm1025) rfl rfl rfl (by decide +kernel) ⟨Nat.le_of_ble_eq_true rfl, Nat.le_of_ble_eq_true rfl⟩) (pre_v (pre_w hK hP hD hS hE hFc) (va_recv hK hP (ci := 10) (q0 := 0) rfl rfl)) rfl rfl hl.1 rfl (lv_room (Nat.le_of_ble_eq_true rfl)) dL_fill_3 ⟨Nat.le_of_ble_eq_true rfl, Nat.le_of_ble_eq_true rfl⟩) hS (fun q _ h => hFc q h) hFc (fun q _ h => hFc q h) (fun E ce q9 u_2 t H locs ht hvm hpx hBX hz1 hk1 hS hce hv9 hcl => ?_) (fun r u_2 t H locs ht hvm hw hB hz1 hk1 hS => ?_)
  · have hne : ¬ q_1.1 = 0 := xnm_ne hBX.1
    rw [if_neg hne] at hm
    have hX9 := hBX.1
    have hB := hBX.2
    have hP : va_P (DG G) clP3 (wC G a q_1.2.2.1 q_1.2.2.2.1 q_1.2.2.2.2.1 S D R M N q_1.2.2.2.2.2) H := by rw [← ht]; exact hB.1
    have hD : va_D A (wC G a q_1.2.2.1 q_1.2.2.2.1 q_1.2.2.2.2.1 S D R M N q_1.2.2.2.2.2) := hB.2.weaken (fun _ p _ h => hFc p.1 h)
    by_cases k_3 : q_1.1 = 4
    · rw [if_pos k_3] at hm
      rw [k_3] at hX9
      obtain rfl : "java/util/NoSuchElementException" = E := Option.some.inj (xnm4.symm.trans hX9)
      refine vx_widen (k := 4) (n := 24) (Nat.le_of_ble_eq_true rfl) (Nat.le_of_ble_eq_true rfl) ?_
      refine vx_catch hown (tableOf []) ⟨0, 6, 7, 44⟩ (tableOf [(0, 6, 11, 32), (0, 6, 15, 22), (0, 6, 19, 70)]) (htab.trans rfl) xP0 (by decide) (by decide) (hts _ wm748) (va_Nw.use rfl (hE.1 _ nw578)) hce hv9 hcl ?_
      refine W.eq (g2 := F0 m 7 ls [.ref q9]) rfl ?_
      refine lv_astore_n (lv' := [(3, .ref q9), (0, .ref (a.1 0)), (1, .int p1), (2, .int p2)]) hx hb dL_fill_7 rfl hl (by decide) rfl (fun ls hl => ?_)
      refine lv_ldc (v := (-3000000)) hx hb hown (hts _ wm758) dL_fill_8 ?_
      simp only [Option.some.injEq, Prod.mk.injEq] at hm
      obtain ⟨rfl, rfl, rfl, rfl, rfl⟩ := hm
      subst hAe
      refine W.widen (k := 4) (n := 24) (Nat.le_of_ble_eq_true rfl) (Nat.le_of_ble_eq_true rfl) ?_
      exact vx_ret (W.iret (v := (-3000000)) hx hb hr (fun t ht hW => ⟨⟨(-3000000), (), rfl, rfl, ⟨by rw [ht]; exact hP, hD⟩⟩, hS.F ht⟩) hS.2.2 dL_fill_10 hlocks)
    · rw [if_neg k_3] at hm
      by_cases k_4 : q_1.1 = 3
      · rw [if_pos k_4] at hm
        rw [k_4] at hX9
        obtain rfl : "java/lang/IndexOutOfBoundsException" = E := Option.some.inj (xnm3.symm.trans hX9)
        refine vx_widen (k := 4) (n := 24) (Nat.le_of_ble_eq_true rfl) (Nat.le_of_ble_eq_true rfl) ?_
        refine vx_catch hown (tableOf [(0, 6, 7, 44)]) ⟨0, 6, 11, 32⟩ (tableOf [(0, 6, 15, 22), (0, 6, 19, 70)]) (htab.trans rfl) (xPc (Or.inr ⟨by decide, _, hts _ wm748, hE.2.2.1 _ nc6⟩) xP0) (by decide) (by decide) (hts _ wm699) (va_Nw.use rfl (hE.1 _ nw325)) hce hv9 hcl ?_
        refine W.eq (g2 := F0 m 11 ls [.ref q9]) rfl ?_
        refine lv_astore_n (lv' := [(3, .ref q9), (0, .ref (a.1 0)), (1, .int p1), (2, .int p2)]) hx hb dL_fill_11 rfl hl (by decide) rfl (fun ls hl => ?_)
        refine lv_ldc (v := (-2500000)) hx hb hown (hts _ wm730) dL_fill_12 ?_
        simp only [Option.some.injEq, Prod.mk.injEq] at hm
        obtain ⟨rfl, rfl, rfl, rfl, rfl⟩ := hm
        subst hAe
        refine W.widen (k := 4) (n := 24) (Nat.le_of_ble_eq_true rfl) (Nat.le_of_ble_eq_true rfl) ?_
        exact vx_ret (W.iret (v := (-2500000)) hx hb hr (fun t ht hW => ⟨⟨(-2500000), (), rfl, rfl, ⟨by rw [ht]; exact hP, hD⟩⟩, hS.F ht⟩) hS.2.2 dL_fill_14 hlocks)
      · rw [if_neg k_4] at hm
        by_cases k_5 : q_1.1 = 2
        · rw [if_pos k_5] at hm
          rw [k_5] at hX9
          obtain rfl : "java/lang/IllegalStateException" = E := Option.some.inj (xnm2.symm.trans hX9)
          refine vx_widen (k := 4) (n := 24) (Nat.le_of_ble_eq_true rfl) (Nat.le_of_ble_eq_true rfl) ?_
          refine vx_catch hown (tableOf [(0, 6, 7, 44), (0, 6, 11, 32)]) ⟨0, 6, 15, 22⟩ (tableOf [(0, 6, 19, 70)]) (htab.trans rfl) (xPc (Or.inr ⟨by decide, _, hts _ wm748, hE.2.2.1 _ nc2⟩) (xPc (Or.inr ⟨by decide, _, hts _ wm699, hE.2.2.1 _ nc1⟩) xP0)) (by decide) (by decide) (hts _ wm644) (va_Nw.use rfl (hE.1 _ nw671)) hce hv9 hcl ?_
          refine W.eq (g2 := F0 m 15 ls [.ref q9]) rfl ?_
          refine lv_astore_n (lv' := [(3, .ref q9), (0, .ref (a.1 0)), (1, .int p1), (2, .int p2)]) hx hb dL_fill_15 rfl hl (by decide) rfl (fun ls hl => ?_)
          refine lv_ldc (v := (-1000000)) hx hb hown (hts _ wm687) dL_fill_16 ?_
          simp only [Option.some.injEq, Prod.mk.injEq] at hm
          obtain ⟨rfl, rfl, rfl, rfl, rfl⟩ := hm
          subst hAe
          refine W.widen (k := 4) (n := 24) (Nat.le_of_ble_eq_true rfl) (Nat.le_of_ble_eq_true rfl) ?_
          exact vx_ret (W.iret (v := (-1000000)) hx hb hr (fun t ht hW => ⟨⟨(-1000000), (), rfl, rfl, ⟨by rw [ht]; exact hP, hD⟩⟩, hS.F ht⟩) hS.2.2 dL_fill_18 hlocks)
        · rw [if_neg k_5] at hm
          by_cases k_6 : q_1.1 = 5
          · rw [if_pos k_6] at hm
            rw [k_6] at hX9
            obtain rfl : "java/lang/UnsupportedOperationException" = E := Option.some.inj (xnm5.symm.trans hX9)
            refine vx_widen (k := 4) (n := 24) (Nat.le_of_ble_eq_true rfl) (Nat.le_of_ble_eq_true rfl) ?_
            refine vx_catch hown (tableOf [(0, 6, 7, 44), (0, 6, 11, 32), (0, 6, 15, 22)]) ⟨0, 6, 19, 70⟩ (tableOf []) (htab.trans rfl) (xPc (Or.inr ⟨by decide, _, hts _ wm748, hE.2.2.1 _ nc8⟩) (xPc (Or.inr ⟨by decide, _, hts _ wm699, hE.2.2.1 _ nc4⟩) (xPc (Or.inr ⟨by decide, _, hts _ wm644, hE.2.2.1 _ nc7⟩) xP0))) (by decide) (by decide) (hts _ wm810) (va_Nw.use rfl (hE.1 _ nw821)) hce hv9 hcl ?_
            refine W.eq (g2 := F0 m 19 ls [.ref q9]) rfl ?_
            refine lv_astore_n (lv' := [(3, .ref q9), (0, .ref (a.1 0)), (1, .int p1), (2, .int p2)]) hx hb dL_fill_19 rfl hl (by decide) rfl (fun ls hl => ?_)
            refine lv_ldc (v := (-1500000)) hx hb hown (hts _ wm835) dL_fill_20 ?_
            simp only [Option.some.injEq, Prod.mk.injEq] at hm
            obtain ⟨rfl, rfl, rfl, rfl, rfl⟩ := hm
            subst hAe
            refine W.widen (k := 4) (n := 24) (Nat.le_of_ble_eq_true rfl) (Nat.le_of_ble_eq_true rfl) ?_
            exact vx_ret (W.iret (v := (-1500000)) hx hb hr (fun t ht hW => ⟨⟨(-1500000), (), rfl, rfl, ⟨by rw [ht]; exact hP, hD⟩⟩, hS.F ht⟩) hS.2.2 dL_fill_22 hlocks)
          · rw [if_neg k_6] at hm
            cases hm
  · rw [if_pos hw.1] at hm
    rw [show r = q_1.2.1 from hw.2]
    have hP : va_P (DG G) clP3 (wC G a q_1.2.2.1 q_1.2.2.2.1 q_1.2.2.2.2.1 S D R M N q_1.2.2.2.2.2) H := by rw [← ht]; exact hB.1
    have hD : va_D A (wC G a q_1.2.2.1 q_1.2.2.2.1 q_1.2.2.2.2.1 S D R M N q_1.2.2.2.2.2) := hB.2.weaken (fun _ p _ h => hFc p.1 h)
    refine W.widen (k := 4) (n := 24) (Nat.le_of_ble_eq_true rfl) (Nat.le_of_ble_eq_true rfl) ?_
    simp only [Option.some.injEq, Prod.mk.injEq] at hm
    obtain ⟨rfl, rfl, rfl, rfl, rfl⟩ := hm
    subst hAe
    refine W.widen (k := 4) (n := 24) (Nat.le_of_ble_eq_true rfl) (Nat.le_of_ble_eq_true rfl) ?_
    exact vx_ret (W.iret (v := q_1.2.1) hx hb hr (fun t ht hW => ⟨⟨q_1.2.1, (), rfl, rfl, ⟨by rw [ht]; exact hP, hD⟩⟩, hS.F ht⟩) hS.2.2 dL_fill_6 hlocks)
def f_L_auto (T : TS) (D : DS) (P : PS) (p1 : Int32) : Option (Int32 × TS × PS) := (Option.bind (f_X11_auto T D P p1) (fun q_1 => (if q_1.1 = 0 then some (q_1.2.1, q_1.2.2.1, q_1.2.2.2) else (if q_1.1 = 4 then some ((-3000000), q_1.2.2.1, q_1.2.2.2) else (if q_1.1 = 2 then some ((-1000000), q_1.2.2.1, q_1.2.2.2) else (if q_1.1 = 5 then some ((-1500000), q_1.2.2.1, q_1.2.2.2) else none))))))
set_option maxHeartbeats 2000000 in
set_option maxRecDepth 100000 in
theorem k_L_auto (l : Launch) (hfl : l.stackTraces = false) (G : GC) (a : AS) (T : TS) (F : FS) (U : US) (S : SS) (D : DS) (R : RS) (M : MS) (N : NS) (P : PS) (hlk : lkA a D.1.toNatClampNeg D.2.1.toNatClampNeg) (p1 : Int32) (r9 : Int32) (T9 : TS) (P9 : PS) (hm : f_L_auto T D P p1 = some (r9, T9, P9)) (sz : Nat) : vx_Met l yL_auto (Cond.codeWith yL_auto cL_auto 3 (some .int) [(0, 5, 6, 44), (0, 5, 10, 22), (0, 5, 14, 70)] :: W0) ({ frames := 205, cells := 3, slots := 18, locals := 5314 }) (va_Pc [.ref (a.1 0), .int p1] (WD G (wC G a T F U S D R M N P) sz)) (va_Qi (S := Unit) (fun r _ => r = r9) (fun _ t => PW G (va_A (wC G a T F U S D R M N P) sz) (wC G a T9 F U S D R M N P9) t) (va_A (wC G a T F U S D R M N P) sz)) (vx_X (fun _ : Unit => False) (fun (_ : String) (_ : Unit) (_ : State) => True) (va_A (wC G a T F U S D R M N P) sz)) 3 18 (va_A (wC G a T F U S D R M N P) sz) := by
  rw [f_L_auto] at hm
  refine vx_ofWH (cc := cL_auto) (maxL := 3) (ret := (some .int)) (hh := [(0, 5, 6, 44), (0, 5, 10, 22), (0, 5, 14, 70)]) (by decide) rfl ?_
  intro p e s m args below meth c s₁ B hml hv
  obtain ⟨rfl, hsz, hP, hK, hD0, hE⟩ := hv
  have hx := B.exec
  have hb := B.bytes
  have hr := B.returns
  have hts := w0_tail B.pre
  have hown : s.vm.findClass RL = some m.cls := findClass_of_methodNamed B.named
  have hlocks := B.notSynchronized
  have htab := vx_table (x := yL_auto) B (hts _ wm1042)
  have hD := hD0.self (sz := sz)
  obtain ⟨A, hAe⟩ : ∃ A, (va_A (wC G a T F U S D R M N P) sz) = A := ⟨_, rfl⟩
  rw [hAe] at hD hE
  have hA : ∀ q : Nat, s.heap.size ≤ q → A q := fun q h => by rw [← hAe]; exact Or.inr (by rw [← hsz]; exact h)
  have hS : va_S A s.heap s.heap [] := va_S.rf
  obtain ⟨H, hHe⟩ : ∃ H : Heap, H = s.heap := ⟨_, rfl⟩
  have hP : va_P (DG G) clP3 (wC G a T F U S D R M N P) H := by rw [hHe]; exact hP
  have hS : va_S A s.heap H [] := by rw [hHe]; exact hS
  have hl := lv_entry ([.ref (a.1 0), .int p1]) (n := 3) (Nat.le_of_ble_eq_true rfl)
  rw [lg_entry_eq, ← hHe]
  generalize (lg_sl ([.ref (a.1 0), .int p1]) ++ List.replicate (3 - (lg_sl ([.ref (a.1 0), .int p1])).length) Slot.unset).toArray = ls at hl ⊢
  have hl : lv_has ls 3 [(0, .ref (a.1 0)), (1, .int p1)] := hl
  refine lv_aload_n hx hb dL_auto_0 rfl (lv_at hl 0 rfl) ?_
  refine lv_iload_n hx hb dL_auto_1 rfl (lv_at hl 1 rfl) ?_
  obtain ⟨q_1, hq_1, hm⟩ := bind_some hm
  have hFc := free_all hD hS hA
  refine vx_calli (vx_runV (As := [.int p1]) (rest := []) ⟨hx, hb, hml, hown, hts⟩ (k_X11_auto l hfl G a T F U S D R M N P hlk p1  q_1.1 q_1.2.1 q_1.2.2.1 q_1.2.2.2 hq_1 H.size) (cwV 1 hts (gV wm1043 wm1044 wm1045 wm1 wm1046) rfl rfl rfl (by decide +kernel) ⟨Nat.le_of_ble_eq_true rfl, Nat.le_of_ble_eq_true rfl⟩) (pre_v (pre_w hK hP hD hS hE hFc) (va_recv hK hP (ci := 10) (q0 := 0) rfl rfl)) rfl rfl hl.1 rfl (lv_room (Nat.le_of_ble_eq_true rfl)) dL_auto_2 ⟨Nat.le_of_ble_eq_true rfl, Nat.le_of_ble_eq_true rfl⟩) hS (fun q _ h => hFc q h) hFc (fun q _ h => hFc q h) (fun E ce q9 u_2 t H locs ht hvm hpx hBX hz1 hk1 hS hce hv9 hcl => ?_) (fun r u_2 t H locs ht hvm hw hB hz1 hk1 hS => ?_)
  · have hne : ¬ q_1.1 = 0 := xnm_ne hBX.1
    rw [if_neg hne] at hm
    have hX9 := hBX.1
    have hB := hBX.2
    have hP : va_P (DG G) clP3 (wC G a q_1.2.2.1 F U S D R M N q_1.2.2.2) H := by rw [← ht]; exact hB.1
    have hD : va_D A (wC G a q_1.2.2.1 F U S D R M N q_1.2.2.2) := hB.2.weaken (fun _ p _ h => hFc p.1 h)
    by_cases k_3 : q_1.1 = 4
    · rw [if_pos k_3] at hm
      rw [k_3] at hX9
      obtain rfl : "java/util/NoSuchElementException" = E := Option.some.inj (xnm4.symm.trans hX9)
      refine vx_widen (k := 3) (n := 18) (Nat.le_of_ble_eq_true rfl) (Nat.le_of_ble_eq_true rfl) ?_
      refine vx_catch hown (tableOf []) ⟨0, 5, 6, 44⟩ (tableOf [(0, 5, 10, 22), (0, 5, 14, 70)]) (htab.trans rfl) xP0 (by decide) (by decide) (hts _ wm748) (va_Nw.use rfl (hE.1 _ nw578)) hce hv9 hcl ?_
      refine W.eq (g2 := F0 m 6 ls [.ref q9]) rfl ?_
      refine lv_astore_n (lv' := [(2, .ref q9), (0, .ref (a.1 0)), (1, .int p1)]) hx hb dL_auto_6 rfl hl (by decide) rfl (fun ls hl => ?_)
      refine lv_ldc (v := (-3000000)) hx hb hown (hts _ wm758) dL_auto_7 ?_
      simp only [Option.some.injEq, Prod.mk.injEq] at hm
      obtain ⟨rfl, rfl, rfl⟩ := hm
      subst hAe
      refine W.widen (k := 3) (n := 18) (Nat.le_of_ble_eq_true rfl) (Nat.le_of_ble_eq_true rfl) ?_
      exact vx_ret (W.iret (v := (-3000000)) hx hb hr (fun t ht hW => ⟨⟨(-3000000), (), rfl, rfl, ⟨by rw [ht]; exact hP, hD⟩⟩, hS.F ht⟩) hS.2.2 dL_auto_9 hlocks)
    · rw [if_neg k_3] at hm
      by_cases k_4 : q_1.1 = 2
      · rw [if_pos k_4] at hm
        rw [k_4] at hX9
        obtain rfl : "java/lang/IllegalStateException" = E := Option.some.inj (xnm2.symm.trans hX9)
        refine vx_widen (k := 3) (n := 18) (Nat.le_of_ble_eq_true rfl) (Nat.le_of_ble_eq_true rfl) ?_
        refine vx_catch hown (tableOf [(0, 5, 6, 44)]) ⟨0, 5, 10, 22⟩ (tableOf [(0, 5, 14, 70)]) (htab.trans rfl) (xPc (Or.inr ⟨by decide, _, hts _ wm748, hE.2.2.1 _ nc2⟩) xP0) (by decide) (by decide) (hts _ wm644) (va_Nw.use rfl (hE.1 _ nw671)) hce hv9 hcl ?_
        refine W.eq (g2 := F0 m 10 ls [.ref q9]) rfl ?_
        refine lv_astore_n (lv' := [(2, .ref q9), (0, .ref (a.1 0)), (1, .int p1)]) hx hb dL_auto_10 rfl hl (by decide) rfl (fun ls hl => ?_)
        refine lv_ldc (v := (-1000000)) hx hb hown (hts _ wm687) dL_auto_11 ?_
        simp only [Option.some.injEq, Prod.mk.injEq] at hm
        obtain ⟨rfl, rfl, rfl⟩ := hm
        subst hAe
        refine W.widen (k := 3) (n := 18) (Nat.le_of_ble_eq_true rfl) (Nat.le_of_ble_eq_true rfl) ?_
        exact vx_ret (W.iret (v := (-1000000)) hx hb hr (fun t ht hW => ⟨⟨(-1000000), (), rfl, rfl, ⟨by rw [ht]; exact hP, hD⟩⟩, hS.F ht⟩) hS.2.2 dL_auto_13 hlocks)
      · rw [if_neg k_4] at hm
        by_cases k_5 : q_1.1 = 5
        · rw [if_pos k_5] at hm
          rw [k_5] at hX9
          obtain rfl : "java/lang/UnsupportedOperationException" = E := Option.some.inj (xnm5.symm.trans hX9)
          refine vx_widen (k := 3) (n := 18) (Nat.le_of_ble_eq_true rfl) (Nat.le_of_ble_eq_true rfl) ?_
          refine vx_catch hown (tableOf [(0, 5, 6, 44), (0, 5, 10, 22)]) ⟨0, 5, 14, 70⟩ (tableOf []) (htab.trans rfl) (xPc (Or.inr ⟨by decide, _, hts _ wm748, hE.2.2.1 _ nc8⟩) (xPc (Or.inr ⟨by decide, _, hts _ wm644, hE.2.2.1 _ nc7⟩) xP0)) (by decide) (by decide) (hts _ wm810) (va_Nw.use rfl (hE.1 _ nw821)) hce hv9 hcl ?_
          refine W.eq (g2 := F0 m 14 ls [.ref q9]) rfl ?_
          refine lv_astore_n (lv' := [(2, .ref q9), (0, .ref (a.1 0)), (1, .int p1)]) hx hb dL_auto_14 rfl hl (by decide) rfl (fun ls hl => ?_)
          refine lv_ldc (v := (-1500000)) hx hb hown (hts _ wm835) dL_auto_15 ?_
          simp only [Option.some.injEq, Prod.mk.injEq] at hm
          obtain ⟨rfl, rfl, rfl⟩ := hm
          subst hAe
          refine W.widen (k := 3) (n := 18) (Nat.le_of_ble_eq_true rfl) (Nat.le_of_ble_eq_true rfl) ?_
          exact vx_ret (W.iret (v := (-1500000)) hx hb hr (fun t ht hW => ⟨⟨(-1500000), (), rfl, rfl, ⟨by rw [ht]; exact hP, hD⟩⟩, hS.F ht⟩) hS.2.2 dL_auto_17 hlocks)
        · rw [if_neg k_5] at hm
          cases hm
  · rw [if_pos hw.1] at hm
    rw [show r = q_1.2.1 from hw.2]
    have hP : va_P (DG G) clP3 (wC G a q_1.2.2.1 F U S D R M N q_1.2.2.2) H := by rw [← ht]; exact hB.1
    have hD : va_D A (wC G a q_1.2.2.1 F U S D R M N q_1.2.2.2) := hB.2.weaken (fun _ p _ h => hFc p.1 h)
    refine W.widen (k := 3) (n := 18) (Nat.le_of_ble_eq_true rfl) (Nat.le_of_ble_eq_true rfl) ?_
    simp only [Option.some.injEq, Prod.mk.injEq] at hm
    obtain ⟨rfl, rfl, rfl⟩ := hm
    subst hAe
    refine W.widen (k := 3) (n := 18) (Nat.le_of_ble_eq_true rfl) (Nat.le_of_ble_eq_true rfl) ?_
    exact vx_ret (W.iret (v := q_1.2.1) hx hb hr (fun t ht hW => ⟨⟨q_1.2.1, (), rfl, rfl, ⟨by rw [ht]; exact hP, hD⟩⟩, hS.F ht⟩) hS.2.2 dL_auto_5 hlocks)
def f_L_reopen (T : TS) (D : DS) (P : PS) (p1 : Int32) : Option (Int32 × PS) := (Option.bind (f_X11_reopen T D P p1) (fun q_1 => (if q_1.1 = 0 then some (q_1.2.1, q_1.2.2) else (if q_1.1 = 4 then some ((-3000000), q_1.2.2) else (if q_1.1 = 2 then some ((-1000000), q_1.2.2) else none)))))
set_option maxHeartbeats 2000000 in
set_option maxRecDepth 100000 in
theorem k_L_reopen (l : Launch) (hfl : l.stackTraces = false) (G : GC) (a : AS) (T : TS) (F : FS) (U : US) (S : SS) (D : DS) (R : RS) (M : MS) (N : NS) (P : PS) (hlk : lkA a D.1.toNatClampNeg D.2.1.toNatClampNeg) (p1 : Int32) (r9 : Int32) (P9 : PS) (hm : f_L_reopen T D P p1 = some (r9, P9)) (sz : Nat) : vx_Met l yL_reopen (Cond.codeWith yL_reopen cL_reopen 3 (some .int) [(0, 5, 6, 44), (0, 5, 10, 22)] :: W0) ({ frames := 8, cells := 2, slots := 12, locals := 127 }) (va_Pc [.ref (a.1 0), .int p1] (WD G (wC G a T F U S D R M N P) sz)) (va_Qi (S := Unit) (fun r _ => r = r9) (fun _ t => PW G (va_A (wC G a T F U S D R M N P) sz) (wC G a T F U S D R M N P9) t) (va_A (wC G a T F U S D R M N P) sz)) (vx_X (fun _ : Unit => False) (fun (_ : String) (_ : Unit) (_ : State) => True) (va_A (wC G a T F U S D R M N P) sz)) 2 12 (va_A (wC G a T F U S D R M N P) sz) := by
  rw [f_L_reopen] at hm
  refine vx_ofWH (cc := cL_reopen) (maxL := 3) (ret := (some .int)) (hh := [(0, 5, 6, 44), (0, 5, 10, 22)]) (by decide) rfl ?_
  intro p e s m args below meth c s₁ B hml hv
  obtain ⟨rfl, hsz, hP, hK, hD0, hE⟩ := hv
  have hx := B.exec
  have hb := B.bytes
  have hr := B.returns
  have hts := w0_tail B.pre
  have hown : s.vm.findClass RL = some m.cls := findClass_of_methodNamed B.named
  have hlocks := B.notSynchronized
  have htab := vx_table (x := yL_reopen) B (hts _ wm1055)
  have hD := hD0.self (sz := sz)
  obtain ⟨A, hAe⟩ : ∃ A, (va_A (wC G a T F U S D R M N P) sz) = A := ⟨_, rfl⟩
  rw [hAe] at hD hE
  have hA : ∀ q : Nat, s.heap.size ≤ q → A q := fun q h => by rw [← hAe]; exact Or.inr (by rw [← hsz]; exact h)
  have hS : va_S A s.heap s.heap [] := va_S.rf
  obtain ⟨H, hHe⟩ : ∃ H : Heap, H = s.heap := ⟨_, rfl⟩
  have hP : va_P (DG G) clP3 (wC G a T F U S D R M N P) H := by rw [hHe]; exact hP
  have hS : va_S A s.heap H [] := by rw [hHe]; exact hS
  have hl := lv_entry ([.ref (a.1 0), .int p1]) (n := 3) (Nat.le_of_ble_eq_true rfl)
  rw [lg_entry_eq, ← hHe]
  generalize (lg_sl ([.ref (a.1 0), .int p1]) ++ List.replicate (3 - (lg_sl ([.ref (a.1 0), .int p1])).length) Slot.unset).toArray = ls at hl ⊢
  have hl : lv_has ls 3 [(0, .ref (a.1 0)), (1, .int p1)] := hl
  refine lv_aload_n hx hb dL_reopen_0 rfl (lv_at hl 0 rfl) ?_
  refine lv_iload_n hx hb dL_reopen_1 rfl (lv_at hl 1 rfl) ?_
  obtain ⟨q_1, hq_1, hm⟩ := bind_some hm
  have hFc := free_all hD hS hA
  refine vx_calli (vx_runV (As := [.int p1]) (rest := []) ⟨hx, hb, hml, hown, hts⟩ (k_X11_reopen l hfl G a T F U S D R M N P hlk p1  q_1.1 q_1.2.1 q_1.2.2 hq_1 H.size) (cwV 1 hts (gV wm1056 wm1057 wm1058 wm1 wm1059) rfl rfl rfl (by decide +kernel) ⟨Nat.le_of_ble_eq_true rfl, Nat.le_of_ble_eq_true rfl⟩) (pre_v (pre_w hK hP hD hS hE hFc) (va_recv hK hP (ci := 10) (q0 := 0) rfl rfl)) rfl rfl hl.1 rfl (lv_room (Nat.le_of_ble_eq_true rfl)) dL_reopen_2 ⟨Nat.le_of_ble_eq_true rfl, Nat.le_of_ble_eq_true rfl⟩) hS (fun q _ h => hFc q h) hFc (fun q _ h => hFc q h) (fun E ce q9 u_2 t H locs ht hvm hpx hBX hz1 hk1 hS hce hv9 hcl => ?_) (fun r u_2 t H locs ht hvm hw hB hz1 hk1 hS => ?_)
  · have hne : ¬ q_1.1 = 0 := xnm_ne hBX.1
    rw [if_neg hne] at hm
    have hX9 := hBX.1
    have hB := hBX.2
    have hP : va_P (DG G) clP3 (wC G a T F U S D R M N q_1.2.2) H := by rw [← ht]; exact hB.1
    have hD : va_D A (wC G a T F U S D R M N q_1.2.2) := hB.2.weaken (fun _ p _ h => hFc p.1 h)
    by_cases k_3 : q_1.1 = 4
    · rw [if_pos k_3] at hm
      rw [k_3] at hX9
      obtain rfl : "java/util/NoSuchElementException" = E := Option.some.inj (xnm4.symm.trans hX9)
      refine vx_widen (k := 2) (n := 12) (Nat.le_of_ble_eq_true rfl) (Nat.le_of_ble_eq_true rfl) ?_
      refine vx_catch hown (tableOf []) ⟨0, 5, 6, 44⟩ (tableOf [(0, 5, 10, 22)]) (htab.trans rfl) xP0 (by decide) (by decide) (hts _ wm748) (va_Nw.use rfl (hE.1 _ nw578)) hce hv9 hcl ?_
      refine W.eq (g2 := F0 m 6 ls [.ref q9]) rfl ?_
      refine lv_astore_n (lv' := [(2, .ref q9), (0, .ref (a.1 0)), (1, .int p1)]) hx hb dL_reopen_6 rfl hl (by decide) rfl (fun ls hl => ?_)
      refine lv_ldc (v := (-3000000)) hx hb hown (hts _ wm758) dL_reopen_7 ?_
      simp only [Option.some.injEq, Prod.mk.injEq] at hm
      obtain ⟨rfl, rfl⟩ := hm
      subst hAe
      refine W.widen (k := 2) (n := 12) (Nat.le_of_ble_eq_true rfl) (Nat.le_of_ble_eq_true rfl) ?_
      exact vx_ret (W.iret (v := (-3000000)) hx hb hr (fun t ht hW => ⟨⟨(-3000000), (), rfl, rfl, ⟨by rw [ht]; exact hP, hD⟩⟩, hS.F ht⟩) hS.2.2 dL_reopen_9 hlocks)
    · rw [if_neg k_3] at hm
      by_cases k_4 : q_1.1 = 2
      · rw [if_pos k_4] at hm
        rw [k_4] at hX9
        obtain rfl : "java/lang/IllegalStateException" = E := Option.some.inj (xnm2.symm.trans hX9)
        refine vx_widen (k := 2) (n := 12) (Nat.le_of_ble_eq_true rfl) (Nat.le_of_ble_eq_true rfl) ?_
        refine vx_catch hown (tableOf [(0, 5, 6, 44)]) ⟨0, 5, 10, 22⟩ (tableOf []) (htab.trans rfl) (xPc (Or.inr ⟨by decide, _, hts _ wm748, hE.2.2.1 _ nc2⟩) xP0) (by decide) (by decide) (hts _ wm644) (va_Nw.use rfl (hE.1 _ nw671)) hce hv9 hcl ?_
        refine W.eq (g2 := F0 m 10 ls [.ref q9]) rfl ?_
        refine lv_astore_n (lv' := [(2, .ref q9), (0, .ref (a.1 0)), (1, .int p1)]) hx hb dL_reopen_10 rfl hl (by decide) rfl (fun ls hl => ?_)
        refine lv_ldc (v := (-1000000)) hx hb hown (hts _ wm687) dL_reopen_11 ?_
        simp only [Option.some.injEq, Prod.mk.injEq] at hm
        obtain ⟨rfl, rfl⟩ := hm
        subst hAe
        refine W.widen (k := 2) (n := 12) (Nat.le_of_ble_eq_true rfl) (Nat.le_of_ble_eq_true rfl) ?_
        exact vx_ret (W.iret (v := (-1000000)) hx hb hr (fun t ht hW => ⟨⟨(-1000000), (), rfl, rfl, ⟨by rw [ht]; exact hP, hD⟩⟩, hS.F ht⟩) hS.2.2 dL_reopen_13 hlocks)
      · rw [if_neg k_4] at hm
        cases hm
  · rw [if_pos hw.1] at hm
    rw [show r = q_1.2.1 from hw.2]
    have hP : va_P (DG G) clP3 (wC G a T F U S D R M N q_1.2.2) H := by rw [← ht]; exact hB.1
    have hD : va_D A (wC G a T F U S D R M N q_1.2.2) := hB.2.weaken (fun _ p _ h => hFc p.1 h)
    refine W.widen (k := 2) (n := 12) (Nat.le_of_ble_eq_true rfl) (Nat.le_of_ble_eq_true rfl) ?_
    simp only [Option.some.injEq, Prod.mk.injEq] at hm
    obtain ⟨rfl, rfl⟩ := hm
    subst hAe
    refine W.widen (k := 2) (n := 12) (Nat.le_of_ble_eq_true rfl) (Nat.le_of_ble_eq_true rfl) ?_
    exact vx_ret (W.iret (v := q_1.2.1) hx hb hr (fun t ht hW => ⟨⟨q_1.2.1, (), rfl, rfl, ⟨by rw [ht]; exact hP, hD⟩⟩, hS.F ht⟩) hS.2.2 dL_reopen_5 hlocks)
def f_L_goalState (D : DS) (P : PS) (p1 : Int32) : Option (Int32) := (Option.bind (f_X11_goalState D P p1) (fun q_1 => (if q_1.1 = 0 then some q_1.2 else (if q_1.1 = 4 then some (-3000000) else none))))
set_option maxHeartbeats 2000000 in
set_option maxRecDepth 100000 in
theorem k_L_goalState (l : Launch) (hfl : l.stackTraces = false) (G : GC) (a : AS) (T : TS) (F : FS) (U : US) (S : SS) (D : DS) (R : RS) (M : MS) (N : NS) (P : PS) (hlk : lkA a D.1.toNatClampNeg D.2.1.toNatClampNeg) (p1 : Int32) (r9 : Int32) (hm : f_L_goalState D P p1 = some r9) (sz : Nat) : vx_Met l yL_goalState (Cond.codeWith yL_goalState cL_goalState 3 (some .int) [(0, 5, 6, 44)] :: W0) ({ frames := 8, cells := 1, slots := 6, locals := 125 }) (va_Pc [.ref (a.1 0), .int p1] (WD G (wC G a T F U S D R M N P) sz)) (va_Qi (S := Unit) (fun r _ => r = r9) (fun _ t => PW G (va_A (wC G a T F U S D R M N P) sz) (wC G a T F U S D R M N P) t) (va_A (wC G a T F U S D R M N P) sz)) (vx_X (fun _ : Unit => False) (fun (_ : String) (_ : Unit) (_ : State) => True) (va_A (wC G a T F U S D R M N P) sz)) 1 6 (va_A (wC G a T F U S D R M N P) sz) := by
  rw [f_L_goalState] at hm
  refine vx_ofWH (cc := cL_goalState) (maxL := 3) (ret := (some .int)) (hh := [(0, 5, 6, 44)]) (by decide) rfl ?_
  intro p e s m args below meth c s₁ B hml hv
  obtain ⟨rfl, hsz, hP, hK, hD0, hE⟩ := hv
  have hx := B.exec
  have hb := B.bytes
  have hr := B.returns
  have hts := w0_tail B.pre
  have hown : s.vm.findClass RL = some m.cls := findClass_of_methodNamed B.named
  have hlocks := B.notSynchronized
  have htab := vx_table (x := yL_goalState) B (hts _ wm1067)
  have hD := hD0.self (sz := sz)
  obtain ⟨A, hAe⟩ : ∃ A, (va_A (wC G a T F U S D R M N P) sz) = A := ⟨_, rfl⟩
  rw [hAe] at hD hE
  have hA : ∀ q : Nat, s.heap.size ≤ q → A q := fun q h => by rw [← hAe]; exact Or.inr (by rw [← hsz]; exact h)
  have hS : va_S A s.heap s.heap [] := va_S.rf
  obtain ⟨H, hHe⟩ : ∃ H : Heap, H = s.heap := ⟨_, rfl⟩
  have hP : va_P (DG G) clP3 (wC G a T F U S D R M N P) H := by rw [hHe]; exact hP
  have hS : va_S A s.heap H [] := by rw [hHe]; exact hS
  have hl := lv_entry ([.ref (a.1 0), .int p1]) (n := 3) (Nat.le_of_ble_eq_true rfl)
  rw [lg_entry_eq, ← hHe]
  generalize (lg_sl ([.ref (a.1 0), .int p1]) ++ List.replicate (3 - (lg_sl ([.ref (a.1 0), .int p1])).length) Slot.unset).toArray = ls at hl ⊢
  have hl : lv_has ls 3 [(0, .ref (a.1 0)), (1, .int p1)] := hl
  refine lv_aload_n hx hb dL_goalState_0 rfl (lv_at hl 0 rfl) ?_
  refine lv_iload_n hx hb dL_goalState_1 rfl (lv_at hl 1 rfl) ?_
  obtain ⟨q_1, hq_1, hm⟩ := bind_some hm
  have hFc := free_all hD hS hA
  refine vx_calli (vx_runV (As := [.int p1]) (rest := []) ⟨hx, hb, hml, hown, hts⟩ (k_X11_goalState l hfl G a T F U S D R M N P hlk p1  q_1.1 q_1.2 hq_1 H.size) (cwV 1 hts (gV wm1068 wm1069 wm1070 wm1 wm1071) rfl rfl rfl (by decide +kernel) ⟨Nat.le_of_ble_eq_true rfl, Nat.le_of_ble_eq_true rfl⟩) (pre_v (pre_w hK hP hD hS hE hFc) (va_recv hK hP (ci := 10) (q0 := 0) rfl rfl)) rfl rfl hl.1 rfl (lv_room (Nat.le_of_ble_eq_true rfl)) dL_goalState_2 ⟨Nat.le_of_ble_eq_true rfl, Nat.le_of_ble_eq_true rfl⟩) hS (fun q _ h => hFc q h) hFc (fun q _ h => hFc q h) (fun E ce q9 u_2 t H locs ht hvm hpx hBX hz1 hk1 hS hce hv9 hcl => ?_) (fun r u_2 t H locs ht hvm hw hB hz1 hk1 hS => ?_)
  · have hne : ¬ q_1.1 = 0 := xnm_ne hBX.1
    rw [if_neg hne] at hm
    have hX9 := hBX.1
    have hB := hBX.2
    have hP : va_P (DG G) clP3 (wC G a T F U S D R M N P) H := by rw [← ht]; exact hB.1
    have hD : va_D A (wC G a T F U S D R M N P) := hB.2.weaken (fun _ p _ h => hFc p.1 h)
    by_cases k_3 : q_1.1 = 4
    · rw [if_pos k_3] at hm
      rw [k_3] at hX9
      obtain rfl : "java/util/NoSuchElementException" = E := Option.some.inj (xnm4.symm.trans hX9)
      refine vx_widen (k := 1) (n := 6) (Nat.le_of_ble_eq_true rfl) (Nat.le_of_ble_eq_true rfl) ?_
      refine vx_catch hown (tableOf []) ⟨0, 5, 6, 44⟩ (tableOf []) (htab.trans rfl) xP0 (by decide) (by decide) (hts _ wm748) (va_Nw.use rfl (hE.1 _ nw578)) hce hv9 hcl ?_
      refine W.eq (g2 := F0 m 6 ls [.ref q9]) rfl ?_
      refine lv_astore_n (lv' := [(2, .ref q9), (0, .ref (a.1 0)), (1, .int p1)]) hx hb dL_goalState_6 rfl hl (by decide) rfl (fun ls hl => ?_)
      refine lv_ldc (v := (-3000000)) hx hb hown (hts _ wm758) dL_goalState_7 ?_
      obtain rfl := Option.some.inj hm
      subst hAe
      refine W.widen (k := 1) (n := 6) (Nat.le_of_ble_eq_true rfl) (Nat.le_of_ble_eq_true rfl) ?_
      exact vx_ret (W.iret (v := (-3000000)) hx hb hr (fun t ht hW => ⟨⟨(-3000000), (), rfl, rfl, ⟨by rw [ht]; exact hP, hD⟩⟩, hS.F ht⟩) hS.2.2 dL_goalState_9 hlocks)
    · rw [if_neg k_3] at hm
      cases hm
  · rw [if_pos hw.1] at hm
    rw [show r = q_1.2 from hw.2]
    have hP : va_P (DG G) clP3 (wC G a T F U S D R M N P) H := by rw [← ht]; exact hB.1
    have hD : va_D A (wC G a T F U S D R M N P) := hB.2.weaken (fun _ p _ h => hFc p.1 h)
    refine W.widen (k := 1) (n := 6) (Nat.le_of_ble_eq_true rfl) (Nat.le_of_ble_eq_true rfl) ?_
    obtain rfl := Option.some.inj hm
    subst hAe
    refine W.widen (k := 1) (n := 6) (Nat.le_of_ble_eq_true rfl) (Nat.le_of_ble_eq_true rfl) ?_
    exact vx_ret (W.iret (v := q_1.2) hx hb hr (fun t ht hW => ⟨⟨q_1.2, (), rfl, rfl, ⟨by rw [ht]; exact hP, hD⟩⟩, hS.F ht⟩) hS.2.2 dL_goalState_5 hlocks)
def f_L_contextSize (D : DS) (P : PS) (p1 : Int32) : Option (Int32) := (Option.bind (f_X11_contextSize D P p1) (fun q_1 => (if q_1.1 = 0 then some q_1.2 else (if q_1.1 = 4 then some (-3000000) else none))))
set_option maxHeartbeats 2000000 in
set_option maxRecDepth 100000 in
theorem k_L_contextSize (l : Launch) (hfl : l.stackTraces = false) (G : GC) (a : AS) (T : TS) (F : FS) (U : US) (S : SS) (D : DS) (R : RS) (M : MS) (N : NS) (P : PS) (hlk : lkA a D.1.toNatClampNeg D.2.1.toNatClampNeg) (p1 : Int32) (r9 : Int32) (hm : f_L_contextSize D P p1 = some r9) (sz : Nat) : vx_Met l yL_contextSize (Cond.codeWith yL_contextSize cL_contextSize 3 (some .int) [(0, 5, 6, 44)] :: W0) ({ frames := 8, cells := 1, slots := 6, locals := 125 }) (va_Pc [.ref (a.1 0), .int p1] (WD G (wC G a T F U S D R M N P) sz)) (va_Qi (S := Unit) (fun r _ => r = r9) (fun _ t => PW G (va_A (wC G a T F U S D R M N P) sz) (wC G a T F U S D R M N P) t) (va_A (wC G a T F U S D R M N P) sz)) (vx_X (fun _ : Unit => False) (fun (_ : String) (_ : Unit) (_ : State) => True) (va_A (wC G a T F U S D R M N P) sz)) 1 6 (va_A (wC G a T F U S D R M N P) sz) := by
  rw [f_L_contextSize] at hm
  refine vx_ofWH (cc := cL_contextSize) (maxL := 3) (ret := (some .int)) (hh := [(0, 5, 6, 44)]) (by decide) rfl ?_
  intro p e s m args below meth c s₁ B hml hv
  obtain ⟨rfl, hsz, hP, hK, hD0, hE⟩ := hv
  have hx := B.exec
  have hb := B.bytes
  have hr := B.returns
  have hts := w0_tail B.pre
  have hown : s.vm.findClass RL = some m.cls := findClass_of_methodNamed B.named
  have hlocks := B.notSynchronized
  have htab := vx_table (x := yL_contextSize) B (hts _ wm1074)
  have hD := hD0.self (sz := sz)
  obtain ⟨A, hAe⟩ : ∃ A, (va_A (wC G a T F U S D R M N P) sz) = A := ⟨_, rfl⟩
  rw [hAe] at hD hE
  have hA : ∀ q : Nat, s.heap.size ≤ q → A q := fun q h => by rw [← hAe]; exact Or.inr (by rw [← hsz]; exact h)
  have hS : va_S A s.heap s.heap [] := va_S.rf
  obtain ⟨H, hHe⟩ : ∃ H : Heap, H = s.heap := ⟨_, rfl⟩
  have hP : va_P (DG G) clP3 (wC G a T F U S D R M N P) H := by rw [hHe]; exact hP
  have hS : va_S A s.heap H [] := by rw [hHe]; exact hS
  have hl := lv_entry ([.ref (a.1 0), .int p1]) (n := 3) (Nat.le_of_ble_eq_true rfl)
  rw [lg_entry_eq, ← hHe]
  generalize (lg_sl ([.ref (a.1 0), .int p1]) ++ List.replicate (3 - (lg_sl ([.ref (a.1 0), .int p1])).length) Slot.unset).toArray = ls at hl ⊢
  have hl : lv_has ls 3 [(0, .ref (a.1 0)), (1, .int p1)] := hl
  refine lv_aload_n hx hb dL_contextSize_0 rfl (lv_at hl 0 rfl) ?_
  refine lv_iload_n hx hb dL_contextSize_1 rfl (lv_at hl 1 rfl) ?_
  obtain ⟨q_1, hq_1, hm⟩ := bind_some hm
  have hFc := free_all hD hS hA
  refine vx_calli (vx_runV (As := [.int p1]) (rest := []) ⟨hx, hb, hml, hown, hts⟩ (k_X11_contextSize l hfl G a T F U S D R M N P hlk p1  q_1.1 q_1.2 hq_1 H.size) (cwV 1 hts (gV wm1075 wm1076 wm1077 wm1 wm1078) rfl rfl rfl (by decide +kernel) ⟨Nat.le_of_ble_eq_true rfl, Nat.le_of_ble_eq_true rfl⟩) (pre_v (pre_w hK hP hD hS hE hFc) (va_recv hK hP (ci := 10) (q0 := 0) rfl rfl)) rfl rfl hl.1 rfl (lv_room (Nat.le_of_ble_eq_true rfl)) dL_contextSize_2 ⟨Nat.le_of_ble_eq_true rfl, Nat.le_of_ble_eq_true rfl⟩) hS (fun q _ h => hFc q h) hFc (fun q _ h => hFc q h) (fun E ce q9 u_2 t H locs ht hvm hpx hBX hz1 hk1 hS hce hv9 hcl => ?_) (fun r u_2 t H locs ht hvm hw hB hz1 hk1 hS => ?_)
  · have hne : ¬ q_1.1 = 0 := xnm_ne hBX.1
    rw [if_neg hne] at hm
    have hX9 := hBX.1
    have hB := hBX.2
    have hP : va_P (DG G) clP3 (wC G a T F U S D R M N P) H := by rw [← ht]; exact hB.1
    have hD : va_D A (wC G a T F U S D R M N P) := hB.2.weaken (fun _ p _ h => hFc p.1 h)
    by_cases k_3 : q_1.1 = 4
    · rw [if_pos k_3] at hm
      rw [k_3] at hX9
      obtain rfl : "java/util/NoSuchElementException" = E := Option.some.inj (xnm4.symm.trans hX9)
      refine vx_widen (k := 1) (n := 6) (Nat.le_of_ble_eq_true rfl) (Nat.le_of_ble_eq_true rfl) ?_
      refine vx_catch hown (tableOf []) ⟨0, 5, 6, 44⟩ (tableOf []) (htab.trans rfl) xP0 (by decide) (by decide) (hts _ wm748) (va_Nw.use rfl (hE.1 _ nw578)) hce hv9 hcl ?_
      refine W.eq (g2 := F0 m 6 ls [.ref q9]) rfl ?_
      refine lv_astore_n (lv' := [(2, .ref q9), (0, .ref (a.1 0)), (1, .int p1)]) hx hb dL_contextSize_6 rfl hl (by decide) rfl (fun ls hl => ?_)
      refine lv_ldc (v := (-3000000)) hx hb hown (hts _ wm758) dL_contextSize_7 ?_
      obtain rfl := Option.some.inj hm
      subst hAe
      refine W.widen (k := 1) (n := 6) (Nat.le_of_ble_eq_true rfl) (Nat.le_of_ble_eq_true rfl) ?_
      exact vx_ret (W.iret (v := (-3000000)) hx hb hr (fun t ht hW => ⟨⟨(-3000000), (), rfl, rfl, ⟨by rw [ht]; exact hP, hD⟩⟩, hS.F ht⟩) hS.2.2 dL_contextSize_9 hlocks)
    · rw [if_neg k_3] at hm
      cases hm
  · rw [if_pos hw.1] at hm
    rw [show r = q_1.2 from hw.2]
    have hP : va_P (DG G) clP3 (wC G a T F U S D R M N P) H := by rw [← ht]; exact hB.1
    have hD : va_D A (wC G a T F U S D R M N P) := hB.2.weaken (fun _ p _ h => hFc p.1 h)
    refine W.widen (k := 1) (n := 6) (Nat.le_of_ble_eq_true rfl) (Nat.le_of_ble_eq_true rfl) ?_
    obtain rfl := Option.some.inj hm
    subst hAe
    refine W.widen (k := 1) (n := 6) (Nat.le_of_ble_eq_true rfl) (Nat.le_of_ble_eq_true rfl) ?_
    exact vx_ret (W.iret (v := q_1.2) hx hb hr (fun t ht hW => ⟨⟨q_1.2, (), rfl, rfl, ⟨by rw [ht]; exact hP, hD⟩⟩, hS.F ht⟩) hS.2.2 dL_contextSize_5 hlocks)
def f_L_contextType (T : TS) (D : DS) (P : PS) (p1 : Int32) (p2 : Int32) : Option (Int32) := (Option.bind (f_X11_contextType T D P p1 p2) (fun q_1 => (if q_1.1 = 0 then some q_1.2 else (if q_1.1 = 4 then some (-3000000) else (if q_1.1 = 3 then some (-2500000) else none)))))
set_option maxHeartbeats 2000000 in
set_option maxRecDepth 100000 in
theorem k_L_contextType (l : Launch) (hfl : l.stackTraces = false) (G : GC) (a : AS) (T : TS) (F : FS) (U : US) (S : SS) (D : DS) (R : RS) (M : MS) (N : NS) (P : PS) (hlk : lkA a D.1.toNatClampNeg D.2.1.toNatClampNeg) (p1 : Int32) (p2 : Int32) (r9 : Int32) (hm : f_L_contextType T D P p1 p2 = some r9) (sz : Nat) : vx_Met l yL_contextType (Cond.codeWith yL_contextType cL_contextType 4 (some .int) [(0, 6, 7, 44), (0, 6, 11, 32)] :: W0) ({ frames := 8, cells := 2, slots := 12, locals := 127 }) (va_Pc [.ref (a.1 0), .int p1, .int p2] (WD G (wC G a T F U S D R M N P) sz)) (va_Qi (S := Unit) (fun r _ => r = r9) (fun _ t => PW G (va_A (wC G a T F U S D R M N P) sz) (wC G a T F U S D R M N P) t) (va_A (wC G a T F U S D R M N P) sz)) (vx_X (fun _ : Unit => False) (fun (_ : String) (_ : Unit) (_ : State) => True) (va_A (wC G a T F U S D R M N P) sz)) 2 12 (va_A (wC G a T F U S D R M N P) sz) := by
  rw [f_L_contextType] at hm
  refine vx_ofWH (cc := cL_contextType) (maxL := 4) (ret := (some .int)) (hh := [(0, 6, 7, 44), (0, 6, 11, 32)]) (by decide) rfl ?_
  intro p e s m args below meth c s₁ B hml hv
  obtain ⟨rfl, hsz, hP, hK, hD0, hE⟩ := hv
  have hx := B.exec
  have hb := B.bytes
  have hr := B.returns
  have hts := w0_tail B.pre
  have hown : s.vm.findClass RL = some m.cls := findClass_of_methodNamed B.named
  have hlocks := B.notSynchronized
  have htab := vx_table (x := yL_contextType) B (hts _ wm1081)
  have hD := hD0.self (sz := sz)
  obtain ⟨A, hAe⟩ : ∃ A, (va_A (wC G a T F U S D R M N P) sz) = A := ⟨_, rfl⟩
  rw [hAe] at hD hE
  have hA : ∀ q : Nat, s.heap.size ≤ q → A q := fun q h => by rw [← hAe]; exact Or.inr (by rw [← hsz]; exact h)
  have hS : va_S A s.heap s.heap [] := va_S.rf
  obtain ⟨H, hHe⟩ : ∃ H : Heap, H = s.heap := ⟨_, rfl⟩
  have hP : va_P (DG G) clP3 (wC G a T F U S D R M N P) H := by rw [hHe]; exact hP
  have hS : va_S A s.heap H [] := by rw [hHe]; exact hS
  have hl := lv_entry ([.ref (a.1 0), .int p1, .int p2]) (n := 4) (Nat.le_of_ble_eq_true rfl)
  rw [lg_entry_eq, ← hHe]
  generalize (lg_sl ([.ref (a.1 0), .int p1, .int p2]) ++ List.replicate (4 - (lg_sl ([.ref (a.1 0), .int p1, .int p2])).length) Slot.unset).toArray = ls at hl ⊢
  have hl : lv_has ls 4 [(0, .ref (a.1 0)), (1, .int p1), (2, .int p2)] := hl
  refine lv_aload_n hx hb dL_contextType_0 rfl (lv_at hl 0 rfl) ?_
  refine lv_iload_n hx hb dL_contextType_1 rfl (lv_at hl 1 rfl) ?_
  refine lv_iload_n hx hb dL_contextType_2 rfl (lv_at hl 2 rfl) ?_
  obtain ⟨q_1, hq_1, hm⟩ := bind_some hm
  have hFc := free_all hD hS hA
  refine vx_calli (vx_runV (As := [.int p1, .int p2]) (rest := []) ⟨hx, hb, hml, hown, hts⟩ (k_X11_contextType l hfl G a T F U S D R M N P hlk p1 p2  q_1.1 q_1.2 hq_1 H.size) (cwV 2 hts (gV wm1082 wm1083 wm1084 wm1 wm1085) rfl rfl rfl (by decide +kernel) ⟨Nat.le_of_ble_eq_true rfl, Nat.le_of_ble_eq_true rfl⟩) (pre_v (pre_w hK hP hD hS hE hFc) (va_recv hK hP (ci := 10) (q0 := 0) rfl rfl)) rfl rfl hl.1 rfl (lv_room (Nat.le_of_ble_eq_true rfl)) dL_contextType_3 ⟨Nat.le_of_ble_eq_true rfl, Nat.le_of_ble_eq_true rfl⟩) hS (fun q _ h => hFc q h) hFc (fun q _ h => hFc q h) (fun E ce q9 u_2 t H locs ht hvm hpx hBX hz1 hk1 hS hce hv9 hcl => ?_) (fun r u_2 t H locs ht hvm hw hB hz1 hk1 hS => ?_)
  · have hne : ¬ q_1.1 = 0 := xnm_ne hBX.1
    rw [if_neg hne] at hm
    have hX9 := hBX.1
    have hB := hBX.2
    have hP : va_P (DG G) clP3 (wC G a T F U S D R M N P) H := by rw [← ht]; exact hB.1
    have hD : va_D A (wC G a T F U S D R M N P) := hB.2.weaken (fun _ p _ h => hFc p.1 h)
    by_cases k_3 : q_1.1 = 4
    · rw [if_pos k_3] at hm
      rw [k_3] at hX9
      obtain rfl : "java/util/NoSuchElementException" = E := Option.some.inj (xnm4.symm.trans hX9)
      refine vx_widen (k := 2) (n := 12) (Nat.le_of_ble_eq_true rfl) (Nat.le_of_ble_eq_true rfl) ?_
      refine vx_catch hown (tableOf []) ⟨0, 6, 7, 44⟩ (tableOf [(0, 6, 11, 32)]) (htab.trans rfl) xP0 (by decide) (by decide) (hts _ wm748) (va_Nw.use rfl (hE.1 _ nw578)) hce hv9 hcl ?_
      refine W.eq (g2 := F0 m 7 ls [.ref q9]) rfl ?_
      refine lv_astore_n (lv' := [(3, .ref q9), (0, .ref (a.1 0)), (1, .int p1), (2, .int p2)]) hx hb dL_contextType_7 rfl hl (by decide) rfl (fun ls hl => ?_)
      refine lv_ldc (v := (-3000000)) hx hb hown (hts _ wm758) dL_contextType_8 ?_
      obtain rfl := Option.some.inj hm
      subst hAe
      refine W.widen (k := 2) (n := 12) (Nat.le_of_ble_eq_true rfl) (Nat.le_of_ble_eq_true rfl) ?_
      exact vx_ret (W.iret (v := (-3000000)) hx hb hr (fun t ht hW => ⟨⟨(-3000000), (), rfl, rfl, ⟨by rw [ht]; exact hP, hD⟩⟩, hS.F ht⟩) hS.2.2 dL_contextType_10 hlocks)
    · rw [if_neg k_3] at hm
      by_cases k_4 : q_1.1 = 3
      · rw [if_pos k_4] at hm
        rw [k_4] at hX9
        obtain rfl : "java/lang/IndexOutOfBoundsException" = E := Option.some.inj (xnm3.symm.trans hX9)
        refine vx_widen (k := 2) (n := 12) (Nat.le_of_ble_eq_true rfl) (Nat.le_of_ble_eq_true rfl) ?_
        refine vx_catch hown (tableOf [(0, 6, 7, 44)]) ⟨0, 6, 11, 32⟩ (tableOf []) (htab.trans rfl) (xPc (Or.inr ⟨by decide, _, hts _ wm748, hE.2.2.1 _ nc6⟩) xP0) (by decide) (by decide) (hts _ wm699) (va_Nw.use rfl (hE.1 _ nw325)) hce hv9 hcl ?_
        refine W.eq (g2 := F0 m 11 ls [.ref q9]) rfl ?_
        refine lv_astore_n (lv' := [(3, .ref q9), (0, .ref (a.1 0)), (1, .int p1), (2, .int p2)]) hx hb dL_contextType_11 rfl hl (by decide) rfl (fun ls hl => ?_)
        refine lv_ldc (v := (-2500000)) hx hb hown (hts _ wm730) dL_contextType_12 ?_
        obtain rfl := Option.some.inj hm
        subst hAe
        refine W.widen (k := 2) (n := 12) (Nat.le_of_ble_eq_true rfl) (Nat.le_of_ble_eq_true rfl) ?_
        exact vx_ret (W.iret (v := (-2500000)) hx hb hr (fun t ht hW => ⟨⟨(-2500000), (), rfl, rfl, ⟨by rw [ht]; exact hP, hD⟩⟩, hS.F ht⟩) hS.2.2 dL_contextType_14 hlocks)
      · rw [if_neg k_4] at hm
        cases hm
  · rw [if_pos hw.1] at hm
    rw [show r = q_1.2 from hw.2]
    have hP : va_P (DG G) clP3 (wC G a T F U S D R M N P) H := by rw [← ht]; exact hB.1
    have hD : va_D A (wC G a T F U S D R M N P) := hB.2.weaken (fun _ p _ h => hFc p.1 h)
    refine W.widen (k := 2) (n := 12) (Nat.le_of_ble_eq_true rfl) (Nat.le_of_ble_eq_true rfl) ?_
    obtain rfl := Option.some.inj hm
    subst hAe
    refine W.widen (k := 2) (n := 12) (Nat.le_of_ble_eq_true rfl) (Nat.le_of_ble_eq_true rfl) ?_
    exact vx_ret (W.iret (v := q_1.2) hx hb hr (fun t ht hW => ⟨⟨q_1.2, (), rfl, rfl, ⟨by rw [ht]; exact hP, hD⟩⟩, hS.F ht⟩) hS.2.2 dL_contextType_6 hlocks)
def f_L_openGoals (D : DS) (P : PS) (p1 : Int32) : Option (Int32) := (Option.bind (f_X11_openGoals D P p1) (fun q_1 => (if q_1.1 = 0 then some q_1.2 else (if q_1.1 = 4 then some (-3000000) else none))))
set_option maxHeartbeats 2000000 in
set_option maxRecDepth 100000 in
theorem k_L_openGoals (l : Launch) (hfl : l.stackTraces = false) (G : GC) (a : AS) (T : TS) (F : FS) (U : US) (S : SS) (D : DS) (R : RS) (M : MS) (N : NS) (P : PS) (hlk : lkA a D.1.toNatClampNeg D.2.1.toNatClampNeg) (p1 : Int32) (r9 : Int32) (hm : f_L_openGoals D P p1 = some r9) (sz : Nat) : vx_Met l yL_openGoals (Cond.codeWith yL_openGoals cL_openGoals 3 (some .int) [(0, 5, 6, 44)] :: W0) ({ frames := 8, cells := 1, slots := 6, locals := 125 }) (va_Pc [.ref (a.1 0), .int p1] (WD G (wC G a T F U S D R M N P) sz)) (va_Qi (S := Unit) (fun r _ => r = r9) (fun _ t => PW G (va_A (wC G a T F U S D R M N P) sz) (wC G a T F U S D R M N P) t) (va_A (wC G a T F U S D R M N P) sz)) (vx_X (fun _ : Unit => False) (fun (_ : String) (_ : Unit) (_ : State) => True) (va_A (wC G a T F U S D R M N P) sz)) 1 6 (va_A (wC G a T F U S D R M N P) sz) := by
  rw [f_L_openGoals] at hm
  refine vx_ofWH (cc := cL_openGoals) (maxL := 3) (ret := (some .int)) (hh := [(0, 5, 6, 44)]) (by decide) rfl ?_
  intro p e s m args below meth c s₁ B hml hv
  obtain ⟨rfl, hsz, hP, hK, hD0, hE⟩ := hv
  have hx := B.exec
  have hb := B.bytes
  have hr := B.returns
  have hts := w0_tail B.pre
  have hown : s.vm.findClass RL = some m.cls := findClass_of_methodNamed B.named
  have hlocks := B.notSynchronized
  have htab := vx_table (x := yL_openGoals) B (hts _ wm1089)
  have hD := hD0.self (sz := sz)
  obtain ⟨A, hAe⟩ : ∃ A, (va_A (wC G a T F U S D R M N P) sz) = A := ⟨_, rfl⟩
  rw [hAe] at hD hE
  have hA : ∀ q : Nat, s.heap.size ≤ q → A q := fun q h => by rw [← hAe]; exact Or.inr (by rw [← hsz]; exact h)
  have hS : va_S A s.heap s.heap [] := va_S.rf
  obtain ⟨H, hHe⟩ : ∃ H : Heap, H = s.heap := ⟨_, rfl⟩
  have hP : va_P (DG G) clP3 (wC G a T F U S D R M N P) H := by rw [hHe]; exact hP
  have hS : va_S A s.heap H [] := by rw [hHe]; exact hS
  have hl := lv_entry ([.ref (a.1 0), .int p1]) (n := 3) (Nat.le_of_ble_eq_true rfl)
  rw [lg_entry_eq, ← hHe]
  generalize (lg_sl ([.ref (a.1 0), .int p1]) ++ List.replicate (3 - (lg_sl ([.ref (a.1 0), .int p1])).length) Slot.unset).toArray = ls at hl ⊢
  have hl : lv_has ls 3 [(0, .ref (a.1 0)), (1, .int p1)] := hl
  refine lv_aload_n hx hb dL_openGoals_0 rfl (lv_at hl 0 rfl) ?_
  refine lv_iload_n hx hb dL_openGoals_1 rfl (lv_at hl 1 rfl) ?_
  obtain ⟨q_1, hq_1, hm⟩ := bind_some hm
  have hFc := free_all hD hS hA
  refine vx_calli (vx_runV (As := [.int p1]) (rest := []) ⟨hx, hb, hml, hown, hts⟩ (k_X11_openGoals l hfl G a T F U S D R M N P hlk p1  q_1.1 q_1.2 hq_1 H.size) (cwV 1 hts (gV wm1090 wm1091 wm1092 wm1 wm1093) rfl rfl rfl (by decide +kernel) ⟨Nat.le_of_ble_eq_true rfl, Nat.le_of_ble_eq_true rfl⟩) (pre_v (pre_w hK hP hD hS hE hFc) (va_recv hK hP (ci := 10) (q0 := 0) rfl rfl)) rfl rfl hl.1 rfl (lv_room (Nat.le_of_ble_eq_true rfl)) dL_openGoals_2 ⟨Nat.le_of_ble_eq_true rfl, Nat.le_of_ble_eq_true rfl⟩) hS (fun q _ h => hFc q h) hFc (fun q _ h => hFc q h) (fun E ce q9 u_2 t H locs ht hvm hpx hBX hz1 hk1 hS hce hv9 hcl => ?_) (fun r u_2 t H locs ht hvm hw hB hz1 hk1 hS => ?_)
  · have hne : ¬ q_1.1 = 0 := xnm_ne hBX.1
    rw [if_neg hne] at hm
    have hX9 := hBX.1
    have hB := hBX.2
    have hP : va_P (DG G) clP3 (wC G a T F U S D R M N P) H := by rw [← ht]; exact hB.1
    have hD : va_D A (wC G a T F U S D R M N P) := hB.2.weaken (fun _ p _ h => hFc p.1 h)
    by_cases k_3 : q_1.1 = 4
    · rw [if_pos k_3] at hm
      rw [k_3] at hX9
      obtain rfl : "java/util/NoSuchElementException" = E := Option.some.inj (xnm4.symm.trans hX9)
      refine vx_widen (k := 1) (n := 6) (Nat.le_of_ble_eq_true rfl) (Nat.le_of_ble_eq_true rfl) ?_
      refine vx_catch hown (tableOf []) ⟨0, 5, 6, 44⟩ (tableOf []) (htab.trans rfl) xP0 (by decide) (by decide) (hts _ wm748) (va_Nw.use rfl (hE.1 _ nw578)) hce hv9 hcl ?_
      refine W.eq (g2 := F0 m 6 ls [.ref q9]) rfl ?_
      refine lv_astore_n (lv' := [(2, .ref q9), (0, .ref (a.1 0)), (1, .int p1)]) hx hb dL_openGoals_6 rfl hl (by decide) rfl (fun ls hl => ?_)
      refine lv_ldc (v := (-3000000)) hx hb hown (hts _ wm758) dL_openGoals_7 ?_
      obtain rfl := Option.some.inj hm
      subst hAe
      refine W.widen (k := 1) (n := 6) (Nat.le_of_ble_eq_true rfl) (Nat.le_of_ble_eq_true rfl) ?_
      exact vx_ret (W.iret (v := (-3000000)) hx hb hr (fun t ht hW => ⟨⟨(-3000000), (), rfl, rfl, ⟨by rw [ht]; exact hP, hD⟩⟩, hS.F ht⟩) hS.2.2 dL_openGoals_9 hlocks)
    · rw [if_neg k_3] at hm
      cases hm
  · rw [if_pos hw.1] at hm
    rw [show r = q_1.2 from hw.2]
    have hP : va_P (DG G) clP3 (wC G a T F U S D R M N P) H := by rw [← ht]; exact hB.1
    have hD : va_D A (wC G a T F U S D R M N P) := hB.2.weaken (fun _ p _ h => hFc p.1 h)
    refine W.widen (k := 1) (n := 6) (Nat.le_of_ble_eq_true rfl) (Nat.le_of_ble_eq_true rfl) ?_
    obtain rfl := Option.some.inj hm
    subst hAe
    refine W.widen (k := 1) (n := 6) (Nat.le_of_ble_eq_true rfl) (Nat.le_of_ble_eq_true rfl) ?_
    exact vx_ret (W.iret (v := q_1.2) hx hb hr (fun t ht hW => ⟨⟨q_1.2, (), rfl, rfl, ⟨by rw [ht]; exact hP, hD⟩⟩, hS.F ht⟩) hS.2.2 dL_openGoals_5 hlocks)
def f_L_accept (T : TS) (D : DS) (R : RS) (P : PS) (p1 : Int32) : Option (Int32 × DS × RS) := (Option.bind (f_X11_accept T D R P p1) (fun q_1 => (if q_1.1 = 0 then some (q_1.2.1, q_1.2.2.1, q_1.2.2.2) else (if q_1.1 = 4 then some ((-3000000), q_1.2.2.1, q_1.2.2.2) else (if q_1.1 = 2 then some ((-1000000), q_1.2.2.1, q_1.2.2.2) else (if q_1.1 = 5 then some ((-1500000), q_1.2.2.1, q_1.2.2.2) else none))))))
set_option maxHeartbeats 2000000 in
set_option maxRecDepth 100000 in
theorem k_L_accept (l : Launch) (hfl : l.stackTraces = false) (G : GC) (a : AS) (T : TS) (F : FS) (U : US) (S : SS) (D : DS) (R : RS) (M : MS) (N : NS) (P : PS) (hlk : lkA a D.1.toNatClampNeg D.2.1.toNatClampNeg) (p1 : Int32) (r9 : Int32) (D9 : DS) (R9 : RS) (hm : f_L_accept T D R P p1 = some (r9, D9, R9)) (sz : Nat) : vx_Met l yL_accept (Cond.codeWith yL_accept cL_accept 3 (some .int) [(0, 5, 6, 44), (0, 5, 10, 22), (0, 5, 14, 70)] :: W0) ({ frames := 543, cells := 2, slots := 12, locals := 14471 }) (va_Pc [.ref (a.1 0), .int p1] (WD G (wC G a T F U S D R M N P) sz)) (va_Qi (S := BS) (fun r _ => r = r9) (fun b2 t => lkA (a.1, b2) D9.1.toNatClampNeg D9.2.1.toNatClampNeg ∧ PW G (va_A (wC G a T F U S D R M N P) sz) (wC G (a.1, b2) T F U S D9 R9 M N P) t) (va_A (wC G a T F U S D R M N P) sz)) (vx_X (fun _ : Unit => False) (fun (_ : String) (_ : Unit) (_ : State) => True) (va_A (wC G a T F U S D R M N P) sz)) 2 12 (va_A (wC G a T F U S D R M N P) sz) := by
  rw [f_L_accept] at hm
  refine vx_ofWH (cc := cL_accept) (maxL := 3) (ret := (some .int)) (hh := [(0, 5, 6, 44), (0, 5, 10, 22), (0, 5, 14, 70)]) (by decide) rfl ?_
  intro p e s m args below meth c s₁ B hml hv
  obtain ⟨rfl, hsz, hP, hK, hD0, hE⟩ := hv
  have hx := B.exec
  have hb := B.bytes
  have hr := B.returns
  have hts := w0_tail B.pre
  have hown : s.vm.findClass RL = some m.cls := findClass_of_methodNamed B.named
  have hlocks := B.notSynchronized
  have htab := vx_table (x := yL_accept) B (hts _ wm1096)
  have hD := hD0.self (sz := sz)
  obtain ⟨A, hAe⟩ : ∃ A, (va_A (wC G a T F U S D R M N P) sz) = A := ⟨_, rfl⟩
  rw [hAe] at hD hE
  have hA : ∀ q : Nat, s.heap.size ≤ q → A q := fun q h => by rw [← hAe]; exact Or.inr (by rw [← hsz]; exact h)
  have hS : va_S A s.heap s.heap [] := va_S.rf
  obtain ⟨H, hHe⟩ : ∃ H : Heap, H = s.heap := ⟨_, rfl⟩
  have hP : va_P (DG G) clP3 (wC G a T F U S D R M N P) H := by rw [hHe]; exact hP
  have hS : va_S A s.heap H [] := by rw [hHe]; exact hS
  have hl := lv_entry ([.ref (a.1 0), .int p1]) (n := 3) (Nat.le_of_ble_eq_true rfl)
  rw [lg_entry_eq, ← hHe]
  generalize (lg_sl ([.ref (a.1 0), .int p1]) ++ List.replicate (3 - (lg_sl ([.ref (a.1 0), .int p1])).length) Slot.unset).toArray = ls at hl ⊢
  have hl : lv_has ls 3 [(0, .ref (a.1 0)), (1, .int p1)] := hl
  refine lv_aload_n hx hb dL_accept_0 rfl (lv_at hl 0 rfl) ?_
  refine lv_iload_n hx hb dL_accept_1 rfl (lv_at hl 1 rfl) ?_
  obtain ⟨q_1, hq_1, hm⟩ := bind_some hm
  have hFc := free_all hD hS hA
  refine vx_calli (vx_runV (As := [.int p1]) (rest := []) ⟨hx, hb, hml, hown, hts⟩ (k_X11_accept l hfl G a T F U S D R M N P hlk p1  q_1.1 q_1.2.1 q_1.2.2.1 q_1.2.2.2 hq_1 H.size) (cwV 1 hts (gV wm1097 wm1098 wm1099 wm1 wm1100) rfl rfl rfl (by decide +kernel) ⟨Nat.le_of_ble_eq_true rfl, Nat.le_of_ble_eq_true rfl⟩) (pre_v (pre_w hK hP hD hS hE hFc) (va_recv hK hP (ci := 10) (q0 := 0) rfl rfl)) rfl rfl hl.1 rfl (lv_room (Nat.le_of_ble_eq_true rfl)) dL_accept_2 ⟨Nat.le_of_ble_eq_true rfl, Nat.le_of_ble_eq_true rfl⟩) hS (fun q _ h => hFc q h) hFc (fun q _ h => hFc q h) (fun E ce q9 u_2 t H locs ht hvm hpx hBX hz1 hk1 hS hce hv9 hcl => ?_) (fun r u_2 t H locs ht hvm hw hB hz1 hk1 hS => ?_)
  · have hne : ¬ q_1.1 = 0 := xnm_ne hBX.1
    rw [if_neg hne] at hm
    have hX9 := hBX.1
    have hB := hBX.2
    have hlk9 := hB.1
    have hlk : lkA (a.1, u_2) (Int32.toNatClampNeg q_1.2.2.1.1) (Int32.toNatClampNeg q_1.2.2.1.2.1) := hlk9
    have hP : va_P (DG G) clP3 (wC G (a.1, u_2) T F U S q_1.2.2.1 q_1.2.2.2 M N P) H := by rw [← ht]; exact hB.2.1
    have hD : va_D A (wC G (a.1, u_2) T F U S q_1.2.2.1 q_1.2.2.2 M N P) := hB.2.2.weaken (fun _ p _ h => hFc p.1 h)
    by_cases k_3 : q_1.1 = 4
    · rw [if_pos k_3] at hm
      rw [k_3] at hX9
      obtain rfl : "java/util/NoSuchElementException" = E := Option.some.inj (xnm4.symm.trans hX9)
      refine vx_widen (k := 2) (n := 12) (Nat.le_of_ble_eq_true rfl) (Nat.le_of_ble_eq_true rfl) ?_
      refine vx_catch hown (tableOf []) ⟨0, 5, 6, 44⟩ (tableOf [(0, 5, 10, 22), (0, 5, 14, 70)]) (htab.trans rfl) xP0 (by decide) (by decide) (hts _ wm748) (va_Nw.use rfl (hE.1 _ nw578)) hce hv9 hcl ?_
      refine W.eq (g2 := F0 m 6 ls [.ref q9]) rfl ?_
      refine lv_astore_n (lv' := [(2, .ref q9), (0, .ref (a.1 0)), (1, .int p1)]) hx hb dL_accept_6 rfl hl (by decide) rfl (fun ls hl => ?_)
      refine lv_ldc (v := (-3000000)) hx hb hown (hts _ wm758) dL_accept_7 ?_
      simp only [Option.some.injEq, Prod.mk.injEq] at hm
      obtain ⟨rfl, rfl, rfl⟩ := hm
      subst hAe
      refine W.widen (k := 2) (n := 12) (Nat.le_of_ble_eq_true rfl) (Nat.le_of_ble_eq_true rfl) ?_
      exact vx_ret (W.iret (v := (-3000000)) hx hb hr (fun t ht hW => ⟨⟨(-3000000), u_2, rfl, rfl, ⟨hlk9, by rw [ht]; exact hP, hD⟩⟩, hS.F ht⟩) hS.2.2 dL_accept_9 hlocks)
    · rw [if_neg k_3] at hm
      by_cases k_4 : q_1.1 = 2
      · rw [if_pos k_4] at hm
        rw [k_4] at hX9
        obtain rfl : "java/lang/IllegalStateException" = E := Option.some.inj (xnm2.symm.trans hX9)
        refine vx_widen (k := 2) (n := 12) (Nat.le_of_ble_eq_true rfl) (Nat.le_of_ble_eq_true rfl) ?_
        refine vx_catch hown (tableOf [(0, 5, 6, 44)]) ⟨0, 5, 10, 22⟩ (tableOf [(0, 5, 14, 70)]) (htab.trans rfl) (xPc (Or.inr ⟨by decide, _, hts _ wm748, hE.2.2.1 _ nc2⟩) xP0) (by decide) (by decide) (hts _ wm644) (va_Nw.use rfl (hE.1 _ nw671)) hce hv9 hcl ?_
        refine W.eq (g2 := F0 m 10 ls [.ref q9]) rfl ?_
        refine lv_astore_n (lv' := [(2, .ref q9), (0, .ref (a.1 0)), (1, .int p1)]) hx hb dL_accept_10 rfl hl (by decide) rfl (fun ls hl => ?_)
        refine lv_ldc (v := (-1000000)) hx hb hown (hts _ wm687) dL_accept_11 ?_
        simp only [Option.some.injEq, Prod.mk.injEq] at hm
        obtain ⟨rfl, rfl, rfl⟩ := hm
        subst hAe
        refine W.widen (k := 2) (n := 12) (Nat.le_of_ble_eq_true rfl) (Nat.le_of_ble_eq_true rfl) ?_
        exact vx_ret (W.iret (v := (-1000000)) hx hb hr (fun t ht hW => ⟨⟨(-1000000), u_2, rfl, rfl, ⟨hlk9, by rw [ht]; exact hP, hD⟩⟩, hS.F ht⟩) hS.2.2 dL_accept_13 hlocks)
      · rw [if_neg k_4] at hm
        by_cases k_5 : q_1.1 = 5
        · rw [if_pos k_5] at hm
          rw [k_5] at hX9
          obtain rfl : "java/lang/UnsupportedOperationException" = E := Option.some.inj (xnm5.symm.trans hX9)
          refine vx_widen (k := 2) (n := 12) (Nat.le_of_ble_eq_true rfl) (Nat.le_of_ble_eq_true rfl) ?_
          refine vx_catch hown (tableOf [(0, 5, 6, 44), (0, 5, 10, 22)]) ⟨0, 5, 14, 70⟩ (tableOf []) (htab.trans rfl) (xPc (Or.inr ⟨by decide, _, hts _ wm748, hE.2.2.1 _ nc8⟩) (xPc (Or.inr ⟨by decide, _, hts _ wm644, hE.2.2.1 _ nc7⟩) xP0)) (by decide) (by decide) (hts _ wm810) (va_Nw.use rfl (hE.1 _ nw821)) hce hv9 hcl ?_
          refine W.eq (g2 := F0 m 14 ls [.ref q9]) rfl ?_
          refine lv_astore_n (lv' := [(2, .ref q9), (0, .ref (a.1 0)), (1, .int p1)]) hx hb dL_accept_14 rfl hl (by decide) rfl (fun ls hl => ?_)
          refine lv_ldc (v := (-1500000)) hx hb hown (hts _ wm835) dL_accept_15 ?_
          simp only [Option.some.injEq, Prod.mk.injEq] at hm
          obtain ⟨rfl, rfl, rfl⟩ := hm
          subst hAe
          refine W.widen (k := 2) (n := 12) (Nat.le_of_ble_eq_true rfl) (Nat.le_of_ble_eq_true rfl) ?_
          exact vx_ret (W.iret (v := (-1500000)) hx hb hr (fun t ht hW => ⟨⟨(-1500000), u_2, rfl, rfl, ⟨hlk9, by rw [ht]; exact hP, hD⟩⟩, hS.F ht⟩) hS.2.2 dL_accept_17 hlocks)
        · rw [if_neg k_5] at hm
          cases hm
  · rw [if_pos hw.1] at hm
    rw [show r = q_1.2.1 from hw.2]
    have hlk9 := hB.1
    have hlk : lkA (a.1, u_2) (Int32.toNatClampNeg q_1.2.2.1.1) (Int32.toNatClampNeg q_1.2.2.1.2.1) := hlk9
    have hP : va_P (DG G) clP3 (wC G (a.1, u_2) T F U S q_1.2.2.1 q_1.2.2.2 M N P) H := by rw [← ht]; exact hB.2.1
    have hD : va_D A (wC G (a.1, u_2) T F U S q_1.2.2.1 q_1.2.2.2 M N P) := hB.2.2.weaken (fun _ p _ h => hFc p.1 h)
    refine W.widen (k := 2) (n := 12) (Nat.le_of_ble_eq_true rfl) (Nat.le_of_ble_eq_true rfl) ?_
    simp only [Option.some.injEq, Prod.mk.injEq] at hm
    obtain ⟨rfl, rfl, rfl⟩ := hm
    subst hAe
    refine W.widen (k := 2) (n := 12) (Nat.le_of_ble_eq_true rfl) (Nat.le_of_ble_eq_true rfl) ?_
    exact vx_ret (W.iret (v := q_1.2.1) hx hb hr (fun t ht hW => ⟨⟨q_1.2.1, u_2, rfl, rfl, ⟨hlk9, by rw [ht]; exact hP, hD⟩⟩, hS.F ht⟩) hS.2.2 dL_accept_5 hlocks)
def f_L_run (T : TS) (F : FS) (U : US) (S : SS) (D : DS) (M : MS) (N : NS) (P : PS) (p1 : Int32) : Option (Int32 × TS × FS × US × MS × NS) := (Option.bind (f_X11_run T F U S D M N P p1) (fun q_1 => (if q_1.1 = 0 then some (q_1.2.1, q_1.2.2.1, q_1.2.2.2.1, q_1.2.2.2.2.1, q_1.2.2.2.2.2.1, q_1.2.2.2.2.2.2) else (if q_1.1 = 3 then some ((-2500000), q_1.2.2.1, q_1.2.2.2.1, q_1.2.2.2.2.1, q_1.2.2.2.2.2.1, q_1.2.2.2.2.2.2) else (if q_1.1 = 5 then some ((-1500000), q_1.2.2.1, q_1.2.2.2.1, q_1.2.2.2.2.1, q_1.2.2.2.2.2.1, q_1.2.2.2.2.2.2) else none)))))
set_option maxHeartbeats 2000000 in
set_option maxRecDepth 100000 in
theorem k_L_run (l : Launch) (hfl : l.stackTraces = false) (G : GC) (a : AS) (T : TS) (F : FS) (U : US) (S : SS) (D : DS) (R : RS) (M : MS) (N : NS) (P : PS) (hlk : lkA a D.1.toNatClampNeg D.2.1.toNatClampNeg) (p1 : Int32) (r9 : Int32) (T9 : TS) (F9 : FS) (U9 : US) (M9 : MS) (N9 : NS) (hm : f_L_run T F U S D M N P p1 = some (r9, T9, F9, U9, M9, N9)) (sz : Nat) : vx_Met l yL_run (Cond.codeWith yL_run cL_run 3 (some .int) [(0, 5, 6, 32), (0, 5, 10, 70)] :: W0) ({ frames := 583, cells := 2, slots := 12, locals := 15271 }) (va_Pc [.ref (a.1 0), .int p1] (WD G (wC G a T F U S D R M N P) sz)) (va_Qi (S := Unit) (fun r _ => r = r9) (fun _ t => PW G (va_A (wC G a T F U S D R M N P) sz) (wC G a T9 F9 U9 S D R M9 N9 P) t) (va_A (wC G a T F U S D R M N P) sz)) (vx_X (fun _ : Unit => False) (fun (_ : String) (_ : Unit) (_ : State) => True) (va_A (wC G a T F U S D R M N P) sz)) 2 12 (va_A (wC G a T F U S D R M N P) sz) := by
  rw [f_L_run] at hm
  refine vx_ofWH (cc := cL_run) (maxL := 3) (ret := (some .int)) (hh := [(0, 5, 6, 32), (0, 5, 10, 70)]) (by decide) rfl ?_
  intro p e s m args below meth c s₁ B hml hv
  obtain ⟨rfl, hsz, hP, hK, hD0, hE⟩ := hv
  have hx := B.exec
  have hb := B.bytes
  have hr := B.returns
  have hts := w0_tail B.pre
  have hown : s.vm.findClass RL = some m.cls := findClass_of_methodNamed B.named
  have hlocks := B.notSynchronized
  have htab := vx_table (x := yL_run) B (hts _ wm1153)
  have hD := hD0.self (sz := sz)
  obtain ⟨A, hAe⟩ : ∃ A, (va_A (wC G a T F U S D R M N P) sz) = A := ⟨_, rfl⟩
  rw [hAe] at hD hE
  have hA : ∀ q : Nat, s.heap.size ≤ q → A q := fun q h => by rw [← hAe]; exact Or.inr (by rw [← hsz]; exact h)
  have hS : va_S A s.heap s.heap [] := va_S.rf
  obtain ⟨H, hHe⟩ : ∃ H : Heap, H = s.heap := ⟨_, rfl⟩
  have hP : va_P (DG G) clP3 (wC G a T F U S D R M N P) H := by rw [hHe]; exact hP
  have hS : va_S A s.heap H [] := by rw [hHe]; exact hS
  have hl := lv_entry ([.ref (a.1 0), .int p1]) (n := 3) (Nat.le_of_ble_eq_true rfl)
  rw [lg_entry_eq, ← hHe]
  generalize (lg_sl ([.ref (a.1 0), .int p1]) ++ List.replicate (3 - (lg_sl ([.ref (a.1 0), .int p1])).length) Slot.unset).toArray = ls at hl ⊢
  have hl : lv_has ls 3 [(0, .ref (a.1 0)), (1, .int p1)] := hl
  refine lv_aload_n hx hb dL_run_0 rfl (lv_at hl 0 rfl) ?_
  refine lv_iload_n hx hb dL_run_1 rfl (lv_at hl 1 rfl) ?_
  obtain ⟨q_1, hq_1, hm⟩ := bind_some hm
  have hFc := free_all hD hS hA
  refine vx_calli (vx_runV (As := [.int p1]) (rest := []) ⟨hx, hb, hml, hown, hts⟩ (k_X11_run l hfl G a T F U S D R M N P hlk p1  q_1.1 q_1.2.1 q_1.2.2.1 q_1.2.2.2.1 q_1.2.2.2.2.1 q_1.2.2.2.2.2.1 q_1.2.2.2.2.2.2 hq_1 H.size) (cwV 1 hts (gV wm1154 wm1155 wm1156 wm1 wm1157) rfl rfl rfl (by decide +kernel) ⟨Nat.le_of_ble_eq_true rfl, Nat.le_of_ble_eq_true rfl⟩) (pre_v (pre_w hK hP hD hS hE hFc) (va_recv hK hP (ci := 10) (q0 := 0) rfl rfl)) rfl rfl hl.1 rfl (lv_room (Nat.le_of_ble_eq_true rfl)) dL_run_2 ⟨Nat.le_of_ble_eq_true rfl, Nat.le_of_ble_eq_true rfl⟩) hS (fun q _ h => hFc q h) hFc (fun q _ h => hFc q h) (fun E ce q9 u_2 t H locs ht hvm hpx hBX hz1 hk1 hS hce hv9 hcl => ?_) (fun r u_2 t H locs ht hvm hw hB hz1 hk1 hS => ?_)
  · have hne : ¬ q_1.1 = 0 := xnm_ne hBX.1
    rw [if_neg hne] at hm
    have hX9 := hBX.1
    have hB := hBX.2
    have hP : va_P (DG G) clP3 (wC G a q_1.2.2.1 q_1.2.2.2.1 q_1.2.2.2.2.1 S D R q_1.2.2.2.2.2.1 q_1.2.2.2.2.2.2 P) H := by rw [← ht]; exact hB.1
    have hD : va_D A (wC G a q_1.2.2.1 q_1.2.2.2.1 q_1.2.2.2.2.1 S D R q_1.2.2.2.2.2.1 q_1.2.2.2.2.2.2 P) := hB.2.weaken (fun _ p _ h => hFc p.1 h)
    by_cases k_3 : q_1.1 = 3
    · rw [if_pos k_3] at hm
      rw [k_3] at hX9
      obtain rfl : "java/lang/IndexOutOfBoundsException" = E := Option.some.inj (xnm3.symm.trans hX9)
      refine vx_widen (k := 2) (n := 12) (Nat.le_of_ble_eq_true rfl) (Nat.le_of_ble_eq_true rfl) ?_
      refine vx_catch hown (tableOf []) ⟨0, 5, 6, 32⟩ (tableOf [(0, 5, 10, 70)]) (htab.trans rfl) xP0 (by decide) (by decide) (hts _ wm699) (va_Nw.use rfl (hE.1 _ nw325)) hce hv9 hcl ?_
      refine W.eq (g2 := F0 m 6 ls [.ref q9]) rfl ?_
      refine lv_astore_n (lv' := [(2, .ref q9), (0, .ref (a.1 0)), (1, .int p1)]) hx hb dL_run_6 rfl hl (by decide) rfl (fun ls hl => ?_)
      refine lv_ldc (v := (-2500000)) hx hb hown (hts _ wm730) dL_run_7 ?_
      simp only [Option.some.injEq, Prod.mk.injEq] at hm
      obtain ⟨rfl, rfl, rfl, rfl, rfl, rfl⟩ := hm
      subst hAe
      refine W.widen (k := 2) (n := 12) (Nat.le_of_ble_eq_true rfl) (Nat.le_of_ble_eq_true rfl) ?_
      exact vx_ret (W.iret (v := (-2500000)) hx hb hr (fun t ht hW => ⟨⟨(-2500000), (), rfl, rfl, ⟨by rw [ht]; exact hP, hD⟩⟩, hS.F ht⟩) hS.2.2 dL_run_9 hlocks)
    · rw [if_neg k_3] at hm
      by_cases k_4 : q_1.1 = 5
      · rw [if_pos k_4] at hm
        rw [k_4] at hX9
        obtain rfl : "java/lang/UnsupportedOperationException" = E := Option.some.inj (xnm5.symm.trans hX9)
        refine vx_widen (k := 2) (n := 12) (Nat.le_of_ble_eq_true rfl) (Nat.le_of_ble_eq_true rfl) ?_
        refine vx_catch hown (tableOf [(0, 5, 6, 32)]) ⟨0, 5, 10, 70⟩ (tableOf []) (htab.trans rfl) (xPc (Or.inr ⟨by decide, _, hts _ wm699, hE.2.2.1 _ nc4⟩) xP0) (by decide) (by decide) (hts _ wm810) (va_Nw.use rfl (hE.1 _ nw821)) hce hv9 hcl ?_
        refine W.eq (g2 := F0 m 10 ls [.ref q9]) rfl ?_
        refine lv_astore_n (lv' := [(2, .ref q9), (0, .ref (a.1 0)), (1, .int p1)]) hx hb dL_run_10 rfl hl (by decide) rfl (fun ls hl => ?_)
        refine lv_ldc (v := (-1500000)) hx hb hown (hts _ wm835) dL_run_11 ?_
        simp only [Option.some.injEq, Prod.mk.injEq] at hm
        obtain ⟨rfl, rfl, rfl, rfl, rfl, rfl⟩ := hm
        subst hAe
        refine W.widen (k := 2) (n := 12) (Nat.le_of_ble_eq_true rfl) (Nat.le_of_ble_eq_true rfl) ?_
        exact vx_ret (W.iret (v := (-1500000)) hx hb hr (fun t ht hW => ⟨⟨(-1500000), (), rfl, rfl, ⟨by rw [ht]; exact hP, hD⟩⟩, hS.F ht⟩) hS.2.2 dL_run_13 hlocks)
      · rw [if_neg k_4] at hm
        cases hm
  · rw [if_pos hw.1] at hm
    rw [show r = q_1.2.1 from hw.2]
    have hP : va_P (DG G) clP3 (wC G a q_1.2.2.1 q_1.2.2.2.1 q_1.2.2.2.2.1 S D R q_1.2.2.2.2.2.1 q_1.2.2.2.2.2.2 P) H := by rw [← ht]; exact hB.1
    have hD : va_D A (wC G a q_1.2.2.1 q_1.2.2.2.1 q_1.2.2.2.2.1 S D R q_1.2.2.2.2.2.1 q_1.2.2.2.2.2.2 P) := hB.2.weaken (fun _ p _ h => hFc p.1 h)
    refine W.widen (k := 2) (n := 12) (Nat.le_of_ble_eq_true rfl) (Nat.le_of_ble_eq_true rfl) ?_
    simp only [Option.some.injEq, Prod.mk.injEq] at hm
    obtain ⟨rfl, rfl, rfl, rfl, rfl, rfl⟩ := hm
    subst hAe
    refine W.widen (k := 2) (n := 12) (Nat.le_of_ble_eq_true rfl) (Nat.le_of_ble_eq_true rfl) ?_
    exact vx_ret (W.iret (v := q_1.2.1) hx hb hr (fun t ht hW => ⟨⟨q_1.2.1, (), rfl, rfl, ⟨by rw [ht]; exact hP, hD⟩⟩, hS.F ht⟩) hS.2.2 dL_run_5 hlocks)
def f_L_runByClauses (T : TS) (F : FS) (U : US) (S : SS) (D : DS) (M : MS) (N : NS) (P : PS) (p1 : Int32) : Option (Int32 × TS × FS × US × MS) := (Option.bind (f_X11_runByClauses T F U S D M N P p1) (fun q_1 => (if q_1.1 = 0 then some (q_1.2.1, q_1.2.2.1, q_1.2.2.2.1, q_1.2.2.2.2.1, q_1.2.2.2.2.2) else (if q_1.1 = 3 then some ((-2500000), q_1.2.2.1, q_1.2.2.2.1, q_1.2.2.2.2.1, q_1.2.2.2.2.2) else (if q_1.1 = 5 then some ((-1500000), q_1.2.2.1, q_1.2.2.2.1, q_1.2.2.2.2.1, q_1.2.2.2.2.2) else none)))))
set_option maxHeartbeats 2000000 in
set_option maxRecDepth 100000 in
theorem k_L_runByClauses (l : Launch) (hfl : l.stackTraces = false) (G : GC) (a : AS) (T : TS) (F : FS) (U : US) (S : SS) (D : DS) (R : RS) (M : MS) (N : NS) (P : PS) (hlk : lkA a D.1.toNatClampNeg D.2.1.toNatClampNeg) (p1 : Int32) (r9 : Int32) (T9 : TS) (F9 : FS) (U9 : US) (M9 : MS) (hm : f_L_runByClauses T F U S D M N P p1 = some (r9, T9, F9, U9, M9)) (sz : Nat) : vx_Met l yL_runByClauses (Cond.codeWith yL_runByClauses cL_runByClauses 3 (some .int) [(0, 5, 6, 32), (0, 5, 10, 70)] :: W0) ({ frames := 583, cells := 2, slots := 12, locals := 15270 }) (va_Pc [.ref (a.1 0), .int p1] (WD G (wC G a T F U S D R M N P) sz)) (va_Qi (S := Unit) (fun r _ => r = r9) (fun _ t => PW G (va_A (wC G a T F U S D R M N P) sz) (wC G a T9 F9 U9 S D R M9 N P) t) (va_A (wC G a T F U S D R M N P) sz)) (vx_X (fun _ : Unit => False) (fun (_ : String) (_ : Unit) (_ : State) => True) (va_A (wC G a T F U S D R M N P) sz)) 2 12 (va_A (wC G a T F U S D R M N P) sz) := by
  rw [f_L_runByClauses] at hm
  refine vx_ofWH (cc := cL_runByClauses) (maxL := 3) (ret := (some .int)) (hh := [(0, 5, 6, 32), (0, 5, 10, 70)]) (by decide) rfl ?_
  intro p e s m args below meth c s₁ B hml hv
  obtain ⟨rfl, hsz, hP, hK, hD0, hE⟩ := hv
  have hx := B.exec
  have hb := B.bytes
  have hr := B.returns
  have hts := w0_tail B.pre
  have hown : s.vm.findClass RL = some m.cls := findClass_of_methodNamed B.named
  have hlocks := B.notSynchronized
  have htab := vx_table (x := yL_runByClauses) B (hts _ wm1225)
  have hD := hD0.self (sz := sz)
  obtain ⟨A, hAe⟩ : ∃ A, (va_A (wC G a T F U S D R M N P) sz) = A := ⟨_, rfl⟩
  rw [hAe] at hD hE
  have hA : ∀ q : Nat, s.heap.size ≤ q → A q := fun q h => by rw [← hAe]; exact Or.inr (by rw [← hsz]; exact h)
  have hS : va_S A s.heap s.heap [] := va_S.rf
  obtain ⟨H, hHe⟩ : ∃ H : Heap, H = s.heap := ⟨_, rfl⟩
  have hP : va_P (DG G) clP3 (wC G a T F U S D R M N P) H := by rw [hHe]; exact hP
  have hS : va_S A s.heap H [] := by rw [hHe]; exact hS
  have hl := lv_entry ([.ref (a.1 0), .int p1]) (n := 3) (Nat.le_of_ble_eq_true rfl)
  rw [lg_entry_eq, ← hHe]
  generalize (lg_sl ([.ref (a.1 0), .int p1]) ++ List.replicate (3 - (lg_sl ([.ref (a.1 0), .int p1])).length) Slot.unset).toArray = ls at hl ⊢
  have hl : lv_has ls 3 [(0, .ref (a.1 0)), (1, .int p1)] := hl
  refine lv_aload_n hx hb dL_runByClauses_0 rfl (lv_at hl 0 rfl) ?_
  refine lv_iload_n hx hb dL_runByClauses_1 rfl (lv_at hl 1 rfl) ?_
  obtain ⟨q_1, hq_1, hm⟩ := bind_some hm
  have hFc := free_all hD hS hA
  refine vx_calli (vx_runV (As := [.int p1]) (rest := []) ⟨hx, hb, hml, hown, hts⟩ (k_X11_runByClauses l hfl G a T F U S D R M N P hlk p1  q_1.1 q_1.2.1 q_1.2.2.1 q_1.2.2.2.1 q_1.2.2.2.2.1 q_1.2.2.2.2.2 hq_1 H.size) (cwV 1 hts (gV wm1226 wm1227 wm1228 wm1 wm1229) rfl rfl rfl (by decide +kernel) ⟨Nat.le_of_ble_eq_true rfl, Nat.le_of_ble_eq_true rfl⟩) (pre_v (pre_w hK hP hD hS hE hFc) (va_recv hK hP (ci := 10) (q0 := 0) rfl rfl)) rfl rfl hl.1 rfl (lv_room (Nat.le_of_ble_eq_true rfl)) dL_runByClauses_2 ⟨Nat.le_of_ble_eq_true rfl, Nat.le_of_ble_eq_true rfl⟩) hS (fun q _ h => hFc q h) hFc (fun q _ h => hFc q h) (fun E ce q9 u_2 t H locs ht hvm hpx hBX hz1 hk1 hS hce hv9 hcl => ?_) (fun r u_2 t H locs ht hvm hw hB hz1 hk1 hS => ?_)
  · have hne : ¬ q_1.1 = 0 := xnm_ne hBX.1
    rw [if_neg hne] at hm
    have hX9 := hBX.1
    have hB := hBX.2
    have hP : va_P (DG G) clP3 (wC G a q_1.2.2.1 q_1.2.2.2.1 q_1.2.2.2.2.1 S D R q_1.2.2.2.2.2 N P) H := by rw [← ht]; exact hB.1
    have hD : va_D A (wC G a q_1.2.2.1 q_1.2.2.2.1 q_1.2.2.2.2.1 S D R q_1.2.2.2.2.2 N P) := hB.2.weaken (fun _ p _ h => hFc p.1 h)
    by_cases k_3 : q_1.1 = 3
    · rw [if_pos k_3] at hm
      rw [k_3] at hX9
      obtain rfl : "java/lang/IndexOutOfBoundsException" = E := Option.some.inj (xnm3.symm.trans hX9)
      refine vx_widen (k := 2) (n := 12) (Nat.le_of_ble_eq_true rfl) (Nat.le_of_ble_eq_true rfl) ?_
      refine vx_catch hown (tableOf []) ⟨0, 5, 6, 32⟩ (tableOf [(0, 5, 10, 70)]) (htab.trans rfl) xP0 (by decide) (by decide) (hts _ wm699) (va_Nw.use rfl (hE.1 _ nw325)) hce hv9 hcl ?_
      refine W.eq (g2 := F0 m 6 ls [.ref q9]) rfl ?_
      refine lv_astore_n (lv' := [(2, .ref q9), (0, .ref (a.1 0)), (1, .int p1)]) hx hb dL_runByClauses_6 rfl hl (by decide) rfl (fun ls hl => ?_)
      refine lv_ldc (v := (-2500000)) hx hb hown (hts _ wm730) dL_runByClauses_7 ?_
      simp only [Option.some.injEq, Prod.mk.injEq] at hm
      obtain ⟨rfl, rfl, rfl, rfl, rfl⟩ := hm
      subst hAe
      refine W.widen (k := 2) (n := 12) (Nat.le_of_ble_eq_true rfl) (Nat.le_of_ble_eq_true rfl) ?_
      exact vx_ret (W.iret (v := (-2500000)) hx hb hr (fun t ht hW => ⟨⟨(-2500000), (), rfl, rfl, ⟨by rw [ht]; exact hP, hD⟩⟩, hS.F ht⟩) hS.2.2 dL_runByClauses_9 hlocks)
    · rw [if_neg k_3] at hm
      by_cases k_4 : q_1.1 = 5
      · rw [if_pos k_4] at hm
        rw [k_4] at hX9
        obtain rfl : "java/lang/UnsupportedOperationException" = E := Option.some.inj (xnm5.symm.trans hX9)
        refine vx_widen (k := 2) (n := 12) (Nat.le_of_ble_eq_true rfl) (Nat.le_of_ble_eq_true rfl) ?_
        refine vx_catch hown (tableOf [(0, 5, 6, 32)]) ⟨0, 5, 10, 70⟩ (tableOf []) (htab.trans rfl) (xPc (Or.inr ⟨by decide, _, hts _ wm699, hE.2.2.1 _ nc4⟩) xP0) (by decide) (by decide) (hts _ wm810) (va_Nw.use rfl (hE.1 _ nw821)) hce hv9 hcl ?_
        refine W.eq (g2 := F0 m 10 ls [.ref q9]) rfl ?_
        refine lv_astore_n (lv' := [(2, .ref q9), (0, .ref (a.1 0)), (1, .int p1)]) hx hb dL_runByClauses_10 rfl hl (by decide) rfl (fun ls hl => ?_)
        refine lv_ldc (v := (-1500000)) hx hb hown (hts _ wm835) dL_runByClauses_11 ?_
        simp only [Option.some.injEq, Prod.mk.injEq] at hm
        obtain ⟨rfl, rfl, rfl, rfl, rfl⟩ := hm
        subst hAe
        refine W.widen (k := 2) (n := 12) (Nat.le_of_ble_eq_true rfl) (Nat.le_of_ble_eq_true rfl) ?_
        exact vx_ret (W.iret (v := (-1500000)) hx hb hr (fun t ht hW => ⟨⟨(-1500000), (), rfl, rfl, ⟨by rw [ht]; exact hP, hD⟩⟩, hS.F ht⟩) hS.2.2 dL_runByClauses_13 hlocks)
      · rw [if_neg k_4] at hm
        cases hm
  · rw [if_pos hw.1] at hm
    rw [show r = q_1.2.1 from hw.2]
    have hP : va_P (DG G) clP3 (wC G a q_1.2.2.1 q_1.2.2.2.1 q_1.2.2.2.2.1 S D R q_1.2.2.2.2.2 N P) H := by rw [← ht]; exact hB.1
    have hD : va_D A (wC G a q_1.2.2.1 q_1.2.2.2.1 q_1.2.2.2.2.1 S D R q_1.2.2.2.2.2 N P) := hB.2.weaken (fun _ p _ h => hFc p.1 h)
    refine W.widen (k := 2) (n := 12) (Nat.le_of_ble_eq_true rfl) (Nat.le_of_ble_eq_true rfl) ?_
    simp only [Option.some.injEq, Prod.mk.injEq] at hm
    obtain ⟨rfl, rfl, rfl, rfl, rfl⟩ := hm
    subst hAe
    refine W.widen (k := 2) (n := 12) (Nat.le_of_ble_eq_true rfl) (Nat.le_of_ble_eq_true rfl) ?_
    exact vx_ret (W.iret (v := q_1.2.1) hx hb hr (fun t ht hW => ⟨⟨q_1.2.1, (), rfl, rfl, ⟨by rw [ht]; exact hP, hD⟩⟩, hS.F ht⟩) hS.2.2 dL_runByClauses_5 hlocks)
def f_L_steps (T : TS) (F : FS) (U : US) (S : SS) (D : DS) (M : MS) (N : NS) (P : PS) (p1 : Int32) : Option (Int32 × TS × FS × US × MS) := (Option.bind (f_X11_steps T F U S D M N P p1) (fun q_1 => (if q_1.1 = 0 then some (q_1.2.1, q_1.2.2.1, q_1.2.2.2.1, q_1.2.2.2.2.1, q_1.2.2.2.2.2) else (if q_1.1 = 3 then some ((-2500000), q_1.2.2.1, q_1.2.2.2.1, q_1.2.2.2.2.1, q_1.2.2.2.2.2) else (if q_1.1 = 5 then some ((-1500000), q_1.2.2.1, q_1.2.2.2.1, q_1.2.2.2.2.1, q_1.2.2.2.2.2) else none)))))
set_option maxHeartbeats 2000000 in
set_option maxRecDepth 100000 in
theorem k_L_steps (l : Launch) (hfl : l.stackTraces = false) (G : GC) (a : AS) (T : TS) (F : FS) (U : US) (S : SS) (D : DS) (R : RS) (M : MS) (N : NS) (P : PS) (hlk : lkA a D.1.toNatClampNeg D.2.1.toNatClampNeg) (p1 : Int32) (r9 : Int32) (T9 : TS) (F9 : FS) (U9 : US) (M9 : MS) (hm : f_L_steps T F U S D M N P p1 = some (r9, T9, F9, U9, M9)) (sz : Nat) : vx_Met l yL_steps (Cond.codeWith yL_steps cL_steps 3 (some .int) [(0, 5, 6, 32), (0, 5, 10, 70)] :: W0) ({ frames := 583, cells := 2, slots := 12, locals := 15270 }) (va_Pc [.ref (a.1 0), .int p1] (WD G (wC G a T F U S D R M N P) sz)) (va_Qi (S := Unit) (fun r _ => r = r9) (fun _ t => PW G (va_A (wC G a T F U S D R M N P) sz) (wC G a T9 F9 U9 S D R M9 N P) t) (va_A (wC G a T F U S D R M N P) sz)) (vx_X (fun _ : Unit => False) (fun (_ : String) (_ : Unit) (_ : State) => True) (va_A (wC G a T F U S D R M N P) sz)) 2 12 (va_A (wC G a T F U S D R M N P) sz) := by
  rw [f_L_steps] at hm
  refine vx_ofWH (cc := cL_steps) (maxL := 3) (ret := (some .int)) (hh := [(0, 5, 6, 32), (0, 5, 10, 70)]) (by decide) rfl ?_
  intro p e s m args below meth c s₁ B hml hv
  obtain ⟨rfl, hsz, hP, hK, hD0, hE⟩ := hv
  have hx := B.exec
  have hb := B.bytes
  have hr := B.returns
  have hts := w0_tail B.pre
  have hown : s.vm.findClass RL = some m.cls := findClass_of_methodNamed B.named
  have hlocks := B.notSynchronized
  have htab := vx_table (x := yL_steps) B (hts _ wm1232)
  have hD := hD0.self (sz := sz)
  obtain ⟨A, hAe⟩ : ∃ A, (va_A (wC G a T F U S D R M N P) sz) = A := ⟨_, rfl⟩
  rw [hAe] at hD hE
  have hA : ∀ q : Nat, s.heap.size ≤ q → A q := fun q h => by rw [← hAe]; exact Or.inr (by rw [← hsz]; exact h)
  have hS : va_S A s.heap s.heap [] := va_S.rf
  obtain ⟨H, hHe⟩ : ∃ H : Heap, H = s.heap := ⟨_, rfl⟩
  have hP : va_P (DG G) clP3 (wC G a T F U S D R M N P) H := by rw [hHe]; exact hP
  have hS : va_S A s.heap H [] := by rw [hHe]; exact hS
  have hl := lv_entry ([.ref (a.1 0), .int p1]) (n := 3) (Nat.le_of_ble_eq_true rfl)
  rw [lg_entry_eq, ← hHe]
  generalize (lg_sl ([.ref (a.1 0), .int p1]) ++ List.replicate (3 - (lg_sl ([.ref (a.1 0), .int p1])).length) Slot.unset).toArray = ls at hl ⊢
  have hl : lv_has ls 3 [(0, .ref (a.1 0)), (1, .int p1)] := hl
  refine lv_aload_n hx hb dL_steps_0 rfl (lv_at hl 0 rfl) ?_
  refine lv_iload_n hx hb dL_steps_1 rfl (lv_at hl 1 rfl) ?_
  obtain ⟨q_1, hq_1, hm⟩ := bind_some hm
  have hFc := free_all hD hS hA
  refine vx_calli (vx_runV (As := [.int p1]) (rest := []) ⟨hx, hb, hml, hown, hts⟩ (k_X11_steps l hfl G a T F U S D R M N P hlk p1  q_1.1 q_1.2.1 q_1.2.2.1 q_1.2.2.2.1 q_1.2.2.2.2.1 q_1.2.2.2.2.2 hq_1 H.size) (cwV 1 hts (gV wm1233 wm1234 wm1235 wm1 wm1236) rfl rfl rfl (by decide +kernel) ⟨Nat.le_of_ble_eq_true rfl, Nat.le_of_ble_eq_true rfl⟩) (pre_v (pre_w hK hP hD hS hE hFc) (va_recv hK hP (ci := 10) (q0 := 0) rfl rfl)) rfl rfl hl.1 rfl (lv_room (Nat.le_of_ble_eq_true rfl)) dL_steps_2 ⟨Nat.le_of_ble_eq_true rfl, Nat.le_of_ble_eq_true rfl⟩) hS (fun q _ h => hFc q h) hFc (fun q _ h => hFc q h) (fun E ce q9 u_2 t H locs ht hvm hpx hBX hz1 hk1 hS hce hv9 hcl => ?_) (fun r u_2 t H locs ht hvm hw hB hz1 hk1 hS => ?_)
  · have hne : ¬ q_1.1 = 0 := xnm_ne hBX.1
    rw [if_neg hne] at hm
    have hX9 := hBX.1
    have hB := hBX.2
    have hP : va_P (DG G) clP3 (wC G a q_1.2.2.1 q_1.2.2.2.1 q_1.2.2.2.2.1 S D R q_1.2.2.2.2.2 N P) H := by rw [← ht]; exact hB.1
    have hD : va_D A (wC G a q_1.2.2.1 q_1.2.2.2.1 q_1.2.2.2.2.1 S D R q_1.2.2.2.2.2 N P) := hB.2.weaken (fun _ p _ h => hFc p.1 h)
    by_cases k_3 : q_1.1 = 3
    · rw [if_pos k_3] at hm
      rw [k_3] at hX9
      obtain rfl : "java/lang/IndexOutOfBoundsException" = E := Option.some.inj (xnm3.symm.trans hX9)
      refine vx_widen (k := 2) (n := 12) (Nat.le_of_ble_eq_true rfl) (Nat.le_of_ble_eq_true rfl) ?_
      refine vx_catch hown (tableOf []) ⟨0, 5, 6, 32⟩ (tableOf [(0, 5, 10, 70)]) (htab.trans rfl) xP0 (by decide) (by decide) (hts _ wm699) (va_Nw.use rfl (hE.1 _ nw325)) hce hv9 hcl ?_
      refine W.eq (g2 := F0 m 6 ls [.ref q9]) rfl ?_
      refine lv_astore_n (lv' := [(2, .ref q9), (0, .ref (a.1 0)), (1, .int p1)]) hx hb dL_steps_6 rfl hl (by decide) rfl (fun ls hl => ?_)
      refine lv_ldc (v := (-2500000)) hx hb hown (hts _ wm730) dL_steps_7 ?_
      simp only [Option.some.injEq, Prod.mk.injEq] at hm
      obtain ⟨rfl, rfl, rfl, rfl, rfl⟩ := hm
      subst hAe
      refine W.widen (k := 2) (n := 12) (Nat.le_of_ble_eq_true rfl) (Nat.le_of_ble_eq_true rfl) ?_
      exact vx_ret (W.iret (v := (-2500000)) hx hb hr (fun t ht hW => ⟨⟨(-2500000), (), rfl, rfl, ⟨by rw [ht]; exact hP, hD⟩⟩, hS.F ht⟩) hS.2.2 dL_steps_9 hlocks)
    · rw [if_neg k_3] at hm
      by_cases k_4 : q_1.1 = 5
      · rw [if_pos k_4] at hm
        rw [k_4] at hX9
        obtain rfl : "java/lang/UnsupportedOperationException" = E := Option.some.inj (xnm5.symm.trans hX9)
        refine vx_widen (k := 2) (n := 12) (Nat.le_of_ble_eq_true rfl) (Nat.le_of_ble_eq_true rfl) ?_
        refine vx_catch hown (tableOf [(0, 5, 6, 32)]) ⟨0, 5, 10, 70⟩ (tableOf []) (htab.trans rfl) (xPc (Or.inr ⟨by decide, _, hts _ wm699, hE.2.2.1 _ nc4⟩) xP0) (by decide) (by decide) (hts _ wm810) (va_Nw.use rfl (hE.1 _ nw821)) hce hv9 hcl ?_
        refine W.eq (g2 := F0 m 10 ls [.ref q9]) rfl ?_
        refine lv_astore_n (lv' := [(2, .ref q9), (0, .ref (a.1 0)), (1, .int p1)]) hx hb dL_steps_10 rfl hl (by decide) rfl (fun ls hl => ?_)
        refine lv_ldc (v := (-1500000)) hx hb hown (hts _ wm835) dL_steps_11 ?_
        simp only [Option.some.injEq, Prod.mk.injEq] at hm
        obtain ⟨rfl, rfl, rfl, rfl, rfl⟩ := hm
        subst hAe
        refine W.widen (k := 2) (n := 12) (Nat.le_of_ble_eq_true rfl) (Nat.le_of_ble_eq_true rfl) ?_
        exact vx_ret (W.iret (v := (-1500000)) hx hb hr (fun t ht hW => ⟨⟨(-1500000), (), rfl, rfl, ⟨by rw [ht]; exact hP, hD⟩⟩, hS.F ht⟩) hS.2.2 dL_steps_13 hlocks)
      · rw [if_neg k_4] at hm
        cases hm
  · rw [if_pos hw.1] at hm
    rw [show r = q_1.2.1 from hw.2]
    have hP : va_P (DG G) clP3 (wC G a q_1.2.2.1 q_1.2.2.2.1 q_1.2.2.2.2.1 S D R q_1.2.2.2.2.2 N P) H := by rw [← ht]; exact hB.1
    have hD : va_D A (wC G a q_1.2.2.1 q_1.2.2.2.1 q_1.2.2.2.2.1 S D R q_1.2.2.2.2.2 N P) := hB.2.weaken (fun _ p _ h => hFc p.1 h)
    refine W.widen (k := 2) (n := 12) (Nat.le_of_ble_eq_true rfl) (Nat.le_of_ble_eq_true rfl) ?_
    simp only [Option.some.injEq, Prod.mk.injEq] at hm
    obtain ⟨rfl, rfl, rfl, rfl, rfl⟩ := hm
    subst hAe
    refine W.widen (k := 2) (n := 12) (Nat.le_of_ble_eq_true rfl) (Nat.le_of_ble_eq_true rfl) ?_
    exact vx_ret (W.iret (v := q_1.2.1) hx hb hr (fun t ht hW => ⟨⟨q_1.2.1, (), rfl, rfl, ⟨by rw [ht]; exact hP, hD⟩⟩, hS.F ht⟩) hS.2.2 dL_steps_5 hlocks)
def f_L_valueSize (T : TS) (F : FS) (U : US) (S : SS) (D : DS) (M : MS) (N : NS) (P : PS) (p1 : Int32) : Option (Int32 × TS × FS × US × MS) := (Option.bind (f_X11_valueSize T F U S D M N P p1) (fun q_1 => (if q_1.1 = 0 then some (q_1.2.1, q_1.2.2.1, q_1.2.2.2.1, q_1.2.2.2.2.1, q_1.2.2.2.2.2) else (if q_1.1 = 3 then some ((-2500000), q_1.2.2.1, q_1.2.2.2.1, q_1.2.2.2.2.1, q_1.2.2.2.2.2) else (if q_1.1 = 5 then some ((-1500000), q_1.2.2.1, q_1.2.2.2.1, q_1.2.2.2.2.1, q_1.2.2.2.2.2) else none)))))
set_option maxHeartbeats 2000000 in
set_option maxRecDepth 100000 in
theorem k_L_valueSize (l : Launch) (hfl : l.stackTraces = false) (G : GC) (a : AS) (T : TS) (F : FS) (U : US) (S : SS) (D : DS) (R : RS) (M : MS) (N : NS) (P : PS) (hlk : lkA a D.1.toNatClampNeg D.2.1.toNatClampNeg) (p1 : Int32) (r9 : Int32) (T9 : TS) (F9 : FS) (U9 : US) (M9 : MS) (hm : f_L_valueSize T F U S D M N P p1 = some (r9, T9, F9, U9, M9)) (sz : Nat) : vx_Met l yL_valueSize (Cond.codeWith yL_valueSize cL_valueSize 3 (some .int) [(0, 5, 6, 32), (0, 5, 10, 70)] :: W0) ({ frames := 583, cells := 2, slots := 12, locals := 15271 }) (va_Pc [.ref (a.1 0), .int p1] (WD G (wC G a T F U S D R M N P) sz)) (va_Qi (S := Unit) (fun r _ => r = r9) (fun _ t => PW G (va_A (wC G a T F U S D R M N P) sz) (wC G a T9 F9 U9 S D R M9 N P) t) (va_A (wC G a T F U S D R M N P) sz)) (vx_X (fun _ : Unit => False) (fun (_ : String) (_ : Unit) (_ : State) => True) (va_A (wC G a T F U S D R M N P) sz)) 2 12 (va_A (wC G a T F U S D R M N P) sz) := by
  rw [f_L_valueSize] at hm
  refine vx_ofWH (cc := cL_valueSize) (maxL := 3) (ret := (some .int)) (hh := [(0, 5, 6, 32), (0, 5, 10, 70)]) (by decide) rfl ?_
  intro p e s m args below meth c s₁ B hml hv
  obtain ⟨rfl, hsz, hP, hK, hD0, hE⟩ := hv
  have hx := B.exec
  have hb := B.bytes
  have hr := B.returns
  have hts := w0_tail B.pre
  have hown : s.vm.findClass RL = some m.cls := findClass_of_methodNamed B.named
  have hlocks := B.notSynchronized
  have htab := vx_table (x := yL_valueSize) B (hts _ wm1239)
  have hD := hD0.self (sz := sz)
  obtain ⟨A, hAe⟩ : ∃ A, (va_A (wC G a T F U S D R M N P) sz) = A := ⟨_, rfl⟩
  rw [hAe] at hD hE
  have hA : ∀ q : Nat, s.heap.size ≤ q → A q := fun q h => by rw [← hAe]; exact Or.inr (by rw [← hsz]; exact h)
  have hS : va_S A s.heap s.heap [] := va_S.rf
  obtain ⟨H, hHe⟩ : ∃ H : Heap, H = s.heap := ⟨_, rfl⟩
  have hP : va_P (DG G) clP3 (wC G a T F U S D R M N P) H := by rw [hHe]; exact hP
  have hS : va_S A s.heap H [] := by rw [hHe]; exact hS
  have hl := lv_entry ([.ref (a.1 0), .int p1]) (n := 3) (Nat.le_of_ble_eq_true rfl)
  rw [lg_entry_eq, ← hHe]
  generalize (lg_sl ([.ref (a.1 0), .int p1]) ++ List.replicate (3 - (lg_sl ([.ref (a.1 0), .int p1])).length) Slot.unset).toArray = ls at hl ⊢
  have hl : lv_has ls 3 [(0, .ref (a.1 0)), (1, .int p1)] := hl
  refine lv_aload_n hx hb dL_valueSize_0 rfl (lv_at hl 0 rfl) ?_
  refine lv_iload_n hx hb dL_valueSize_1 rfl (lv_at hl 1 rfl) ?_
  obtain ⟨q_1, hq_1, hm⟩ := bind_some hm
  have hFc := free_all hD hS hA
  refine vx_calli (vx_runV (As := [.int p1]) (rest := []) ⟨hx, hb, hml, hown, hts⟩ (k_X11_valueSize l hfl G a T F U S D R M N P hlk p1  q_1.1 q_1.2.1 q_1.2.2.1 q_1.2.2.2.1 q_1.2.2.2.2.1 q_1.2.2.2.2.2 hq_1 H.size) (cwV 1 hts (gV wm1240 wm1241 wm1242 wm1 wm1243) rfl rfl rfl (by decide +kernel) ⟨Nat.le_of_ble_eq_true rfl, Nat.le_of_ble_eq_true rfl⟩) (pre_v (pre_w hK hP hD hS hE hFc) (va_recv hK hP (ci := 10) (q0 := 0) rfl rfl)) rfl rfl hl.1 rfl (lv_room (Nat.le_of_ble_eq_true rfl)) dL_valueSize_2 ⟨Nat.le_of_ble_eq_true rfl, Nat.le_of_ble_eq_true rfl⟩) hS (fun q _ h => hFc q h) hFc (fun q _ h => hFc q h) (fun E ce q9 u_2 t H locs ht hvm hpx hBX hz1 hk1 hS hce hv9 hcl => ?_) (fun r u_2 t H locs ht hvm hw hB hz1 hk1 hS => ?_)
  · have hne : ¬ q_1.1 = 0 := xnm_ne hBX.1
    rw [if_neg hne] at hm
    have hX9 := hBX.1
    have hB := hBX.2
    have hP : va_P (DG G) clP3 (wC G a q_1.2.2.1 q_1.2.2.2.1 q_1.2.2.2.2.1 S D R q_1.2.2.2.2.2 N P) H := by rw [← ht]; exact hB.1
    have hD : va_D A (wC G a q_1.2.2.1 q_1.2.2.2.1 q_1.2.2.2.2.1 S D R q_1.2.2.2.2.2 N P) := hB.2.weaken (fun _ p _ h => hFc p.1 h)
    by_cases k_3 : q_1.1 = 3
    · rw [if_pos k_3] at hm
      rw [k_3] at hX9
      obtain rfl : "java/lang/IndexOutOfBoundsException" = E := Option.some.inj (xnm3.symm.trans hX9)
      refine vx_widen (k := 2) (n := 12) (Nat.le_of_ble_eq_true rfl) (Nat.le_of_ble_eq_true rfl) ?_
      refine vx_catch hown (tableOf []) ⟨0, 5, 6, 32⟩ (tableOf [(0, 5, 10, 70)]) (htab.trans rfl) xP0 (by decide) (by decide) (hts _ wm699) (va_Nw.use rfl (hE.1 _ nw325)) hce hv9 hcl ?_
      refine W.eq (g2 := F0 m 6 ls [.ref q9]) rfl ?_
      refine lv_astore_n (lv' := [(2, .ref q9), (0, .ref (a.1 0)), (1, .int p1)]) hx hb dL_valueSize_6 rfl hl (by decide) rfl (fun ls hl => ?_)
      refine lv_ldc (v := (-2500000)) hx hb hown (hts _ wm730) dL_valueSize_7 ?_
      simp only [Option.some.injEq, Prod.mk.injEq] at hm
      obtain ⟨rfl, rfl, rfl, rfl, rfl⟩ := hm
      subst hAe
      refine W.widen (k := 2) (n := 12) (Nat.le_of_ble_eq_true rfl) (Nat.le_of_ble_eq_true rfl) ?_
      exact vx_ret (W.iret (v := (-2500000)) hx hb hr (fun t ht hW => ⟨⟨(-2500000), (), rfl, rfl, ⟨by rw [ht]; exact hP, hD⟩⟩, hS.F ht⟩) hS.2.2 dL_valueSize_9 hlocks)
    · rw [if_neg k_3] at hm
      by_cases k_4 : q_1.1 = 5
      · rw [if_pos k_4] at hm
        rw [k_4] at hX9
        obtain rfl : "java/lang/UnsupportedOperationException" = E := Option.some.inj (xnm5.symm.trans hX9)
        refine vx_widen (k := 2) (n := 12) (Nat.le_of_ble_eq_true rfl) (Nat.le_of_ble_eq_true rfl) ?_
        refine vx_catch hown (tableOf [(0, 5, 6, 32)]) ⟨0, 5, 10, 70⟩ (tableOf []) (htab.trans rfl) (xPc (Or.inr ⟨by decide, _, hts _ wm699, hE.2.2.1 _ nc4⟩) xP0) (by decide) (by decide) (hts _ wm810) (va_Nw.use rfl (hE.1 _ nw821)) hce hv9 hcl ?_
        refine W.eq (g2 := F0 m 10 ls [.ref q9]) rfl ?_
        refine lv_astore_n (lv' := [(2, .ref q9), (0, .ref (a.1 0)), (1, .int p1)]) hx hb dL_valueSize_10 rfl hl (by decide) rfl (fun ls hl => ?_)
        refine lv_ldc (v := (-1500000)) hx hb hown (hts _ wm835) dL_valueSize_11 ?_
        simp only [Option.some.injEq, Prod.mk.injEq] at hm
        obtain ⟨rfl, rfl, rfl, rfl, rfl⟩ := hm
        subst hAe
        refine W.widen (k := 2) (n := 12) (Nat.le_of_ble_eq_true rfl) (Nat.le_of_ble_eq_true rfl) ?_
        exact vx_ret (W.iret (v := (-1500000)) hx hb hr (fun t ht hW => ⟨⟨(-1500000), (), rfl, rfl, ⟨by rw [ht]; exact hP, hD⟩⟩, hS.F ht⟩) hS.2.2 dL_valueSize_13 hlocks)
      · rw [if_neg k_4] at hm
        cases hm
  · rw [if_pos hw.1] at hm
    rw [show r = q_1.2.1 from hw.2]
    have hP : va_P (DG G) clP3 (wC G a q_1.2.2.1 q_1.2.2.2.1 q_1.2.2.2.2.1 S D R q_1.2.2.2.2.2 N P) H := by rw [← ht]; exact hB.1
    have hD : va_D A (wC G a q_1.2.2.1 q_1.2.2.2.1 q_1.2.2.2.2.1 S D R q_1.2.2.2.2.2 N P) := hB.2.weaken (fun _ p _ h => hFc p.1 h)
    refine W.widen (k := 2) (n := 12) (Nat.le_of_ble_eq_true rfl) (Nat.le_of_ble_eq_true rfl) ?_
    simp only [Option.some.injEq, Prod.mk.injEq] at hm
    obtain ⟨rfl, rfl, rfl, rfl, rfl⟩ := hm
    subst hAe
    refine W.widen (k := 2) (n := 12) (Nat.le_of_ble_eq_true rfl) (Nat.le_of_ble_eq_true rfl) ?_
    exact vx_ret (W.iret (v := q_1.2.1) hx hb hr (fun t ht hW => ⟨⟨q_1.2.1, (), rfl, rfl, ⟨by rw [ht]; exact hP, hD⟩⟩, hS.F ht⟩) hS.2.2 dL_valueSize_5 hlocks)
