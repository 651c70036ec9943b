def f_X5_goDown_L111 : Nat → TS → SS → DS → MS → PS → Int32 → Int32 → Int32 → Int32 → Int32 → Int32 → Option (Int32 × MS)
  | 0, _, _, _, _, _, _, _, _, _, _, _ => none
  | n + 1, T, S, D, M, P, v1, v2, v3, v4, v6, v7 => (if v7 < 0 then (Option.bind (g_X9_firstOf T v4) (fun q_12 => (Option.bind (g_X7_rankOf S q_12) (fun q_13 => (Option.bind (f_X0_goal D ((P.2.2.2.2.2.2.2.2.1 (Int32.toNatClampNeg v1)) + q_13)) (fun q_14 => (if q_14 < 0 then some ((-1), (M.1, M.2.1, M.2.2.1, M.2.2.2.1, v6, M.2.2.2.2.2.1, M.2.2.2.2.2.2.1, M.2.2.2.2.2.2.2.1, M.2.2.2.2.2.2.2.2)) else (if gix D q_14 = true then some (q_14, (M.1, M.2.1, M.2.2.1, M.2.2.2.1, v6, M.2.2.2.2.2.1, M.2.2.2.2.2.2.1, M.2.2.2.2.2.2.2.1, M.2.2.2.2.2.2.2.2)) else none)))))))) else (Option.bind (g_X9_secondOf T v3) (fun q_17 => (if inb (v2 + v7) 12 = true then (Option.bind (g_X9_firstOf T v3) (fun q_19 => (f_X5_goDown_L111 n T S D (M.1, M.2.1, M.2.2.1, (upd M.2.2.2.1 (Int32.toNatClampNeg (v2 + v7)) q_17), M.2.2.2.2.1, M.2.2.2.2.2.1, M.2.2.2.2.2.2.1, M.2.2.2.2.2.2.2.1, M.2.2.2.2.2.2.2.2) P v1 v2 q_19 v4 v6 (v7 + (-1))))) else none))))
def f_X5_goDown (T : TS) (S : SS) (D : DS) (M : MS) (P : PS) (p1 : Int32) : Option (Int32 × MS) := (if (P.2.2.2.2.2.2.2.1 (Int32.toNatClampNeg p1)) < 0 then some ((-1), M) else (if (P.2.2.2.2.2.2.2.1 (Int32.toNatClampNeg p1)) < M.2.2.2.2.1 then (if inb (P.2.2.2.2.2.2.2.1 (Int32.toNatClampNeg p1)) 12 = true then (Option.bind (some (M.2.2.2.1 (Int32.toNatClampNeg (P.2.2.2.2.2.2.2.1 (Int32.toNatClampNeg p1))))) (fun yz_4 => (Option.bind (g_X9_headOf T yz_4) (fun q_5 => (Option.bind (g_X9_argumentsOf T yz_4) (fun q_6 => (Option.bind (g_X9_kindOf T q_5) (fun q_7 => (if q_7 = 3 then (if ((M.2.2.2.2.1 - (1 : Int32)) + q_6) ≤ 12 then (if cpok ((P.2.2.2.2.2.2.2.1 (Int32.toNatClampNeg p1)) + (1 : Int32)) ((P.2.2.2.2.2.2.2.1 (Int32.toNatClampNeg p1)) + q_6) ((M.2.2.2.2.1 - (P.2.2.2.2.2.2.2.1 (Int32.toNatClampNeg p1))) - (1 : Int32)) 12 12 = true then (f_X5_goDown_L111 100000 T S D (M.1, M.2.1, M.2.2.1, (va_cpy M.2.2.2.1 M.2.2.2.1 (Int32.toNatClampNeg ((P.2.2.2.2.2.2.2.1 (Int32.toNatClampNeg p1)) + (1 : Int32))) (Int32.toNatClampNeg ((P.2.2.2.2.2.2.2.1 (Int32.toNatClampNeg p1)) + q_6)) (Int32.toNatClampNeg ((M.2.2.2.2.1 - (P.2.2.2.2.2.2.2.1 (Int32.toNatClampNeg p1))) - (1 : Int32)))), M.2.2.2.2.1, M.2.2.2.2.2.1, M.2.2.2.2.2.2.1, M.2.2.2.2.2.2.2.1, M.2.2.2.2.2.2.2.2) P p1 (P.2.2.2.2.2.2.2.1 (Int32.toNatClampNeg p1)) yz_4 q_5 ((M.2.2.2.2.1 - (1 : Int32)) + q_6) (q_6 - (1 : Int32))) else none) else some ((-1), M)) else some ((-1), M)))))))))) else none) else some ((-1), M)))
set_option maxHeartbeats 2000000 in
set_option maxRecDepth 100000 in
theorem kl_X5_goDown_111 {l : Launch} (hfl : l.stackTraces = false) {G : GC} {a : AS} {T : TS} {F : FS} {U : US} {S : SS} {D : DS} {R : RS} {M : MS} {N : NS} {P : PS} {A : Nat → Prop} {sz : Nat} {p : Program} {e : Env} {s : State} {m : MethodId} {args : Array Value} {below : List Frame} {meth : Method} {c : Code} (hx : p.tables.exec = Jvm.exec) (hb : c.code = cX5_goDown) (hr : meth.sig.returnType = (some (.object "TelescopeCourt$Goal"))) (hml : c.maxLocals = 8) (hown : s.vm.findClass RX5 = some m.cls) (hts : ∀ w ∈ W0, w.before args s = true) (hlocks : meth.locks = false) (hlk : lkA a D.1.toNatClampNeg D.2.1.toNatClampNeg) (hAe : (va_A (wC G a T F U S D R M N P) sz) = A) (hA : ∀ q : Nat, s.heap.size ≤ q → A q) (hE : EV G A s s.heap) (hK : va_K (DG G) clP3 (TY G) s) (r9 : Int32) (M9 : MS) : ∀ (n : Nat), ∀ (M8 : MS) (v1 : Int32) (v2 : Int32) (v3 : Int32) (v4 : Int32) (v6 : Int32) (v7 : Int32) (hv1 : gix D v1 = true) (H : Heap) (locs : List Loc), va_P (DG G) clP3 (wC G a T F U S D R M8 N P) H → va_D A (wC G a T F U S D R M8 N P) → va_S A s.heap H locs → ∀ (ls : Array Slot), lv_has ls 8 [(0, .ref (a.1 31)), (1, .ref (a.2.2.1 (Int32.toNatClampNeg v1) 0)), (2, .int v2), (3, .int v3), (4, .int v4), (6, .int v6), (7, .int v7)] → f_X5_goDown_L111 n T S D M8 P v1 v2 v3 v4 v6 v7 = some (r9, M9) → W p l e ({ frames := 1, cells := 0, slots := 0, locals := 80 }) s m args below meth c H locs 0 0 (MQ below (va_Qq (fun (r : Option Nat) (_ : Unit) => r = rfG a r9) (fun _ t => PW G (va_A (wC G a T F U S D R M N P) sz) (wC G a T F U S D R M9 N P) t) (va_A (wC G a T F U S D R M N P) sz)) args s 0 0 (va_A (wC G a T F U S D R M N P) sz)) (F0 m 111 ls []) := by
  intro n
  induction n with
  | zero =>
    intro M8 v1 v2 v3 v4 v6 v7 hv1 H locs hP hD hS ls hl hm
    rw [f_X5_goDown_L111] at hm
    cases hm
  | succ n ih =>
    intro M8 v1 v2 v3 v4 v6 v7 hv1 H locs hP hD hS ls hl hm
    rw [f_X5_goDown_L111] at hm
    refine lv_iload hx hb dX5_goDown_111 (lv_at hl 6 rfl) ?_
    refine lv_if_lt (tgt := 148) hx hb dX5_goDown_113 (by decide) (fun c_11 => ?_) (fun c_11 => ?_)
    · rw [if_pos c_11] at hm
      refine lv_aload_n hx hb dX5_goDown_148 rfl (lv_at hl 0 rfl) ?_
      refine lv_iload hx hb dX5_goDown_149 (lv_at hl 5 rfl) ?_
      refine va_put (D := DG G) (ci := 5) (v := .int v6) (ty := tyX5 7) (C := RX5) (T := TX5) (N := 12) hx hb hts inW_X5 tyX5 tyX5_ok nmX5 hown hK hP hD hS 31 rfl rfl 7 (by decide) (hts _ wm253) (fun _ h9 => h9) rfl (by decide +kernel) rfl rfl (Nat.le_of_ble_eq_true rfl) dX5_goDown_151 (fun H locs hP hD hS => ?_)
      have hP : va_P (DG G) clP3 (wC G a T F U S D R (M8.1, M8.2.1, M8.2.2.1, M8.2.2.2.1, v6, M8.2.2.2.2.2.1, M8.2.2.2.2.2.2.1, M8.2.2.2.2.2.2.2.1, M8.2.2.2.2.2.2.2.2) N P) H := hP
      have hD : va_D A (wC G a T F U S D R (M8.1, M8.2.1, M8.2.2.1, M8.2.2.2.1, v6, M8.2.2.2.2.2.1, M8.2.2.2.2.2.2.1, M8.2.2.2.2.2.2.2.1, M8.2.2.2.2.2.2.2.2) N P) := hD
      refine lv_aload_n hx hb dX5_goDown_154 rfl (lv_at hl 0 rfl) ?_
      refine va_get (D := DG G) (ci := 5) (v := .ref (a.1 21)) (C := RX5) (T := TX5) (N := 12) hx hb hts inW_X5 hown hK hP 31 rfl rfl 2 (by decide) (hts _ wm248) (fun _ h9 => h9) rfl dX5_goDown_155 ?_
      refine lv_aload_n hx hb dX5_goDown_158 rfl (lv_at hl 1 rfl) ?_
      refine va_getN (D := DG G) (ci := 3) (v := .int (P.2.2.2.2.2.2.2.2.1 (Int32.toNatClampNeg v1))) (C := RX3) (T := TX3) (N := 8) hx hb hts inW_X3 hown hK hP _ ((at_goalC (c := 0) (gix_lt hv1) (by decide)).trans rfl) rfl 7 (by decide) (va_Nw.use rfl (hE.1 _ nw931)) (fun _ h9 => h9) rfl dX5_goDown_159 ?_
      refine lv_aload_n hx hb dX5_goDown_162 rfl (lv_at hl 0 rfl) ?_
      refine va_get (D := DG G) (ci := 5) (v := .ref (a.1 13)) (C := RX5) (T := TX5) (N := 12) hx hb hts inW_X5 hown hK hP 31 rfl rfl 1 (by decide) (hts _ wm247) (fun _ h9 => h9) rfl dX5_goDown_163 ?_
      refine lv_aload_n hx hb dX5_goDown_166 rfl (lv_at hl 0 rfl) ?_
      refine va_get (D := DG G) (ci := 5) (v := .ref (a.1 1)) (C := RX5) (T := TX5) (N := 12) hx hb hts inW_X5 hown hK hP 31 rfl rfl 0 (by decide) (hts _ wm246) (fun _ h9 => h9) rfl dX5_goDown_167 ?_
      refine lv_iload hx hb dX5_goDown_170 (lv_at hl 4 rfl) ?_
      obtain ⟨q_12, hq_12, hm⟩ := bind_some hm
      have hFc := free_all hD hS hA
      refine va_calli (va_runV (As := [.int v4]) (rest := [.ref (a.1 13), .int (P.2.2.2.2.2.2.2.2.1 (Int32.toNatClampNeg v1)), .ref (a.1 21)]) ⟨hx, hb, hml, hown, hts⟩ (K_X9_firstOf l hfl G a T F U S D R (M8.1, M8.2.1, M8.2.2.1, M8.2.2.2.1, v6, M8.2.2.2.2.2.1, M8.2.2.2.2.2.2.1, M8.2.2.2.2.2.2.2.1, M8.2.2.2.2.2.2.2.2) N P v4  q_12 hq_12 H.size) (cwV 1 hts (gV wm1174 wm431 wm432 wm2 wm433) rfl rfl rfl (by decide +kernel) ⟨Nat.le_of_ble_eq_true rfl, Nat.le_of_ble_eq_true rfl⟩) (pre_v (pre_w hK hP hD hS hE hFc) (va_recv hK hP (ci := 8) (q0 := 1) rfl rfl)) rfl rfl hl.1 rfl (lv_room (Nat.le_of_ble_eq_true rfl)) dX5_goDown_172 ⟨Nat.le_of_ble_eq_true rfl, Nat.le_of_ble_eq_true rfl⟩) hS (fun q _ h => hFc q h) hFc (fun r u t H locs ht hvm hw hB hz1 hk1 hS => ?_)
      rw [show r = q_12 from hw]
      have hP : va_P (DG G) clP3 (wC G a T F U S D R (M8.1, M8.2.1, M8.2.2.1, M8.2.2.2.1, v6, M8.2.2.2.2.2.1, M8.2.2.2.2.2.2.1, M8.2.2.2.2.2.2.2.1, M8.2.2.2.2.2.2.2.2) N P) H := by rw [← ht]; exact hB.1
      have hD : va_D A (wC G a T F U S D R (M8.1, M8.2.1, M8.2.2.1, M8.2.2.2.1, v6, M8.2.2.2.2.2.1, M8.2.2.2.2.2.2.1, M8.2.2.2.2.2.2.2.1, M8.2.2.2.2.2.2.2.2) N P) := hB.2.weaken (fun _ p _ h => hFc p.1 h)
      clear hB hFc hw hk1
      refine W.widen (k := 0) (n := 0) (Nat.le_of_ble_eq_true rfl) (Nat.le_of_ble_eq_true rfl) ?_
      obtain ⟨q_13, hq_13, hm⟩ := bind_some hm
      have hFc := free_all hD hS hA
      refine va_calli (va_runV (As := [.int q_12]) (rest := [.int (P.2.2.2.2.2.2.2.2.1 (Int32.toNatClampNeg v1)), .ref (a.1 21)]) ⟨hx, hb, hml, hown, hts⟩ (K_X7_rankOf l hfl G a T F U S D R (M8.1, M8.2.1, M8.2.2.1, M8.2.2.2.1, v6, M8.2.2.2.2.2.1, M8.2.2.2.2.2.2.1, M8.2.2.2.2.2.2.2.1, M8.2.2.2.2.2.2.2.2) N P q_12  q_13 hq_13 H.size) (cwV 1 hts (gV wm1208 wm1209 wm1210 wm4 wm1211) rfl rfl rfl (by decide +kernel) ⟨Nat.le_of_ble_eq_true rfl, Nat.le_of_ble_eq_true rfl⟩) (pre_v (pre_w hK hP hD hS hE hFc) (va_recv hK hP (ci := 6) (q0 := 13) rfl rfl)) rfl rfl hl.1 rfl (lv_room (Nat.le_of_ble_eq_true rfl)) dX5_goDown_175 ⟨Nat.le_of_ble_eq_true rfl, Nat.le_of_ble_eq_true rfl⟩) hS (fun q _ h => hFc q h) hFc (fun r u t H locs ht hvm hw hB hz1 hk1 hS => ?_)
      rw [show r = q_13 from hw]
      have hP : va_P (DG G) clP3 (wC G a T F U S D R (M8.1, M8.2.1, M8.2.2.1, M8.2.2.2.1, v6, M8.2.2.2.2.2.1, M8.2.2.2.2.2.2.1, M8.2.2.2.2.2.2.2.1, M8.2.2.2.2.2.2.2.2) N P) H := by rw [← ht]; exact hB.1
      have hD : va_D A (wC G a T F U S D R (M8.1, M8.2.1, M8.2.2.1, M8.2.2.2.1, v6, M8.2.2.2.2.2.1, M8.2.2.2.2.2.2.1, M8.2.2.2.2.2.2.2.1, M8.2.2.2.2.2.2.2.2) N P) := hB.2.weaken (fun _ p _ h => hFc p.1 h)
      clear hB hFc hw hk1
      refine W.widen (k := 0) (n := 0) (Nat.le_of_ble_eq_true rfl) (Nat.le_of_ble_eq_true rfl) ?_
      refine lv_iadd hx hb dX5_goDown_178 ?_
      obtain ⟨q_14, hq_14, hm⟩ := bind_some hm
      have hFc := free_all hD hS hA
      refine va_callq (va_runV (As := [.int ((P.2.2.2.2.2.2.2.2.1 (Int32.toNatClampNeg v1)) + q_13)]) (rest := []) ⟨hx, hb, hml, hown, hts⟩ (k_X0_goal l hfl G a T F U S D R (M8.1, M8.2.1, M8.2.2.1, M8.2.2.2.1, v6, M8.2.2.2.2.2.1, M8.2.2.2.2.2.2.1, M8.2.2.2.2.2.2.2.1, M8.2.2.2.2.2.2.2.2) N P hlk ((P.2.2.2.2.2.2.2.2.1 (Int32.toNatClampNeg v1)) + q_13)  q_14 hq_14 H.size) (cwV 1 hts (gV wm1200 wm605 wm606 wm5 wm607) rfl rfl rfl (by decide +kernel) ⟨Nat.le_of_ble_eq_true rfl, Nat.le_of_ble_eq_true rfl⟩) (pre_v (pre_w hK hP hD hS hE hFc) (va_recv hK hP (ci := 0) (q0 := 21) rfl rfl)) rfl rfl hl.1 rfl (lv_room (Nat.le_of_ble_eq_true rfl)) dX5_goDown_179 ⟨Nat.le_of_ble_eq_true rfl, Nat.le_of_ble_eq_true rfl⟩) hS (fun q _ h => hFc q h) hFc (fun r u t H locs ht hvm hw hB hz1 hk1 hS => ?_)
      rw [show r = rfG a q_14 from hw]
      have hP : va_P (DG G) clP3 (wC G a T F U S D R (M8.1, M8.2.1, M8.2.2.1, M8.2.2.2.1, v6, M8.2.2.2.2.2.1, M8.2.2.2.2.2.2.1, M8.2.2.2.2.2.2.2.1, M8.2.2.2.2.2.2.2.2) N P) H := by rw [← ht]; exact hB.1
      have hD : va_D A (wC G a T F U S D R (M8.1, M8.2.1, M8.2.2.1, M8.2.2.2.1, v6, M8.2.2.2.2.2.1, M8.2.2.2.2.2.2.1, M8.2.2.2.2.2.2.2.1, M8.2.2.2.2.2.2.2.2) N P) := hB.2.weaken (fun _ p _ h => hFc p.1 h)
      clear hB hFc hw hk1
      refine W.widen (k := 0) (n := 0) (Nat.le_of_ble_eq_true rfl) (Nat.le_of_ble_eq_true rfl) ?_
      by_cases c_15 : q_14 < 0
      · rw [if_pos c_15] at hm
        rw [show rfG a q_14 = none from if_pos c_15]
        refine W.eq (g2 := F0 m 182 ls [.null]) rfl ?_
        simp only [Option.some.injEq, Prod.mk.injEq] at hm
        obtain ⟨rfl, rfl⟩ := hm
        refine W.widen (k := 0) (n := 0) (Nat.le_of_ble_eq_true rfl) (Nat.le_of_ble_eq_true rfl) ?_
        exact W.aret (v := .null) hx hb hr (Or.inl ⟨_, rfl⟩) (Or.inl rfl) (fun t ht hW => ⟨⟨none, (), rfl, rfl, ⟨by rw [ht]; exact hP, by rw [hAe]; exact hD⟩⟩, by rw [hAe]; exact hS.F ht⟩) (by rw [hAe]; exact hS.2.2) dX5_goDown_182 hlocks
      · rw [if_neg c_15] at hm
        obtain ⟨g_16, hm⟩ := ite_some hm
        rw [show rfG a q_14 = some _ from if_neg c_15]
        refine W.eq (g2 := F0 m 182 ls [.ref (a.2.2.1 (Int32.toNatClampNeg q_14) 0)]) rfl ?_
        simp only [Option.some.injEq, Prod.mk.injEq] at hm
        obtain ⟨rfl, rfl⟩ := hm
        refine W.widen (k := 0) (n := 0) (Nat.le_of_ble_eq_true rfl) (Nat.le_of_ble_eq_true rfl) ?_
        exact W.aret (v := .ref (a.2.2.1 (Int32.toNatClampNeg q_14) 0)) hx hb hr (Or.inl ⟨_, rfl⟩) (Or.inr ⟨_, rfl⟩) (fun t ht hW => ⟨⟨(some (a.2.2.1 (Int32.toNatClampNeg q_14) 0)), (), rfl, (rfG_pos g_16).symm, ⟨by rw [ht]; exact hP, by rw [hAe]; exact hD⟩⟩, by rw [hAe]; exact hS.F ht⟩) (by rw [hAe]; exact hS.2.2) dX5_goDown_182 hlocks
    · rw [if_neg c_11] at hm
      refine lv_aload_n hx hb dX5_goDown_116 rfl (lv_at hl 0 rfl) ?_
      refine va_get (D := DG G) (ci := 5) (v := .ref (a.1 35)) (C := RX5) (T := TX5) (N := 12) hx hb hts inW_X5 hown hK hP 31 rfl rfl 6 (by decide) (hts _ wm252) (fun _ h9 => h9) rfl dX5_goDown_117 ?_
      refine lv_iload_n hx hb dX5_goDown_120 rfl (lv_at hl 2 rfl) ?_
      refine lv_iload hx hb dX5_goDown_121 (lv_at hl 6 rfl) ?_
      refine lv_iadd hx hb dX5_goDown_123 ?_
      refine lv_aload_n hx hb dX5_goDown_124 rfl (lv_at hl 0 rfl) ?_
      refine va_get (D := DG G) (ci := 5) (v := .ref (a.1 1)) (C := RX5) (T := TX5) (N := 12) hx hb hts inW_X5 hown hK hP 31 rfl rfl 0 (by decide) (hts _ wm246) (fun _ h9 => h9) rfl dX5_goDown_125 ?_
      refine lv_iload_n hx hb dX5_goDown_128 rfl (lv_at hl 3 rfl) ?_
      obtain ⟨q_17, hq_17, hm⟩ := bind_some hm
      have hFc := free_all hD hS hA
      refine va_calli (va_runV (As := [.int v3]) (rest := [.int (v2 + v7), .ref (a.1 35)]) ⟨hx, hb, hml, hown, hts⟩ (K_X9_secondOf l hfl G a T F U S D R M8 N P v3  q_17 hq_17 H.size) (cwV 1 hts (gV wm1169 wm460 wm461 wm2 wm462) rfl rfl rfl (by decide +kernel) ⟨Nat.le_of_ble_eq_true rfl, Nat.le_of_ble_eq_true rfl⟩) (pre_v (pre_w hK hP hD hS hE hFc) (va_recv hK hP (ci := 8) (q0 := 1) rfl rfl)) rfl rfl hl.1 rfl (lv_room (Nat.le_of_ble_eq_true rfl)) dX5_goDown_129 ⟨Nat.le_of_ble_eq_true rfl, Nat.le_of_ble_eq_true rfl⟩) hS (fun q _ h => hFc q h) hFc (fun r u t H locs ht hvm hw hB hz1 hk1 hS => ?_)
      rw [show r = q_17 from hw]
      have hP : va_P (DG G) clP3 (wC G a T F U S D R M8 N P) H := by rw [← ht]; exact hB.1
      have hD : va_D A (wC G a T F U S D R M8 N P) := hB.2.weaken (fun _ p _ h => hFc p.1 h)
      clear hB hFc hw hk1
      refine W.widen (k := 0) (n := 0) (Nat.le_of_ble_eq_true rfl) (Nat.le_of_ble_eq_true rfl) ?_
      obtain ⟨b_18, hm⟩ := ite_some hm
      refine va_iast hx hb hK hP hD hS 35 0 rfl rfl (inb_vp b_18) dX5_goDown_132 (fun H locs hP hD hS => ?_)
      have hP : va_P (DG G) clP3 (wC G a T F U S D R (M8.1, M8.2.1, M8.2.2.1, (upd M8.2.2.2.1 (Int32.toNatClampNeg (v2 + v7)) q_17), M8.2.2.2.2.1, M8.2.2.2.2.2.1, M8.2.2.2.2.2.2.1, M8.2.2.2.2.2.2.2.1, M8.2.2.2.2.2.2.2.2) N P) H := hP
      have hD : va_D A (wC G a T F U S D R (M8.1, M8.2.1, M8.2.2.1, (upd M8.2.2.2.1 (Int32.toNatClampNeg (v2 + v7)) q_17), M8.2.2.2.2.1, M8.2.2.2.2.2.1, M8.2.2.2.2.2.2.1, M8.2.2.2.2.2.2.2.1, M8.2.2.2.2.2.2.2.2) N P) := hD
      refine lv_aload_n hx hb dX5_goDown_133 rfl (lv_at hl 0 rfl) ?_
      refine va_get (D := DG G) (ci := 5) (v := .ref (a.1 1)) (C := RX5) (T := TX5) (N := 12) hx hb hts inW_X5 hown hK hP 31 rfl rfl 0 (by decide) (hts _ wm246) (fun _ h9 => h9) rfl dX5_goDown_134 ?_
      refine lv_iload_n hx hb dX5_goDown_137 rfl (lv_at hl 3 rfl) ?_
      obtain ⟨q_19, hq_19, hm⟩ := bind_some hm
      have hFc := free_all hD hS hA
      refine va_calli (va_runV (As := [.int v3]) (rest := []) ⟨hx, hb, hml, hown, hts⟩ (K_X9_firstOf l hfl G a T F U S D R (M8.1, M8.2.1, M8.2.2.1, (upd M8.2.2.2.1 (Int32.toNatClampNeg (v2 + v7)) q_17), M8.2.2.2.2.1, M8.2.2.2.2.2.1, M8.2.2.2.2.2.2.1, M8.2.2.2.2.2.2.2.1, M8.2.2.2.2.2.2.2.2) N P v3  q_19 hq_19 H.size) (cwV 1 hts (gV wm1174 wm431 wm432 wm2 wm433) rfl rfl rfl (by decide +kernel) ⟨Nat.le_of_ble_eq_true rfl, Nat.le_of_ble_eq_true rfl⟩) (pre_v (pre_w hK hP hD hS hE hFc) (va_recv hK hP (ci := 8) (q0 := 1) rfl rfl)) rfl rfl hl.1 rfl (lv_room (Nat.le_of_ble_eq_true rfl)) dX5_goDown_138 ⟨Nat.le_of_ble_eq_true rfl, Nat.le_of_ble_eq_true rfl⟩) hS (fun q _ h => hFc q h) hFc (fun r u t H locs ht hvm hw hB hz1 hk1 hS => ?_)
      rw [show r = q_19 from hw]
      have hP : va_P (DG G) clP3 (wC G a T F U S D R (M8.1, M8.2.1, M8.2.2.1, (upd M8.2.2.2.1 (Int32.toNatClampNeg (v2 + v7)) q_17), M8.2.2.2.2.1, M8.2.2.2.2.2.1, M8.2.2.2.2.2.2.1, M8.2.2.2.2.2.2.2.1, M8.2.2.2.2.2.2.2.2) N P) H := by rw [← ht]; exact hB.1
      have hD : va_D A (wC G a T F U S D R (M8.1, M8.2.1, M8.2.2.1, (upd M8.2.2.2.1 (Int32.toNatClampNeg (v2 + v7)) q_17), M8.2.2.2.2.1, M8.2.2.2.2.2.1, M8.2.2.2.2.2.2.1, M8.2.2.2.2.2.2.2.1, M8.2.2.2.2.2.2.2.2) N P) := hB.2.weaken (fun _ p _ h => hFc p.1 h)
      clear hB hFc hw hk1
      refine W.widen (k := 0) (n := 0) (Nat.le_of_ble_eq_true rfl) (Nat.le_of_ble_eq_true rfl) ?_
      refine lv_istore_n (lv' := [(3, .int q_19), (0, .ref (a.1 31)), (1, .ref (a.2.2.1 (Int32.toNatClampNeg v1) 0)), (2, .int v2), (4, .int v4), (6, .int v6), (7, .int v7)]) hx hb dX5_goDown_141 rfl hl (by decide) rfl (fun ls hl => ?_)
      refine lv_iinc (v := (v7 + (-1))) (lv' := [(7, .int (v7 + (-1))), (3, .int q_19), (0, .ref (a.1 31)), (1, .ref (a.2.2.1 (Int32.toNatClampNeg v1) 0)), (2, .int v2), (4, .int v4), (6, .int v6)]) hx hb dX5_goDown_142 hl (k := 6) rfl rfl (by decide) rfl (fun ls hl => ?_)
      refine lv_goto (tgt := 111) hx hb dX5_goDown_145 (by decide) ?_
      refine W.widen (k := 0) (n := 0) (Nat.le_of_ble_eq_true rfl) (Nat.le_of_ble_eq_true rfl) ?_
      exact ih (M8.1, M8.2.1, M8.2.2.1, (upd M8.2.2.2.1 (Int32.toNatClampNeg (v2 + v7)) q_17), M8.2.2.2.2.1, M8.2.2.2.2.2.1, M8.2.2.2.2.2.2.1, M8.2.2.2.2.2.2.2.1, M8.2.2.2.2.2.2.2.2) v1 v2 q_19 v4 v6 (v7 + (-1)) hv1 _ _ hP hD hS _ (lv_sub hl [2, 3, 4, 1, 5, 6, 0] rfl) hm
set_option maxHeartbeats 2000000 in
set_option maxRecDepth 100000 in
theorem k_X5_goDown (l : Launch) (hfl : l.stackTraces = false) (G : GC) (a : AS) (T : TS) (F : FS) (U : US) (S : SS) (D : DS) (R : RS) (M : MS) (N : NS) (P : PS) (hlk : lkA a D.1.toNatClampNeg D.2.1.toNatClampNeg) (p1 : Int32) (hg_p1 : gix D p1 = true) (r9 : Int32) (M9 : MS) (hm : f_X5_goDown T S D M P p1 = some (r9, M9)) (sz : Nat) : Met l yX5_goDown (Cond.code yX5_goDown cX5_goDown 8 (some (.object "TelescopeCourt$Goal")) :: W0) ({ frames := 1, cells := 0, slots := 0, locals := 80 }) (va_Pc [.ref (a.1 31), .ref (a.2.2.1 (Int32.toNatClampNeg p1) 0)] (WD G (wC G a T F U S D R M N P) sz)) (va_Qq (fun (r : Option Nat) (_ : Unit) => r = rfG a r9) (fun _ t => PW G (va_A (wC G a T F U S D R M N P) sz) (wC G a T F U S D R M9 N P) t) (va_A (wC G a T F U S D R M N P) sz)) 0 0 (va_A (wC G a T F U S D R M N P) sz) := by
  rw [f_X5_goDown] at hm
  refine Met.ofW (cc := cX5_goDown) (maxL := 8) (ret := (some (.object "TelescopeCourt$Goal"))) (by decide) rfl ?_
  intro p e s m args below meth c s₁ B hml hv
  obtain ⟨rfl, hsz, hP, hK, hD0, hE⟩ := hv
  have hx := B.exec
  have hb := B.bytes
  have hr := B.returns
  have hts := w0_tail B.pre
  have hown : s.vm.findClass RX5 = some m.cls := findClass_of_methodNamed B.named
  have hlocks := B.notSynchronized
  have hD := hD0.self (sz := sz)
  obtain ⟨A, hAe⟩ : ∃ A, (va_A (wC G a T F U S D R M N P) sz) = A := ⟨_, rfl⟩
  rw [hAe] at hD hE
  have hA : ∀ q : Nat, s.heap.size ≤ q → A q := fun q h => by rw [← hAe]; exact Or.inr (by rw [← hsz]; exact h)
  have hS : va_S A s.heap s.heap [] := va_S.rf
  obtain ⟨H, hHe⟩ : ∃ H : Heap, H = s.heap := ⟨_, rfl⟩
  have hP : va_P (DG G) clP3 (wC G a T F U S D R M N P) H := by rw [hHe]; exact hP
  have hS : va_S A s.heap H [] := by rw [hHe]; exact hS
  have hl := lv_entry ([.ref (a.1 31), .ref (a.2.2.1 (Int32.toNatClampNeg p1) 0)]) (n := 8) (Nat.le_of_ble_eq_true rfl)
  rw [lg_entry_eq, ← hHe]
  generalize (lg_sl ([.ref (a.1 31), .ref (a.2.2.1 (Int32.toNatClampNeg p1) 0)]) ++ List.replicate (8 - (lg_sl ([.ref (a.1 31), .ref (a.2.2.1 (Int32.toNatClampNeg p1) 0)])).length) Slot.unset).toArray = ls at hl ⊢
  have hl : lv_has ls 8 [(0, .ref (a.1 31)), (1, .ref (a.2.2.1 (Int32.toNatClampNeg p1) 0))] := hl
  refine lv_aload_n hx hb dX5_goDown_0 rfl (lv_at hl 1 rfl) ?_
  refine va_getN (D := DG G) (ci := 3) (v := .int (P.2.2.2.2.2.2.2.1 (Int32.toNatClampNeg p1))) (C := RX3) (T := TX3) (N := 8) hx hb hts inW_X3 hown hK hP _ ((at_goalC (c := 0) (gix_lt hg_p1) (by decide)).trans rfl) rfl 6 (by decide) (va_Nw.use rfl (hE.1 _ nw929)) (fun _ h9 => h9) rfl dX5_goDown_1 ?_
  refine lv_istore_n (lv' := [(2, .int (P.2.2.2.2.2.2.2.1 (Int32.toNatClampNeg p1))), (0, .ref (a.1 31)), (1, .ref (a.2.2.1 (Int32.toNatClampNeg p1) 0))]) hx hb dX5_goDown_4 rfl hl (by decide) rfl (fun ls hl => ?_)
  refine lv_iload_n hx hb dX5_goDown_5 rfl (lv_at hl 0 rfl) ?_
  refine lv_if_lt (tgt := 17) hx hb dX5_goDown_6 (by decide) (fun c_1 => ?_) (fun c_1 => ?_)
  · rw [if_pos c_1] at hm
    refine lv_null hx hb dX5_goDown_17 ?_
    simp only [Option.some.injEq, Prod.mk.injEq] at hm
    obtain ⟨rfl, rfl⟩ := hm
    refine W.widen (k := 0) (n := 0) (Nat.le_of_ble_eq_true rfl) (Nat.le_of_ble_eq_true rfl) ?_
    exact W.aret (v := .null) hx hb hr (Or.inl ⟨_, rfl⟩) (Or.inl rfl) (fun t ht hW => ⟨⟨none, (), rfl, rfl, ⟨by rw [ht]; exact hP, by rw [hAe]; exact hD⟩⟩, by rw [hAe]; exact hS.F ht⟩) (by rw [hAe]; exact hS.2.2) dX5_goDown_18 hlocks
  · rw [if_neg c_1] at hm
    refine lv_iload_n hx hb dX5_goDown_9 rfl (lv_at hl 0 rfl) ?_
    refine lv_aload_n hx hb dX5_goDown_10 rfl (lv_at hl 1 rfl) ?_
    refine va_get (D := DG G) (ci := 5) (v := .int M.2.2.2.2.1) (C := RX5) (T := TX5) (N := 12) hx hb hts inW_X5 hown hK hP 31 rfl rfl 7 (by decide) (hts _ wm253) (fun _ h9 => h9) rfl dX5_goDown_11 ?_
    refine lv_icmp_lt (tgt := 19) hx hb dX5_goDown_14 (by decide) (fun c_2 => ?_) (fun c_2 => ?_)
    · rw [if_pos c_2] at hm
      refine lv_aload_n hx hb dX5_goDown_19 rfl (lv_at hl 1 rfl) ?_
      refine va_get (D := DG G) (ci := 5) (v := .ref (a.1 35)) (C := RX5) (T := TX5) (N := 12) hx hb hts inW_X5 hown hK hP 31 rfl rfl 6 (by decide) (hts _ wm252) (fun _ h9 => h9) rfl dX5_goDown_20 ?_
      refine lv_iload_n hx hb dX5_goDown_23 rfl (lv_at hl 0 rfl) ?_
      obtain ⟨b_3, hm⟩ := ite_some hm
      refine va_iald hx hb hK hP 35 0 rfl rfl (inb_vp b_3) dX5_goDown_24 ?_
      refine lv_topi (fun yz_4 eyz_4 => ?_)
      obtain ⟨z_4, hz_4, hm⟩ := bind_some hm
      obtain rfl : yz_4 = z_4 := eyz_4.trans (Option.some.inj hz_4)
      refine lv_istore_n (lv' := [(3, .int yz_4), (2, .int (P.2.2.2.2.2.2.2.1 (Int32.toNatClampNeg p1))), (0, .ref (a.1 31)), (1, .ref (a.2.2.1 (Int32.toNatClampNeg p1) 0))]) hx hb dX5_goDown_25 rfl hl (by decide) rfl (fun ls hl => ?_)
      refine lv_aload_n hx hb dX5_goDown_26 rfl (lv_at hl 2 rfl) ?_
      refine va_get (D := DG G) (ci := 5) (v := .ref (a.1 1)) (C := RX5) (T := TX5) (N := 12) hx hb hts inW_X5 hown hK hP 31 rfl rfl 0 (by decide) (hts _ wm246) (fun _ h9 => h9) rfl dX5_goDown_27 ?_
      refine lv_iload_n hx hb dX5_goDown_30 rfl (lv_at hl 0 rfl) ?_
      obtain ⟨q_5, hq_5, hm⟩ := bind_some hm
      have hFc := free_all hD hS hA
      refine va_calli (va_runV (As := [.int yz_4]) (rest := []) ⟨hx, hb, hml, hown, hts⟩ (K_X9_headOf l hfl G a T F U S D R M N P yz_4  q_5 hq_5 H.size) (cwV 1 hts (gV wm1185 wm1186 wm1187 wm2 wm1188) rfl rfl rfl (by decide +kernel) ⟨Nat.le_of_ble_eq_true rfl, Nat.le_of_ble_eq_true rfl⟩) (pre_v (pre_w hK hP hD hS hE hFc) (va_recv hK hP (ci := 8) (q0 := 1) rfl rfl)) rfl rfl hl.1 rfl (lv_room (Nat.le_of_ble_eq_true rfl)) dX5_goDown_31 ⟨Nat.le_of_ble_eq_true rfl, Nat.le_of_ble_eq_true rfl⟩) hS (fun q _ h => hFc q h) hFc (fun r u t H locs ht hvm hw hB hz1 hk1 hS => ?_)
      rw [show r = q_5 from hw]
      have hP : va_P (DG G) clP3 (wC G a T F U S D R M N P) H := by rw [← ht]; exact hB.1
      have hD : va_D A (wC G a T F U S D R M N P) := hB.2.weaken (fun _ p _ h => hFc p.1 h)
      clear hB hFc hw hk1
      refine W.widen (k := 0) (n := 0) (Nat.le_of_ble_eq_true rfl) (Nat.le_of_ble_eq_true rfl) ?_
      refine lv_istore (lv' := [(4, .int q_5), (3, .int yz_4), (2, .int (P.2.2.2.2.2.2.2.1 (Int32.toNatClampNeg p1))), (0, .ref (a.1 31)), (1, .ref (a.2.2.1 (Int32.toNatClampNeg p1) 0))]) hx hb dX5_goDown_34 hl (by decide) rfl (fun ls hl => ?_)
      refine lv_aload_n hx hb dX5_goDown_36 rfl (lv_at hl 3 rfl) ?_
      refine va_get (D := DG G) (ci := 5) (v := .ref (a.1 1)) (C := RX5) (T := TX5) (N := 12) hx hb hts inW_X5 hown hK hP 31 rfl rfl 0 (by decide) (hts _ wm246) (fun _ h9 => h9) rfl dX5_goDown_37 ?_
      refine lv_iload_n hx hb dX5_goDown_40 rfl (lv_at hl 1 rfl) ?_
      obtain ⟨q_6, hq_6, hm⟩ := bind_some hm
      have hFc := free_all hD hS hA
      refine va_calli (va_runV (As := [.int yz_4]) (rest := []) ⟨hx, hb, hml, hown, hts⟩ (K_X9_argumentsOf l hfl G a T F U S D R M N P yz_4  q_6 hq_6 H.size) (cwV 1 hts (gV wm1189 wm1115 wm1116 wm2 wm1117) rfl rfl rfl (by decide +kernel) ⟨Nat.le_of_ble_eq_true rfl, Nat.le_of_ble_eq_true rfl⟩) (pre_v (pre_w hK hP hD hS hE hFc) (va_recv hK hP (ci := 8) (q0 := 1) rfl rfl)) rfl rfl hl.1 rfl (lv_room (Nat.le_of_ble_eq_true rfl)) dX5_goDown_41 ⟨Nat.le_of_ble_eq_true rfl, Nat.le_of_ble_eq_true rfl⟩) hS (fun q _ h => hFc q h) hFc (fun r u t H locs ht hvm hw hB hz1 hk1 hS => ?_)
      rw [show r = q_6 from hw]
      have hP : va_P (DG G) clP3 (wC G a T F U S D R M N P) H := by rw [← ht]; exact hB.1
      have hD : va_D A (wC G a T F U S D R M N P) := hB.2.weaken (fun _ p _ h => hFc p.1 h)
      clear hB hFc hw hk1
      refine W.widen (k := 0) (n := 0) (Nat.le_of_ble_eq_true rfl) (Nat.le_of_ble_eq_true rfl) ?_
      refine lv_istore (lv' := [(5, .int q_6), (4, .int q_5), (3, .int yz_4), (2, .int (P.2.2.2.2.2.2.2.1 (Int32.toNatClampNeg p1))), (0, .ref (a.1 31)), (1, .ref (a.2.2.1 (Int32.toNatClampNeg p1) 0))]) hx hb dX5_goDown_44 hl (by decide) rfl (fun ls hl => ?_)
      refine lv_aload_n hx hb dX5_goDown_46 rfl (lv_at hl 4 rfl) ?_
      refine va_get (D := DG G) (ci := 5) (v := .int M.2.2.2.2.1) (C := RX5) (T := TX5) (N := 12) hx hb hts inW_X5 hown hK hP 31 rfl rfl 7 (by decide) (hts _ wm253) (fun _ h9 => h9) rfl dX5_goDown_47 ?_
      refine lv_iconst (v := 1) hx hb dX5_goDown_50 (by decide) ?_
      refine lv_isub hx hb dX5_goDown_51 ?_
      refine lv_iload hx hb dX5_goDown_52 (lv_at hl 0 rfl) ?_
      refine lv_iadd hx hb dX5_goDown_54 ?_
      refine lv_istore (lv' := [(6, .int ((M.2.2.2.2.1 - (1 : Int32)) + q_6)), (5, .int q_6), (4, .int q_5), (3, .int yz_4), (2, .int (P.2.2.2.2.2.2.2.1 (Int32.toNatClampNeg p1))), (0, .ref (a.1 31)), (1, .ref (a.2.2.1 (Int32.toNatClampNeg p1) 0))]) hx hb dX5_goDown_55 hl (by decide) rfl (fun ls hl => ?_)
      refine lv_aload_n hx hb dX5_goDown_57 rfl (lv_at hl 5 rfl) ?_
      refine va_get (D := DG G) (ci := 5) (v := .ref (a.1 1)) (C := RX5) (T := TX5) (N := 12) hx hb hts inW_X5 hown hK hP 31 rfl rfl 0 (by decide) (hts _ wm246) (fun _ h9 => h9) rfl dX5_goDown_58 ?_
      refine lv_iload hx hb dX5_goDown_61 (lv_at hl 2 rfl) ?_
      obtain ⟨q_7, hq_7, hm⟩ := bind_some hm
      have hFc := free_all hD hS hA
      refine va_calli (va_runV (As := [.int q_5]) (rest := []) ⟨hx, hb, hml, hown, hts⟩ (K_X9_kindOf l hfl G a T F U S D R M N P q_5  q_7 hq_7 H.size) (cwV 1 hts (gV wm1168 wm435 wm436 wm2 wm437) rfl rfl rfl (by decide +kernel) ⟨Nat.le_of_ble_eq_true rfl, Nat.le_of_ble_eq_true rfl⟩) (pre_v (pre_w hK hP hD hS hE hFc) (va_recv hK hP (ci := 8) (q0 := 1) rfl rfl)) rfl rfl hl.1 rfl (lv_room (Nat.le_of_ble_eq_true rfl)) dX5_goDown_63 ⟨Nat.le_of_ble_eq_true rfl, Nat.le_of_ble_eq_true rfl⟩) hS (fun q _ h => hFc q h) hFc (fun r u t H locs ht hvm hw hB hz1 hk1 hS => ?_)
      rw [show r = q_7 from hw]
      have hP : va_P (DG G) clP3 (wC G a T F U S D R M N P) H := by rw [← ht]; exact hB.1
      have hD : va_D A (wC G a T F U S D R M N P) := hB.2.weaken (fun _ p _ h => hFc p.1 h)
      clear hB hFc hw hk1
      refine W.widen (k := 0) (n := 0) (Nat.le_of_ble_eq_true rfl) (Nat.le_of_ble_eq_true rfl) ?_
      refine lv_iconst (v := 3) hx hb dX5_goDown_66 (by decide) ?_
      refine lv_icmp_ne (tgt := 77) hx hb dX5_goDown_67 (by decide) (fun c_8 => ?_) (fun c_8 => ?_)
      · rw [if_neg c_8] at hm
        refine lv_null hx hb dX5_goDown_77 ?_
        simp only [Option.some.injEq, Prod.mk.injEq] at hm
        obtain ⟨rfl, rfl⟩ := hm
        refine W.widen (k := 0) (n := 0) (Nat.le_of_ble_eq_true rfl) (Nat.le_of_ble_eq_true rfl) ?_
        exact W.aret (v := .null) hx hb hr (Or.inl ⟨_, rfl⟩) (Or.inl rfl) (fun t ht hW => ⟨⟨none, (), rfl, rfl, ⟨by rw [ht]; exact hP, by rw [hAe]; exact hD⟩⟩, by rw [hAe]; exact hS.F ht⟩) (by rw [hAe]; exact hS.2.2) dX5_goDown_78 hlocks
      · rw [if_pos c_8] at hm
        refine lv_iload hx hb dX5_goDown_70 (lv_at hl 0 rfl) ?_
        refine lv_bipush (v := 12) hx hb dX5_goDown_72 (by decide) ?_
        refine lv_icmp_le (tgt := 79) hx hb dX5_goDown_74 (by decide) (fun c_9 => ?_) (fun c_9 => ?_)
        · rw [if_pos c_9] at hm
          refine lv_aload_n hx hb dX5_goDown_79 rfl (lv_at hl 5 rfl) ?_
          refine va_get (D := DG G) (ci := 5) (v := .ref (a.1 35)) (C := RX5) (T := TX5) (N := 12) hx hb hts inW_X5 hown hK hP 31 rfl rfl 6 (by decide) (hts _ wm252) (fun _ h9 => h9) rfl dX5_goDown_80 ?_
          refine lv_iload_n hx hb dX5_goDown_83 rfl (lv_at hl 4 rfl) ?_
          refine lv_iconst (v := 1) hx hb dX5_goDown_84 (by decide) ?_
          refine lv_iadd hx hb dX5_goDown_85 ?_
          refine lv_aload_n hx hb dX5_goDown_86 rfl (lv_at hl 5 rfl) ?_
          refine va_get (D := DG G) (ci := 5) (v := .ref (a.1 35)) (C := RX5) (T := TX5) (N := 12) hx hb hts inW_X5 hown hK hP 31 rfl rfl 6 (by decide) (hts _ wm252) (fun _ h9 => h9) rfl dX5_goDown_87 ?_
          refine lv_iload_n hx hb dX5_goDown_90 rfl (lv_at hl 4 rfl) ?_
          refine lv_iload hx hb dX5_goDown_91 (lv_at hl 1 rfl) ?_
          refine lv_iadd hx hb dX5_goDown_93 ?_
          refine lv_aload_n hx hb dX5_goDown_94 rfl (lv_at hl 5 rfl) ?_
          refine va_get (D := DG G) (ci := 5) (v := .int M.2.2.2.2.1) (C := RX5) (T := TX5) (N := 12) hx hb hts inW_X5 hown hK hP 31 rfl rfl 7 (by decide) (hts _ wm253) (fun _ h9 => h9) rfl dX5_goDown_95 ?_
          refine lv_iload_n hx hb dX5_goDown_98 rfl (lv_at hl 4 rfl) ?_
          refine lv_isub hx hb dX5_goDown_99 ?_
          refine lv_iconst (v := 1) hx hb dX5_goDown_100 (by decide) ?_
          refine lv_isub hx hb dX5_goDown_101 ?_
          obtain ⟨b_10, hm⟩ := ite_some hm
          refine va_copyi hx hb (hml.trans hl.1.symm) hown (hts _ wm1205) (hts _ wm1207) (hts _ wm1206) (hts _ wm24) hK hP hD hS 35 35 0 0 rfl rfl rfl rfl rfl (cpok_1 b_10) (cpok_2 b_10) (cpok_3 b_10) (cpok_4 b_10) (cpok_5 b_10) (fun _ _ => rfl) (Nat.le_of_ble_eq_true rfl) (by decide +kernel) dX5_goDown_102 (fun H locs hP hD hS => ?_)
          have hP : va_P (DG G) clP3 (wC G a T F U S D R (M.1, M.2.1, M.2.2.1, (va_cpy M.2.2.2.1 M.2.2.2.1 (Int32.toNatClampNeg ((P.2.2.2.2.2.2.2.1 (Int32.toNatClampNeg p1)) + (1 : Int32))) (Int32.toNatClampNeg ((P.2.2.2.2.2.2.2.1 (Int32.toNatClampNeg p1)) + q_6)) (Int32.toNatClampNeg ((M.2.2.2.2.1 - (P.2.2.2.2.2.2.2.1 (Int32.toNatClampNeg p1))) - (1 : Int32)))), M.2.2.2.2.1, M.2.2.2.2.2.1, M.2.2.2.2.2.2.1, M.2.2.2.2.2.2.2.1, M.2.2.2.2.2.2.2.2) N P) H := hP
          have hD : va_D A (wC G a T F U S D R (M.1, M.2.1, M.2.2.1, (va_cpy M.2.2.2.1 M.2.2.2.1 (Int32.toNatClampNeg ((P.2.2.2.2.2.2.2.1 (Int32.toNatClampNeg p1)) + (1 : Int32))) (Int32.toNatClampNeg ((P.2.2.2.2.2.2.2.1 (Int32.toNatClampNeg p1)) + q_6)) (Int32.toNatClampNeg ((M.2.2.2.2.1 - (P.2.2.2.2.2.2.2.1 (Int32.toNatClampNeg p1))) - (1 : Int32)))), M.2.2.2.2.1, M.2.2.2.2.2.1, M.2.2.2.2.2.2.1, M.2.2.2.2.2.2.2.1, M.2.2.2.2.2.2.2.2) N P) := hD
          refine lv_iload hx hb dX5_goDown_105 (lv_at hl 1 rfl) ?_
          refine lv_iconst (v := 1) hx hb dX5_goDown_107 (by decide) ?_
          refine lv_isub hx hb dX5_goDown_108 ?_
          refine lv_istore (lv' := [(7, .int (q_6 - (1 : Int32))), (6, .int ((M.2.2.2.2.1 - (1 : Int32)) + q_6)), (5, .int q_6), (4, .int q_5), (3, .int yz_4), (2, .int (P.2.2.2.2.2.2.2.1 (Int32.toNatClampNeg p1))), (0, .ref (a.1 31)), (1, .ref (a.2.2.1 (Int32.toNatClampNeg p1) 0))]) hx hb dX5_goDown_109 hl (by decide) rfl (fun ls hl => ?_)
          refine W.widen (k := 0) (n := 0) (Nat.le_of_ble_eq_true rfl) (Nat.le_of_ble_eq_true rfl) ?_
          exact kl_X5_goDown_111 hfl hx hb hr hml hown hts hlocks hlk hAe hA hE hK r9 M9 100000 (M.1, M.2.1, M.2.2.1, (va_cpy M.2.2.2.1 M.2.2.2.1 (Int32.toNatClampNeg ((P.2.2.2.2.2.2.2.1 (Int32.toNatClampNeg p1)) + (1 : Int32))) (Int32.toNatClampNeg ((P.2.2.2.2.2.2.2.1 (Int32.toNatClampNeg p1)) + q_6)) (Int32.toNatClampNeg ((M.2.2.2.2.1 - (P.2.2.2.2.2.2.2.1 (Int32.toNatClampNeg p1))) - (1 : Int32)))), M.2.2.2.2.1, M.2.2.2.2.2.1, M.2.2.2.2.2.2.1, M.2.2.2.2.2.2.2.1, M.2.2.2.2.2.2.2.2) p1 (P.2.2.2.2.2.2.2.1 (Int32.toNatClampNeg p1)) yz_4 q_5 ((M.2.2.2.2.1 - (1 : Int32)) + q_6) (q_6 - (1 : Int32)) hg_p1 _ _ hP hD hS _ (lv_sub hl [6, 7, 5, 4, 3, 1, 0] rfl) hm
        · rw [if_neg c_9] at hm
          refine lv_null hx hb dX5_goDown_77 ?_
          simp only [Option.some.injEq, Prod.mk.injEq] at hm
          obtain ⟨rfl, rfl⟩ := hm
          refine W.widen (k := 0) (n := 0) (Nat.le_of_ble_eq_true rfl) (Nat.le_of_ble_eq_true rfl) ?_
          exact W.aret (v := .null) hx hb hr (Or.inl ⟨_, rfl⟩) (Or.inl rfl) (fun t ht hW => ⟨⟨none, (), rfl, rfl, ⟨by rw [ht]; exact hP, by rw [hAe]; exact hD⟩⟩, by rw [hAe]; exact hS.F ht⟩) (by rw [hAe]; exact hS.2.2) dX5_goDown_78 hlocks
    · rw [if_neg c_2] at hm
      refine lv_null hx hb dX5_goDown_17 ?_
      simp only [Option.some.injEq, Prod.mk.injEq] at hm
      obtain ⟨rfl, rfl⟩ := hm
      refine W.widen (k := 0) (n := 0) (Nat.le_of_ble_eq_true rfl) (Nat.le_of_ble_eq_true rfl) ?_
      exact W.aret (v := .null) hx hb hr (Or.inl ⟨_, rfl⟩) (Or.inl rfl) (fun t ht hW => ⟨⟨none, (), rfl, rfl, ⟨by rw [ht]; exact hP, by rw [hAe]; exact hD⟩⟩, by rw [hAe]; exact hS.F ht⟩) (by rw [hAe]; exact hS.2.2) dX5_goDown_18 hlocks
def f_X5_clauseBySplits_L55 : Nat → TS → SS → DS → MS → PS → Int32 → Int32 → Option (Int32 × MS)
  | 0, _, _, _, _, _, _, _ => none
  | n + 1, T, S, D, M, P, v2, v3 => (if v2 < 0 then (if 40 ≤ v3 then some ((-1), M) else some ((-1), M)) else (if gix D v2 = true then (if 40 ≤ v3 then some ((-1), M) else (if (P.2.2.2.2.2.1 (Int32.toNatClampNeg v2)) = 115 then (Option.bind (f_X5_goDown T S D M P v2) (fun q_15 => (if q_15.1 < 0 then (f_X5_clauseBySplits_L55 n T S D q_15.2 P (-1) (v3 + 1)) else (if gix D q_15.1 = true then (f_X5_clauseBySplits_L55 n T S D q_15.2 P q_15.1 (v3 + 1)) else none)))) else (if (P.2.2.2.2.2.1 (Int32.toNatClampNeg v2)) = 102 then some (v2, M) else some ((-1), M)))) else none))
def f_X5_clauseBySplits_L10 : Nat → TS → SS → DS → MS → PS → Int32 → Int32 → Option (Int32 × MS)
  | 0, _, _, _, _, _, _, _ => none
  | n + 1, T, S, D, M, P, v1, v2 => (if M.2.2.2.2.1 ≤ v2 then (Option.bind (f_X0_goal D (P.2.2.1 (Int32.toNatClampNeg v1))) (fun q_2 => (if q_2 < 0 then (f_X5_clauseBySplits_L55 100000 T S D M P (-1) 0) else (if gix D q_2 = true then (f_X5_clauseBySplits_L55 100000 T S D M P q_2 0) else none)))) else (if 4 ≤ v2 then (Option.bind (f_X0_goal D (P.2.2.1 (Int32.toNatClampNeg v1))) (fun q_6 => (if q_6 < 0 then (f_X5_clauseBySplits_L55 100000 T S D M P (-1) 0) else (if gix D q_6 = true then (f_X5_clauseBySplits_L55 100000 T S D M P q_6 0) else none)))) else (if inb v2 4 = true then (if inb v2 12 = true then (f_X5_clauseBySplits_L10 n T S D (M.1, M.2.1, M.2.2.1, (upd M.2.2.2.1 (Int32.toNatClampNeg v2) (M.2.2.1 (Int32.toNatClampNeg v2))), M.2.2.2.2.1, M.2.2.2.2.2.1, M.2.2.2.2.2.2.1, M.2.2.2.2.2.2.2.1, M.2.2.2.2.2.2.2.2) P v1 (v2 + 1)) else none) else none)))
def f_X5_clauseBySplits (T : TS) (S : SS) (D : DS) (M : MS) (P : PS) (p1 : Int32) : Option (Int32 × MS) := (f_X5_clauseBySplits_L10 100000 T S D (M.1, M.2.1, M.2.2.1, M.2.2.2.1, (P.2.1 (Int32.toNatClampNeg p1)), M.2.2.2.2.2.1, M.2.2.2.2.2.2.1, M.2.2.2.2.2.2.2.1, M.2.2.2.2.2.2.2.2) P p1 0)
set_option maxHeartbeats 2000000 in
set_option maxRecDepth 100000 in
theorem kl_X5_clauseBySplits_55 {l : Launch} (hfl : l.stackTraces = false) {G : GC} {a : AS} {T : TS} {F : FS} {U : US} {S : SS} {D : DS} {R : RS} {M : MS} {N : NS} {P : PS} {A : Nat → Prop} {sz : Nat} {p : Program} {e : Env} {s : State} {m : MethodId} {args : Array Value} {below : List Frame} {meth : Method} {c : Code} (hx : p.tables.exec = Jvm.exec) (hb : c.code = cX5_clauseBySplits) (hr : meth.sig.returnType = (some (.object "TelescopeCourt$Goal"))) (hml : c.maxLocals = 4) (hown : s.vm.findClass RX5 = some m.cls) (hts : ∀ w ∈ W0, w.before args s = true) (hlocks : meth.locks = false) (hlk : lkA a D.1.toNatClampNeg D.2.1.toNatClampNeg) (hAe : (va_A (wC G a T F U S D R M N P) sz) = A) (hA : ∀ q : Nat, s.heap.size ≤ q → A q) (hE : EV G A s s.heap) (hK : va_K (DG G) clP3 (TY G) s) (r9 : Int32) (M9 : MS) : ∀ (n : Nat), ∀ (M8 : MS) (v2 : Int32) (v3 : Int32) (H : Heap) (locs : List Loc), va_P (DG G) clP3 (wC G a T F U S D R M8 N P) H → va_D A (wC G a T F U S D R M8 N P) → va_S A s.heap H locs → ∀ (ls : Array Slot), lv_has ls 4 [(0, .ref (a.1 31)), (2, va_rf (rfG a v2)), (3, .int v3)] → f_X5_clauseBySplits_L55 n T S D M8 P v2 v3 = some (r9, M9) → W p l e ({ frames := 2, cells := 0, slots := 0, locals := 107 }) s m args below meth c H locs 0 0 (MQ below (va_Qq (fun (r : Option Nat) (_ : Unit) => r = rfG a r9) (fun _ t => PW G (va_A (wC G a T F U S D R M N P) sz) (wC G a T F U S D R M9 N P) t) (va_A (wC G a T F U S D R M N P) sz)) args s 0 0 (va_A (wC G a T F U S D R M N P) sz)) (F0 m 55 ls []) := by
  intro n
  induction n with
  | zero =>
    intro M8 v2 v3 H locs hP hD hS ls hl hm
    rw [f_X5_clauseBySplits_L55] at hm
    cases hm
  | succ n ih =>
    intro M8 v2 v3 H locs hP hD hS ls hl hm
    rw [f_X5_clauseBySplits_L55] at hm
    by_cases c_v2 : v2 < 0
    · rw [if_pos c_v2] at hm
      rw [show rfG a v2 = none from if_pos c_v2] at hl
      have hl : lv_has ls 4 [(0, .ref (a.1 31)), (2, .null), (3, .int v3)] := hl
      refine lv_iload_n hx hb dX5_clauseBySplits_55 rfl (lv_at hl 2 rfl) ?_
      refine lv_bipush (v := 40) hx hb dX5_clauseBySplits_56 (by decide) ?_
      refine lv_icmp_ge (tgt := 101) hx hb dX5_clauseBySplits_58 (by decide) (fun c_11 => ?_) (fun c_11 => ?_)
      · rw [if_pos c_11] at hm
        refine lv_null hx hb dX5_clauseBySplits_101 ?_
        simp only [Option.some.injEq, Prod.mk.injEq] at hm
        obtain ⟨rfl, rfl⟩ := hm
        refine W.widen (k := 0) (n := 0) (Nat.le_of_ble_eq_true rfl) (Nat.le_of_ble_eq_true rfl) ?_
        exact W.aret (v := .null) hx hb hr (Or.inl ⟨_, rfl⟩) (Or.inl rfl) (fun t ht hW => ⟨⟨none, (), rfl, rfl, ⟨by rw [ht]; exact hP, by rw [hAe]; exact hD⟩⟩, by rw [hAe]; exact hS.F ht⟩) (by rw [hAe]; exact hS.2.2) dX5_clauseBySplits_102 hlocks
      · rw [if_neg c_11] at hm
        refine lv_aload_nN hx hb dX5_clauseBySplits_61 rfl (lv_at hl 1 rfl) ?_
        refine lv_ifnullN (tgt := 101) hx hb dX5_clauseBySplits_62 (by decide) ?_
        refine lv_null hx hb dX5_clauseBySplits_101 ?_
        simp only [Option.some.injEq, Prod.mk.injEq] at hm
        obtain ⟨rfl, rfl⟩ := hm
        refine W.widen (k := 0) (n := 0) (Nat.le_of_ble_eq_true rfl) (Nat.le_of_ble_eq_true rfl) ?_
        exact W.aret (v := .null) hx hb hr (Or.inl ⟨_, rfl⟩) (Or.inl rfl) (fun t ht hW => ⟨⟨none, (), rfl, rfl, ⟨by rw [ht]; exact hP, by rw [hAe]; exact hD⟩⟩, by rw [hAe]; exact hS.F ht⟩) (by rw [hAe]; exact hS.2.2) dX5_clauseBySplits_102 hlocks
    · rw [if_neg c_v2] at hm
      obtain ⟨g_12, hm⟩ := ite_some hm
      rw [show rfG a v2 = some _ from if_neg c_v2] at hl
      have hl : lv_has ls 4 [(0, .ref (a.1 31)), (2, .ref (a.2.2.1 (Int32.toNatClampNeg v2) 0)), (3, .int v3)] := hl
      refine lv_iload_n hx hb dX5_clauseBySplits_55 rfl (lv_at hl 2 rfl) ?_
      refine lv_bipush (v := 40) hx hb dX5_clauseBySplits_56 (by decide) ?_
      refine lv_icmp_ge (tgt := 101) hx hb dX5_clauseBySplits_58 (by decide) (fun c_13 => ?_) (fun c_13 => ?_)
      · rw [if_pos c_13] at hm
        refine lv_null hx hb dX5_clauseBySplits_101 ?_
        simp only [Option.some.injEq, Prod.mk.injEq] at hm
        obtain ⟨rfl, rfl⟩ := hm
        refine W.widen (k := 0) (n := 0) (Nat.le_of_ble_eq_true rfl) (Nat.le_of_ble_eq_true rfl) ?_
        exact W.aret (v := .null) hx hb hr (Or.inl ⟨_, rfl⟩) (Or.inl rfl) (fun t ht hW => ⟨⟨none, (), rfl, rfl, ⟨by rw [ht]; exact hP, by rw [hAe]; exact hD⟩⟩, by rw [hAe]; exact hS.F ht⟩) (by rw [hAe]; exact hS.2.2) dX5_clauseBySplits_102 hlocks
      · rw [if_neg c_13] at hm
        refine lv_aload_n hx hb dX5_clauseBySplits_61 rfl (lv_at hl 1 rfl) ?_
        refine lv_ifnull hx hb dX5_clauseBySplits_62 ?_
        refine lv_aload_n hx hb dX5_clauseBySplits_65 rfl (lv_at hl 1 rfl) ?_
        refine va_getN (D := DG G) (ci := 3) (v := .int (P.2.2.2.2.2.1 (Int32.toNatClampNeg v2))) (C := RX3) (T := TX3) (N := 8) hx hb hts inW_X3 hown hK hP _ ((at_goalC (c := 0) (gix_lt g_12) (by decide)).trans rfl) rfl 4 (by decide) (va_Nw.use rfl (hE.1 _ nw921)) (fun _ h9 => h9) rfl dX5_clauseBySplits_66 ?_
        refine lv_bipush (v := 115) hx hb dX5_clauseBySplits_69 (by decide) ?_
        refine lv_icmp_eq (tgt := 89) hx hb dX5_clauseBySplits_71 (by decide) (fun c_14 => ?_) (fun c_14 => ?_)
        · rw [if_pos c_14] at hm
          refine lv_aload_n hx hb dX5_clauseBySplits_89 rfl (lv_at hl 0 rfl) ?_
          refine lv_aload_n hx hb dX5_clauseBySplits_90 rfl (lv_at hl 1 rfl) ?_
          obtain ⟨q_15, hq_15, hm⟩ := bind_some hm
          have hFc := free_all hD hS hA
          refine va_callq (va_runV (As := [.ref (a.2.2.1 (Int32.toNatClampNeg v2) 0)]) (rest := []) ⟨hx, hb, hml, hown, hts⟩ (k_X5_goDown l hfl G a T F U S D R M8 N P hlk v2 g_12 q_15.1 q_15.2 hq_15 H.size) (cwV 1 hts (gV wm1201 wm1203 ws_p26 wm10 wm1204) rfl rfl rfl (by decide +kernel) ⟨Nat.le_of_ble_eq_true rfl, Nat.le_of_ble_eq_true rfl⟩) (pre_v (pre_w hK hP hD hS hE hFc) (va_recv hK hP (ci := 5) (q0 := 31) rfl rfl)) rfl rfl hl.1 rfl (lv_room (Nat.le_of_ble_eq_true rfl)) dX5_clauseBySplits_91 ⟨Nat.le_of_ble_eq_true rfl, Nat.le_of_ble_eq_true rfl⟩) hS (fun q _ h => hFc q h) hFc (fun r u t H locs ht hvm hw hB hz1 hk1 hS => ?_)
          rw [show r = rfG a q_15.1 from hw]
          have hP : va_P (DG G) clP3 (wC G a T F U S D R q_15.2 N P) H := by rw [← ht]; exact hB.1
          have hD : va_D A (wC G a T F U S D R q_15.2 N P) := hB.2.weaken (fun _ p _ h => hFc p.1 h)
          clear hB hFc hw hk1
          refine W.widen (k := 0) (n := 0) (Nat.le_of_ble_eq_true rfl) (Nat.le_of_ble_eq_true rfl) ?_
          by_cases c_16 : q_15.1 < 0
          · rw [if_pos c_16] at hm
            rw [show rfG a q_15.1 = none from if_pos c_16]
            refine W.eq (g2 := F0 m 94 ls [.null]) rfl ?_
            refine lv_astore_nN (lv' := [(2, .null), (0, .ref (a.1 31)), (3, .int v3)]) hx hb dX5_clauseBySplits_94 rfl hl (by decide) rfl (fun ls hl => ?_)
            refine lv_iinc (v := (v3 + 1)) (lv' := [(3, .int (v3 + 1)), (2, .null), (0, .ref (a.1 31))]) hx hb dX5_clauseBySplits_95 hl (k := 2) rfl rfl (by decide) rfl (fun ls hl => ?_)
            refine lv_goto (tgt := 55) hx hb dX5_clauseBySplits_98 (by decide) ?_
            refine W.widen (k := 0) (n := 0) (Nat.le_of_ble_eq_true rfl) (Nat.le_of_ble_eq_true rfl) ?_
            have hl9 : lv_has ls 4 [(0, .ref (a.1 31)), (2, va_rf (rfG a (-1))), (3, .int (v3 + 1))] := by exact (lv_sub hl [2, 1, 0] rfl)
            exact ih q_15.2 (-1) (v3 + 1)  _ _ hP hD hS _ hl9 hm
          · rw [if_neg c_16] at hm
            obtain ⟨g_17, hm⟩ := ite_some hm
            rw [show rfG a q_15.1 = some _ from if_neg c_16]
            refine W.eq (g2 := F0 m 94 ls [.ref (a.2.2.1 (Int32.toNatClampNeg q_15.1) 0)]) rfl ?_
            refine lv_astore_n (lv' := [(2, .ref (a.2.2.1 (Int32.toNatClampNeg q_15.1) 0)), (0, .ref (a.1 31)), (3, .int v3)]) hx hb dX5_clauseBySplits_94 rfl hl (by decide) rfl (fun ls hl => ?_)
            refine lv_iinc (v := (v3 + 1)) (lv' := [(3, .int (v3 + 1)), (2, .ref (a.2.2.1 (Int32.toNatClampNeg q_15.1) 0)), (0, .ref (a.1 31))]) hx hb dX5_clauseBySplits_95 hl (k := 2) rfl rfl (by decide) rfl (fun ls hl => ?_)
            refine lv_goto (tgt := 55) hx hb dX5_clauseBySplits_98 (by decide) ?_
            refine W.widen (k := 0) (n := 0) (Nat.le_of_ble_eq_true rfl) (Nat.le_of_ble_eq_true rfl) ?_
            have hl9 : lv_has ls 4 [(0, .ref (a.1 31)), (2, va_rf (rfG a q_15.1)), (3, .int (v3 + 1))] := by rw [rfG_pos g_17]; exact (lv_sub hl [2, 1, 0] rfl)
            exact ih q_15.2 q_15.1 (v3 + 1)  _ _ hP hD hS _ hl9 hm
        · rw [if_neg c_14] at hm
          refine lv_aload_n hx hb dX5_clauseBySplits_74 rfl (lv_at hl 1 rfl) ?_
          refine va_getN (D := DG G) (ci := 3) (v := .int (P.2.2.2.2.2.1 (Int32.toNatClampNeg v2))) (C := RX3) (T := TX3) (N := 8) hx hb hts inW_X3 hown hK hP _ ((at_goalC (c := 0) (gix_lt g_12) (by decide)).trans rfl) rfl 4 (by decide) (va_Nw.use rfl (hE.1 _ nw921)) (fun _ h9 => h9) rfl dX5_clauseBySplits_75 ?_
          refine lv_bipush (v := 102) hx hb dX5_clauseBySplits_78 (by decide) ?_
          refine lv_icmp_ne (tgt := 87) hx hb dX5_clauseBySplits_80 (by decide) (fun c_18 => ?_) (fun c_18 => ?_)
          · rw [if_neg c_18] at hm
            refine lv_null hx hb dX5_clauseBySplits_87 ?_
            simp only [Option.some.injEq, Prod.mk.injEq] at hm
            obtain ⟨rfl, rfl⟩ := hm
            refine W.widen (k := 0) (n := 0) (Nat.le_of_ble_eq_true rfl) (Nat.le_of_ble_eq_true rfl) ?_
            exact W.aret (v := .null) hx hb hr (Or.inl ⟨_, rfl⟩) (Or.inl rfl) (fun t ht hW => ⟨⟨none, (), rfl, rfl, ⟨by rw [ht]; exact hP, by rw [hAe]; exact hD⟩⟩, by rw [hAe]; exact hS.F ht⟩) (by rw [hAe]; exact hS.2.2) dX5_clauseBySplits_88 hlocks
          · rw [if_pos c_18] at hm
            refine lv_aload_n hx hb dX5_clauseBySplits_83 rfl (lv_at hl 1 rfl) ?_
            refine lv_goto (tgt := 88) hx hb dX5_clauseBySplits_84 (by decide) ?_
            simp only [Option.some.injEq, Prod.mk.injEq] at hm
            obtain ⟨rfl, rfl⟩ := hm
            refine W.widen (k := 0) (n := 0) (Nat.le_of_ble_eq_true rfl) (Nat.le_of_ble_eq_true rfl) ?_
            exact W.aret (v := .ref (a.2.2.1 (Int32.toNatClampNeg v2) 0)) hx hb hr (Or.inl ⟨_, rfl⟩) (Or.inr ⟨_, rfl⟩) (fun t ht hW => ⟨⟨(some (a.2.2.1 (Int32.toNatClampNeg v2) 0)), (), rfl, (rfG_pos g_12).symm, ⟨by rw [ht]; exact hP, by rw [hAe]; exact hD⟩⟩, by rw [hAe]; exact hS.F ht⟩) (by rw [hAe]; exact hS.2.2) dX5_clauseBySplits_88 hlocks
set_option maxHeartbeats 2000000 in
set_option maxRecDepth 100000 in
theorem kl_X5_clauseBySplits_10 {l : Launch} (hfl : l.stackTraces = false) {G : GC} {a : AS} {T : TS} {F : FS} {U : US} {S : SS} {D : DS} {R : RS} {M : MS} {N : NS} {P : PS} {A : Nat → Prop} {sz : Nat} {p : Program} {e : Env} {s : State} {m : MethodId} {args : Array Value} {below : List Frame} {meth : Method} {c : Code} (hx : p.tables.exec = Jvm.exec) (hb : c.code = cX5_clauseBySplits) (hr : meth.sig.returnType = (some (.object "TelescopeCourt$Goal"))) (hml : c.maxLocals = 4) (hown : s.vm.findClass RX5 = some m.cls) (hts : ∀ w ∈ W0, w.before args s = true) (hlocks : meth.locks = false) (hlk : lkA a D.1.toNatClampNeg D.2.1.toNatClampNeg) (hAe : (va_A (wC G a T F U S D R M N P) sz) = A) (hA : ∀ q : Nat, s.heap.size ≤ q → A q) (hE : EV G A s s.heap) (hK : va_K (DG G) clP3 (TY G) s) (r9 : Int32) (M9 : MS) : ∀ (n : Nat), ∀ (M8 : MS) (v1 : Int32) (v2 : Int32) (hv1 : fix D v1 = true) (H : Heap) (locs : List Loc), va_P (DG G) clP3 (wC G a T F U S D R M8 N P) H → va_D A (wC G a T F U S D R M8 N P) → va_S A s.heap H locs → ∀ (ls : Array Slot), lv_has ls 4 [(0, .ref (a.1 31)), (1, .ref (a.2.1 (Int32.toNatClampNeg v1))), (2, .int v2)] → f_X5_clauseBySplits_L10 n T S D M8 P v1 v2 = some (r9, M9) → W p l e ({ frames := 2, cells := 0, slots := 0, locals := 107 }) s m args below meth c H locs 0 0 (MQ below (va_Qq (fun (r : Option Nat) (_ : Unit) => r = rfG a r9) (fun _ t => PW G (va_A (wC G a T F U S D R M N P) sz) (wC G a T F U S D R M9 N P) t) (va_A (wC G a T F U S D R M N P) sz)) args s 0 0 (va_A (wC G a T F U S D R M N P) sz)) (F0 m 10 ls []) := by
  intro n
  induction n with
  | zero =>
    intro M8 v1 v2 hv1 H locs hP hD hS ls hl hm
    rw [f_X5_clauseBySplits_L10] at hm
    cases hm
  | succ n ih =>
    intro M8 v1 v2 hv1 H locs hP hD hS ls hl hm
    rw [f_X5_clauseBySplits_L10] at hm
    refine lv_iload_n hx hb dX5_clauseBySplits_10 rfl (lv_at hl 2 rfl) ?_
    refine lv_aload_n hx hb dX5_clauseBySplits_11 rfl (lv_at hl 0 rfl) ?_
    refine va_get (D := DG G) (ci := 5) (v := .int M8.2.2.2.2.1) (C := RX5) (T := TX5) (N := 12) hx hb hts inW_X5 hown hK hP 31 rfl rfl 7 (by decide) (hts _ wm253) (fun _ h9 => h9) rfl dX5_clauseBySplits_12 ?_
    refine lv_icmp_ge (tgt := 41) hx hb dX5_clauseBySplits_15 (by decide) (fun c_1 => ?_) (fun c_1 => ?_)
    · rw [if_pos c_1] at hm
      refine lv_aload_n hx hb dX5_clauseBySplits_41 rfl (lv_at hl 0 rfl) ?_
      refine va_get (D := DG G) (ci := 5) (v := .ref (a.1 21)) (C := RX5) (T := TX5) (N := 12) hx hb hts inW_X5 hown hK hP 31 rfl rfl 2 (by decide) (hts _ wm248) (fun _ h9 => h9) rfl dX5_clauseBySplits_42 ?_
      refine lv_aload_n hx hb dX5_clauseBySplits_45 rfl (lv_at hl 1 rfl) ?_
      refine va_getN (D := DG G) (ci := 2) (v := .int (P.2.2.1 (Int32.toNatClampNeg v1))) (C := RX2) (T := TX2) (N := 3) hx hb hts inW_X2 hown hK hP _ ((at_funC (fix_lt hv1)).trans rfl) rfl 2 (by decide) (va_Nw.use rfl (hE.1 _ nw890)) (fun _ h9 => h9) rfl dX5_clauseBySplits_46 ?_
      obtain ⟨q_2, hq_2, hm⟩ := bind_some hm
      have hFc := free_all hD hS hA
      refine va_callq (va_runV (As := [.int (P.2.2.1 (Int32.toNatClampNeg v1))]) (rest := []) ⟨hx, hb, hml, hown, hts⟩ (k_X0_goal l hfl G a T F U S D R M8 N P hlk (P.2.2.1 (Int32.toNatClampNeg v1))  q_2 hq_2 H.size) (cwV 1 hts (gV wm1200 wm605 wm606 wm5 wm607) rfl rfl rfl (by decide +kernel) ⟨Nat.le_of_ble_eq_true rfl, Nat.le_of_ble_eq_true rfl⟩) (pre_v (pre_w hK hP hD hS hE hFc) (va_recv hK hP (ci := 0) (q0 := 21) rfl rfl)) rfl rfl hl.1 rfl (lv_room (Nat.le_of_ble_eq_true rfl)) dX5_clauseBySplits_49 ⟨Nat.le_of_ble_eq_true rfl, Nat.le_of_ble_eq_true rfl⟩) hS (fun q _ h => hFc q h) hFc (fun r u t H locs ht hvm hw hB hz1 hk1 hS => ?_)
      rw [show r = rfG a q_2 from hw]
      have hP : va_P (DG G) clP3 (wC G a T F U S D R M8 N P) H := by rw [← ht]; exact hB.1
      have hD : va_D A (wC G a T F U S D R M8 N P) := hB.2.weaken (fun _ p _ h => hFc p.1 h)
      clear hB hFc hw hk1
      refine W.widen (k := 0) (n := 0) (Nat.le_of_ble_eq_true rfl) (Nat.le_of_ble_eq_true rfl) ?_
      by_cases c_3 : q_2 < 0
      · rw [if_pos c_3] at hm
        rw [show rfG a q_2 = none from if_pos c_3]
        refine W.eq (g2 := F0 m 52 ls [.null]) rfl ?_
        refine lv_astore_nN (lv' := [(2, .null), (0, .ref (a.1 31)), (1, .ref (a.2.1 (Int32.toNatClampNeg v1)))]) hx hb dX5_clauseBySplits_52 rfl hl (by decide) rfl (fun ls hl => ?_)
        refine lv_iconst (v := 0) hx hb dX5_clauseBySplits_53 (by decide) ?_
        refine lv_istore_n (lv' := [(3, .int 0), (2, .null), (0, .ref (a.1 31)), (1, .ref (a.2.1 (Int32.toNatClampNeg v1)))]) hx hb dX5_clauseBySplits_54 rfl hl (by decide) rfl (fun ls hl => ?_)
        refine W.widen (k := 0) (n := 0) (Nat.le_of_ble_eq_true rfl) (Nat.le_of_ble_eq_true rfl) ?_
        have hl9 : lv_has ls 4 [(0, .ref (a.1 31)), (2, va_rf (rfG a (-1))), (3, .int 0)] := by exact (lv_sub hl [2, 1, 0] rfl)
        exact kl_X5_clauseBySplits_55 hfl hx hb hr hml hown hts hlocks hlk hAe hA hE hK r9 M9 100000 M8 (-1) 0  _ _ hP hD hS _ hl9 hm
      · rw [if_neg c_3] at hm
        obtain ⟨g_4, hm⟩ := ite_some hm
        rw [show rfG a q_2 = some _ from if_neg c_3]
        refine W.eq (g2 := F0 m 52 ls [.ref (a.2.2.1 (Int32.toNatClampNeg q_2) 0)]) rfl ?_
        refine lv_astore_n (lv' := [(2, .ref (a.2.2.1 (Int32.toNatClampNeg q_2) 0)), (0, .ref (a.1 31)), (1, .ref (a.2.1 (Int32.toNatClampNeg v1)))]) hx hb dX5_clauseBySplits_52 rfl hl (by decide) rfl (fun ls hl => ?_)
        refine lv_iconst (v := 0) hx hb dX5_clauseBySplits_53 (by decide) ?_
        refine lv_istore_n (lv' := [(3, .int 0), (2, .ref (a.2.2.1 (Int32.toNatClampNeg q_2) 0)), (0, .ref (a.1 31)), (1, .ref (a.2.1 (Int32.toNatClampNeg v1)))]) hx hb dX5_clauseBySplits_54 rfl hl (by decide) rfl (fun ls hl => ?_)
        refine W.widen (k := 0) (n := 0) (Nat.le_of_ble_eq_true rfl) (Nat.le_of_ble_eq_true rfl) ?_
        have hl9 : lv_has ls 4 [(0, .ref (a.1 31)), (2, va_rf (rfG a q_2)), (3, .int 0)] := by rw [rfG_pos g_4]; exact (lv_sub hl [2, 1, 0] rfl)
        exact kl_X5_clauseBySplits_55 hfl hx hb hr hml hown hts hlocks hlk hAe hA hE hK r9 M9 100000 M8 q_2 0  _ _ hP hD hS _ hl9 hm
    · rw [if_neg c_1] at hm
      refine lv_iload_n hx hb dX5_clauseBySplits_18 rfl (lv_at hl 2 rfl) ?_
      refine lv_iconst (v := 4) hx hb dX5_clauseBySplits_19 (by decide) ?_
      refine lv_icmp_ge (tgt := 41) hx hb dX5_clauseBySplits_20 (by decide) (fun c_5 => ?_) (fun c_5 => ?_)
      · rw [if_pos c_5] at hm
        refine lv_aload_n hx hb dX5_clauseBySplits_41 rfl (lv_at hl 0 rfl) ?_
        refine va_get (D := DG G) (ci := 5) (v := .ref (a.1 21)) (C := RX5) (T := TX5) (N := 12) hx hb hts inW_X5 hown hK hP 31 rfl rfl 2 (by decide) (hts _ wm248) (fun _ h9 => h9) rfl dX5_clauseBySplits_42 ?_
        refine lv_aload_n hx hb dX5_clauseBySplits_45 rfl (lv_at hl 1 rfl) ?_
        refine va_getN (D := DG G) (ci := 2) (v := .int (P.2.2.1 (Int32.toNatClampNeg v1))) (C := RX2) (T := TX2) (N := 3) hx hb hts inW_X2 hown hK hP _ ((at_funC (fix_lt hv1)).trans rfl) rfl 2 (by decide) (va_Nw.use rfl (hE.1 _ nw890)) (fun _ h9 => h9) rfl dX5_clauseBySplits_46 ?_
        obtain ⟨q_6, hq_6, hm⟩ := bind_some hm
        have hFc := free_all hD hS hA
        refine va_callq (va_runV (As := [.int (P.2.2.1 (Int32.toNatClampNeg v1))]) (rest := []) ⟨hx, hb, hml, hown, hts⟩ (k_X0_goal l hfl G a T F U S D R M8 N P hlk (P.2.2.1 (Int32.toNatClampNeg v1))  q_6 hq_6 H.size) (cwV 1 hts (gV wm1200 wm605 wm606 wm5 wm607) rfl rfl rfl (by decide +kernel) ⟨Nat.le_of_ble_eq_true rfl, Nat.le_of_ble_eq_true rfl⟩) (pre_v (pre_w hK hP hD hS hE hFc) (va_recv hK hP (ci := 0) (q0 := 21) rfl rfl)) rfl rfl hl.1 rfl (lv_room (Nat.le_of_ble_eq_true rfl)) dX5_clauseBySplits_49 ⟨Nat.le_of_ble_eq_true rfl, Nat.le_of_ble_eq_true rfl⟩) hS (fun q _ h => hFc q h) hFc (fun r u t H locs ht hvm hw hB hz1 hk1 hS => ?_)
        rw [show r = rfG a q_6 from hw]
        have hP : va_P (DG G) clP3 (wC G a T F U S D R M8 N P) H := by rw [← ht]; exact hB.1
        have hD : va_D A (wC G a T F U S D R M8 N P) := hB.2.weaken (fun _ p _ h => hFc p.1 h)
        clear hB hFc hw hk1
        refine W.widen (k := 0) (n := 0) (Nat.le_of_ble_eq_true rfl) (Nat.le_of_ble_eq_true rfl) ?_
        by_cases c_7 : q_6 < 0
        · rw [if_pos c_7] at hm
          rw [show rfG a q_6 = none from if_pos c_7]
          refine W.eq (g2 := F0 m 52 ls [.null]) rfl ?_
          refine lv_astore_nN (lv' := [(2, .null), (0, .ref (a.1 31)), (1, .ref (a.2.1 (Int32.toNatClampNeg v1)))]) hx hb dX5_clauseBySplits_52 rfl hl (by decide) rfl (fun ls hl => ?_)
          refine lv_iconst (v := 0) hx hb dX5_clauseBySplits_53 (by decide) ?_
          refine lv_istore_n (lv' := [(3, .int 0), (2, .null), (0, .ref (a.1 31)), (1, .ref (a.2.1 (Int32.toNatClampNeg v1)))]) hx hb dX5_clauseBySplits_54 rfl hl (by decide) rfl (fun ls hl => ?_)
          refine W.widen (k := 0) (n := 0) (Nat.le_of_ble_eq_true rfl) (Nat.le_of_ble_eq_true rfl) ?_
          have hl9 : lv_has ls 4 [(0, .ref (a.1 31)), (2, va_rf (rfG a (-1))), (3, .int 0)] := by exact (lv_sub hl [2, 1, 0] rfl)
          exact kl_X5_clauseBySplits_55 hfl hx hb hr hml hown hts hlocks hlk hAe hA hE hK r9 M9 100000 M8 (-1) 0  _ _ hP hD hS _ hl9 hm
        · rw [if_neg c_7] at hm
          obtain ⟨g_8, hm⟩ := ite_some hm
          rw [show rfG a q_6 = some _ from if_neg c_7]
          refine W.eq (g2 := F0 m 52 ls [.ref (a.2.2.1 (Int32.toNatClampNeg q_6) 0)]) rfl ?_
          refine lv_astore_n (lv' := [(2, .ref (a.2.2.1 (Int32.toNatClampNeg q_6) 0)), (0, .ref (a.1 31)), (1, .ref (a.2.1 (Int32.toNatClampNeg v1)))]) hx hb dX5_clauseBySplits_52 rfl hl (by decide) rfl (fun ls hl => ?_)
          refine lv_iconst (v := 0) hx hb dX5_clauseBySplits_53 (by decide) ?_
          refine lv_istore_n (lv' := [(3, .int 0), (2, .ref (a.2.2.1 (Int32.toNatClampNeg q_6) 0)), (0, .ref (a.1 31)), (1, .ref (a.2.1 (Int32.toNatClampNeg v1)))]) hx hb dX5_clauseBySplits_54 rfl hl (by decide) rfl (fun ls hl => ?_)
          refine W.widen (k := 0) (n := 0) (Nat.le_of_ble_eq_true rfl) (Nat.le_of_ble_eq_true rfl) ?_
          have hl9 : lv_has ls 4 [(0, .ref (a.1 31)), (2, va_rf (rfG a q_6)), (3, .int 0)] := by rw [rfG_pos g_8]; exact (lv_sub hl [2, 1, 0] rfl)
          exact kl_X5_clauseBySplits_55 hfl hx hb hr hml hown hts hlocks hlk hAe hA hE hK r9 M9 100000 M8 q_6 0  _ _ hP hD hS _ hl9 hm
      · rw [if_neg c_5] at hm
        refine lv_aload_n hx hb dX5_clauseBySplits_23 rfl (lv_at hl 0 rfl) ?_
        refine va_get (D := DG G) (ci := 5) (v := .ref (a.1 35)) (C := RX5) (T := TX5) (N := 12) hx hb hts inW_X5 hown hK hP 31 rfl rfl 6 (by decide) (hts _ wm252) (fun _ h9 => h9) rfl dX5_clauseBySplits_24 ?_
        refine lv_iload_n hx hb dX5_clauseBySplits_27 rfl (lv_at hl 2 rfl) ?_
        refine lv_aload_n hx hb dX5_clauseBySplits_28 rfl (lv_at hl 0 rfl) ?_
        refine va_get (D := DG G) (ci := 5) (v := .ref (a.1 34)) (C := RX5) (T := TX5) (N := 12) hx hb hts inW_X5 hown hK hP 31 rfl rfl 5 (by decide) (hts _ wm251) (fun _ h9 => h9) rfl dX5_clauseBySplits_29 ?_
        refine lv_iload_n hx hb dX5_clauseBySplits_32 rfl (lv_at hl 2 rfl) ?_
        obtain ⟨b_9, hm⟩ := ite_some hm
        refine va_iald hx hb hK hP 34 0 rfl rfl (inb_vp b_9) dX5_clauseBySplits_33 ?_
        obtain ⟨b_10, hm⟩ := ite_some hm
        refine va_iast hx hb hK hP hD hS 35 0 rfl rfl (inb_vp b_10) dX5_clauseBySplits_34 (fun H locs hP hD hS => ?_)
        have hP : va_P (DG G) clP3 (wC G a T F U S D R (M8.1, M8.2.1, M8.2.2.1, (upd M8.2.2.2.1 (Int32.toNatClampNeg v2) (M8.2.2.1 (Int32.toNatClampNeg v2))), M8.2.2.2.2.1, M8.2.2.2.2.2.1, M8.2.2.2.2.2.2.1, M8.2.2.2.2.2.2.2.1, M8.2.2.2.2.2.2.2.2) N P) H := hP
        have hD : va_D A (wC G a T F U S D R (M8.1, M8.2.1, M8.2.2.1, (upd M8.2.2.2.1 (Int32.toNatClampNeg v2) (M8.2.2.1 (Int32.toNatClampNeg v2))), M8.2.2.2.2.1, M8.2.2.2.2.2.1, M8.2.2.2.2.2.2.1, M8.2.2.2.2.2.2.2.1, M8.2.2.2.2.2.2.2.2) N P) := hD
        refine lv_iinc (v := (v2 + 1)) (lv' := [(2, .int (v2 + 1)), (0, .ref (a.1 31)), (1, .ref (a.2.1 (Int32.toNatClampNeg v1)))]) hx hb dX5_clauseBySplits_35 hl (k := 2) rfl rfl (by decide) rfl (fun ls hl => ?_)
        refine lv_goto (tgt := 10) hx hb dX5_clauseBySplits_38 (by decide) ?_
        refine W.widen (k := 0) (n := 0) (Nat.le_of_ble_eq_true rfl) (Nat.le_of_ble_eq_true rfl) ?_
        exact ih (M8.1, M8.2.1, M8.2.2.1, (upd M8.2.2.2.1 (Int32.toNatClampNeg v2) (M8.2.2.1 (Int32.toNatClampNeg v2))), M8.2.2.2.2.1, M8.2.2.2.2.2.1, M8.2.2.2.2.2.2.1, M8.2.2.2.2.2.2.2.1, M8.2.2.2.2.2.2.2.2) v1 (v2 + 1) hv1 _ _ hP hD hS _ (lv_sub hl [1, 2, 0] rfl) hm
set_option maxHeartbeats 2000000 in
set_option maxRecDepth 100000 in
theorem k_X5_clauseBySplits (l : Launch) (hfl : l.stackTraces = false) (G : GC) (a : AS) (T : TS) (F : FS) (U : US) (S : SS) (D : DS) (R : RS) (M : MS) (N : NS) (P : PS) (hlk : lkA a D.1.toNatClampNeg D.2.1.toNatClampNeg) (p1 : Int32) (hg_p1 : fix D p1 = true) (r9 : Int32) (M9 : MS) (hm : f_X5_clauseBySplits T S D M P p1 = some (r9, M9)) (sz : Nat) : Met l yX5_clauseBySplits (Cond.code yX5_clauseBySplits cX5_clauseBySplits 4 (some (.object "TelescopeCourt$Goal")) :: W0) ({ frames := 2, cells := 0, slots := 0, locals := 107 }) (va_Pc [.ref (a.1 31), .ref (a.2.1 (Int32.toNatClampNeg p1))] (WD G (wC G a T F U S D R M N P) sz)) (va_Qq (fun (r : Option Nat) (_ : Unit) => r = rfG a r9) (fun _ t => PW G (va_A (wC G a T F U S D R M N P) sz) (wC G a T F U S D R M9 N P) t) (va_A (wC G a T F U S D R M N P) sz)) 0 0 (va_A (wC G a T F U S D R M N P) sz) := by
  rw [f_X5_clauseBySplits] at hm
  refine Met.ofW (cc := cX5_clauseBySplits) (maxL := 4) (ret := (some (.object "TelescopeCourt$Goal"))) (by decide) rfl ?_
  intro p e s m args below meth c s₁ B hml hv
  obtain ⟨rfl, hsz, hP, hK, hD0, hE⟩ := hv
  have hx := B.exec
  have hb := B.bytes
  have hr := B.returns
  have hts := w0_tail B.pre
  have hown : s.vm.findClass RX5 = some m.cls := findClass_of_methodNamed B.named
  have hlocks := B.notSynchronized
  have hD := hD0.self (sz := sz)
  obtain ⟨A, hAe⟩ : ∃ A, (va_A (wC G a T F U S D R M N P) sz) = A := ⟨_, rfl⟩
  rw [hAe] at hD hE
  have hA : ∀ q : Nat, s.heap.size ≤ q → A q := fun q h => by rw [← hAe]; exact Or.inr (by rw [← hsz]; exact h)
  have hS : va_S A s.heap s.heap [] := va_S.rf
  obtain ⟨H, hHe⟩ : ∃ H : Heap, H = s.heap := ⟨_, rfl⟩
  have hP : va_P (DG G) clP3 (wC G a T F U S D R M N P) H := by rw [hHe]; exact hP
  have hS : va_S A s.heap H [] := by rw [hHe]; exact hS
  have hl := lv_entry ([.ref (a.1 31), .ref (a.2.1 (Int32.toNatClampNeg p1))]) (n := 4) (Nat.le_of_ble_eq_true rfl)
  rw [lg_entry_eq, ← hHe]
  generalize (lg_sl ([.ref (a.1 31), .ref (a.2.1 (Int32.toNatClampNeg p1))]) ++ List.replicate (4 - (lg_sl ([.ref (a.1 31), .ref (a.2.1 (Int32.toNatClampNeg p1))])).length) Slot.unset).toArray = ls at hl ⊢
  have hl : lv_has ls 4 [(0, .ref (a.1 31)), (1, .ref (a.2.1 (Int32.toNatClampNeg p1)))] := hl
  refine lv_aload_n hx hb dX5_clauseBySplits_0 rfl (lv_at hl 0 rfl) ?_
  refine lv_aload_n hx hb dX5_clauseBySplits_1 rfl (lv_at hl 1 rfl) ?_
  refine va_getN (D := DG G) (ci := 2) (v := .int (P.2.1 (Int32.toNatClampNeg p1))) (C := RX2) (T := TX2) (N := 3) hx hb hts inW_X2 hown hK hP _ ((at_funC (fix_lt hg_p1)).trans rfl) rfl 1 (by decide) (va_Nw.use rfl (hE.1 _ nw887)) (fun _ h9 => h9) rfl dX5_clauseBySplits_2 ?_
  refine va_put (D := DG G) (ci := 5) (v := .int (P.2.1 (Int32.toNatClampNeg p1))) (ty := tyX5 7) (C := RX5) (T := TX5) (N := 12) hx hb hts inW_X5 tyX5 tyX5_ok nmX5 hown hK hP hD hS 31 rfl rfl 7 (by decide) (hts _ wm253) (fun _ h9 => h9) rfl (by decide +kernel) rfl rfl (Nat.le_of_ble_eq_true rfl) dX5_clauseBySplits_5 (fun H locs hP hD hS => ?_)
  have hP : va_P (DG G) clP3 (wC G a T F U S D R (M.1, M.2.1, M.2.2.1, M.2.2.2.1, (P.2.1 (Int32.toNatClampNeg p1)), M.2.2.2.2.2.1, M.2.2.2.2.2.2.1, M.2.2.2.2.2.2.2.1, M.2.2.2.2.2.2.2.2) N P) H := hP
  have hD : va_D A (wC G a T F U S D R (M.1, M.2.1, M.2.2.1, M.2.2.2.1, (P.2.1 (Int32.toNatClampNeg p1)), M.2.2.2.2.2.1, M.2.2.2.2.2.2.1, M.2.2.2.2.2.2.2.1, M.2.2.2.2.2.2.2.2) N P) := hD
  refine lv_iconst (v := 0) hx hb dX5_clauseBySplits_8 (by decide) ?_
  refine lv_istore_n (lv' := [(2, .int 0), (0, .ref (a.1 31)), (1, .ref (a.2.1 (Int32.toNatClampNeg p1)))]) hx hb dX5_clauseBySplits_9 rfl hl (by decide) rfl (fun ls hl => ?_)
  refine W.widen (k := 0) (n := 0) (Nat.le_of_ble_eq_true rfl) (Nat.le_of_ble_eq_true rfl) ?_
  exact kl_X5_clauseBySplits_10 hfl hx hb hr hml hown hts hlocks hlk hAe hA hE hK r9 M9 100000 (M.1, M.2.1, M.2.2.1, M.2.2.2.1, (P.2.1 (Int32.toNatClampNeg p1)), M.2.2.2.2.2.1, M.2.2.2.2.2.2.1, M.2.2.2.2.2.2.2.1, M.2.2.2.2.2.2.2.2) p1 0 hg_p1 _ _ hP hD hS _ (lv_sub hl [1, 2, 0] rfl) hm
def f_X5_clauseByOrder_L : Nat → Nat → TS → DS → MS → PS → Int32 → Int32 → Int32 → Int32 → Int32 → Option (Int32 × TS × MS)
  | 0, _, _, _, _, _, _, _, _, _, _ => none
  | n + 1, k, T, D, M, P, v1, v2, v3, v4, v5 => (if k = 0 then (if D.2.1 ≤ v2 then some ((-1), T, M) else (Option.bind (f_X0_goal D v2) (fun q_2 => (if q_2 < 0 then (f_X5_clauseByOrder_L n 0 T D M P v1 (v2 + 1) 0 0 0) else (if gix D q_2 = true then (if (P.2.2.2.1 (Int32.toNatClampNeg q_2)) = v1 then (if (P.2.2.2.2.2.1 (Int32.toNatClampNeg q_2)) = 102 then (f_X5_clauseByOrder_L n 1 T D (M.1, M.2.1, M.2.2.1, M.2.2.2.1, (P.2.2.2.2.2.2.2.2.2.2.1 (Int32.toNatClampNeg q_2)), M.2.2.2.2.2.1, M.2.2.2.2.2.2.1, M.2.2.2.2.2.2.2.1, M.2.2.2.2.2.2.2.2) P v1 v2 q_2 1 0) else (f_X5_clauseByOrder_L n 0 T D M P v1 (v2 + 1) 0 0 0)) else (f_X5_clauseByOrder_L n 0 T D M P v1 (v2 + 1) 0 0 0)) else none))))) else (if (Int32.ofNat (P.2.2.2.2.2.2.2.2.2.2.2.2.1 (Int32.toNatClampNeg v3))) ≤ v5 then (if v4 = 0 then (f_X5_clauseByOrder_L n 0 T D M P v1 (v2 + 1) 0 0 0) else some (v3, T, M)) else (if 4 ≤ v5 then (if v4 = 0 then (f_X5_clauseByOrder_L n 0 T D M P v1 (v2 + 1) 0 0 0) else some (v3, T, M)) else (if v4 = 0 then (if v4 = 0 then (f_X5_clauseByOrder_L n 0 T D M P v1 (v2 + 1) 0 0 0) else some (v3, T, M)) else (if inb v5 (P.2.2.2.2.2.2.2.2.2.2.2.2.1 (Int32.toNatClampNeg v3)) = true then (if inb v5 4 = true then (Option.bind (g_X5_match T M ((P.2.2.2.2.2.2.2.2.2.2.2.2.2 (Int32.toNatClampNeg v3)) (Int32.toNatClampNeg v5)) (M.2.2.1 (Int32.toNatClampNeg v5))) (fun q_15 => (f_X5_clauseByOrder_L n 1 q_15.2.1 D q_15.2.2 P v1 v2 v3 q_15.1 (v5 + 1)))) else none) else none)))))
def f_X5_clauseByOrder (T : TS) (D : DS) (M : MS) (P : PS) (p1 : Int32) : Option (Int32 × TS × MS) := (f_X5_clauseByOrder_L 100000 0 T D M P p1 0 0 0 0)
set_option maxHeartbeats 2000000 in
set_option maxRecDepth 100000 in
theorem kl_X5_clauseByOrder {l : Launch} (hfl : l.stackTraces = false) {G : GC} {a : AS} {T : TS} {F : FS} {U : US} {S : SS} {D : DS} {R : RS} {M : MS} {N : NS} {P : PS} {A : Nat → Prop} {sz : Nat} {p : Program} {e : Env} {s : State} {m : MethodId} {args : Array Value} {below : List Frame} {meth : Method} {c : Code} (hx : p.tables.exec = Jvm.exec) (hb : c.code = cX5_clauseByOrder) (hr : meth.sig.returnType = (some (.object "TelescopeCourt$Goal"))) (hml : c.maxLocals = 6) (hown : s.vm.findClass RX5 = some m.cls) (hts : ∀ w ∈ W0, w.before args s = true) (hlocks : meth.locks = false) (hlk : lkA a D.1.toNatClampNeg D.2.1.toNatClampNeg) (hAe : (va_A (wC G a T F U S D R M N P) sz) = A) (hA : ∀ q : Nat, s.heap.size ≤ q → A q) (hE : EV G A s s.heap) (hK : va_K (DG G) clP3 (TY G) s) (r9 : Int32) (T9 : TS) (M9 : MS) : ∀ (n : Nat), (∀ (T8 : TS) (M8 : MS) (v1 : Int32) (v2 : Int32) (H : Heap) (locs : List Loc), va_P (DG G) clP3 (wC G a T8 F U S D R M8 N P) H → va_D A (wC G a T8 F U S D R M8 N P) → va_S A s.heap H locs → ∀ (ls : Array Slot), lv_has ls 6 [(0, .ref (a.1 31)), (1, .int v1), (2, .int v2)] → f_X5_clauseByOrder_L n 0 T8 D M8 P v1 v2 0 0 0 = some (r9, T9, M9) → W p l e ({ frames := 202, cells := 0, slots := 0, locals := 5046 }) s m args below meth c H locs 0 0 (MQ below (va_Qq (fun (r : Option Nat) (_ : Unit) => r = rfG a r9) (fun _ t => PW G (va_A (wC G a T F U S D R M N P) sz) (wC G a T9 F U S D R M9 N P) t) (va_A (wC G a T F U S D R M N P) sz)) args s 0 0 (va_A (wC G a T F U S D R M N P) sz)) (F0 m 2 ls [])) ∧ (∀ (T8 : TS) (M8 : MS) (v1 : Int32) (v2 : Int32) (v3 : Int32) (v4 : Int32) (v5 : Int32) (hv3 : gix D v3 = true) (H : Heap) (locs : List Loc), va_P (DG G) clP3 (wC G a T8 F U S D R M8 N P) H → va_D A (wC G a T8 F U S D R M8 N P) → va_S A s.heap H locs → ∀ (ls : Array Slot), lv_has ls 6 [(0, .ref (a.1 31)), (1, .int v1), (2, .int v2), (3, .ref (a.2.2.1 (Int32.toNatClampNeg v3) 0)), (4, .int v4), (5, .int v5)] → f_X5_clauseByOrder_L n 1 T8 D M8 P v1 v2 v3 v4 v5 = some (r9, T9, M9) → W p l e ({ frames := 202, cells := 0, slots := 0, locals := 5046 }) s m args below meth c H locs 0 0 (MQ below (va_Qq (fun (r : Option Nat) (_ : Unit) => r = rfG a r9) (fun _ t => PW G (va_A (wC G a T F U S D R M N P) sz) (wC G a T9 F U S D R M9 N P) t) (va_A (wC G a T F U S D R M N P) sz)) args s 0 0 (va_A (wC G a T F U S D R M N P) sz)) (F0 m 60 ls [])) := by
  intro n
  induction n with
  | zero =>
    refine ⟨?_, ?_⟩
    · intro T8 M8 v1 v2 H locs hP hD hS ls hl hm
      rw [f_X5_clauseByOrder_L] at hm
      cases hm
    · intro T8 M8 v1 v2 v3 v4 v5 hv3 H locs hP hD hS ls hl hm
      rw [f_X5_clauseByOrder_L] at hm
      cases hm
  | succ n ih =>
    refine ⟨?_, ?_⟩
    · intro T8 M8 v1 v2 H locs hP hD hS ls hl hm
      rw [f_X5_clauseByOrder_L] at hm
      rw [if_pos rfl] at hm
      refine lv_iload_n hx hb dX5_clauseByOrder_2 rfl (lv_at hl 2 rfl) ?_
      refine lv_aload_n hx hb dX5_clauseByOrder_3 rfl (lv_at hl 0 rfl) ?_
      refine va_get (D := DG G) (ci := 5) (v := .ref (a.1 21)) (C := RX5) (T := TX5) (N := 12) hx hb hts inW_X5 hown hK hP 31 rfl rfl 2 (by decide) (hts _ wm248) (fun _ h9 => h9) rfl dX5_clauseByOrder_4 ?_
      refine va_getN (D := DG G) (ci := 0) (v := .int D.2.1) (C := RX0) (T := TX0) (N := 8) hx hb hts inW_X0 hown hK hP 21 rfl rfl 6 (by decide) (va_Nw.use rfl (hE.1 _ nw147)) (fun _ h9 => h9) rfl dX5_clauseByOrder_7 ?_
      refine lv_icmp_ge (tgt := 120) hx hb dX5_clauseByOrder_10 (by decide) (fun c_1 => ?_) (fun c_1 => ?_)
      · rw [if_pos c_1] at hm
        refine lv_null hx hb dX5_clauseByOrder_120 ?_
        simp only [Option.some.injEq, Prod.mk.injEq] at hm
        obtain ⟨rfl, rfl, rfl⟩ := hm
        refine W.widen (k := 0) (n := 0) (Nat.le_of_ble_eq_true rfl) (Nat.le_of_ble_eq_true rfl) ?_
        exact W.aret (v := .null) hx hb hr (Or.inl ⟨_, rfl⟩) (Or.inl rfl) (fun t ht hW => ⟨⟨none, (), rfl, rfl, ⟨by rw [ht]; exact hP, by rw [hAe]; exact hD⟩⟩, by rw [hAe]; exact hS.F ht⟩) (by rw [hAe]; exact hS.2.2) dX5_clauseByOrder_121 hlocks
      · rw [if_neg c_1] at hm
        refine lv_aload_n hx hb dX5_clauseByOrder_13 rfl (lv_at hl 0 rfl) ?_
        refine va_get (D := DG G) (ci := 5) (v := .ref (a.1 21)) (C := RX5) (T := TX5) (N := 12) hx hb hts inW_X5 hown hK hP 31 rfl rfl 2 (by decide) (hts _ wm248) (fun _ h9 => h9) rfl dX5_clauseByOrder_14 ?_
        refine lv_iload_n hx hb dX5_clauseByOrder_17 rfl (lv_at hl 2 rfl) ?_
        obtain ⟨q_2, hq_2, hm⟩ := bind_some hm
        have hFc := free_all hD hS hA
        refine va_callq (va_runV (As := [.int v2]) (rest := []) ⟨hx, hb, hml, hown, hts⟩ (k_X0_goal l hfl G a T8 F U S D R M8 N P hlk v2  q_2 hq_2 H.size) (cwV 1 hts (gV wm1200 wm605 wm606 wm5 wm607) rfl rfl rfl (by decide +kernel) ⟨Nat.le_of_ble_eq_true rfl, Nat.le_of_ble_eq_true rfl⟩) (pre_v (pre_w hK hP hD hS hE hFc) (va_recv hK hP (ci := 0) (q0 := 21) rfl rfl)) rfl rfl hl.1 rfl (lv_room (Nat.le_of_ble_eq_true rfl)) dX5_clauseByOrder_18 ⟨Nat.le_of_ble_eq_true rfl, Nat.le_of_ble_eq_true rfl⟩) hS (fun q _ h => hFc q h) hFc (fun r u t H locs ht hvm hw hB hz1 hk1 hS => ?_)
        rw [show r = rfG a q_2 from hw]
        have hP : va_P (DG G) clP3 (wC G a T8 F U S D R M8 N P) H := by rw [← ht]; exact hB.1
        have hD : va_D A (wC G a T8 F U S D R M8 N P) := hB.2.weaken (fun _ p _ h => hFc p.1 h)
        clear hB hFc hw hk1
        refine W.widen (k := 0) (n := 0) (Nat.le_of_ble_eq_true rfl) (Nat.le_of_ble_eq_true rfl) ?_
        by_cases c_3 : q_2 < 0
        · rw [if_pos c_3] at hm
          rw [show rfG a q_2 = none from if_pos c_3]
          refine W.eq (g2 := F0 m 21 ls [.null]) rfl ?_
          refine lv_astore_nN (lv' := [(3, .null), (0, .ref (a.1 31)), (1, .int v1), (2, .int v2)]) hx hb dX5_clauseByOrder_21 rfl hl (by decide) rfl (fun ls hl => ?_)
          refine lv_aload_nN hx hb dX5_clauseByOrder_22 rfl (lv_at hl 0 rfl) ?_
          refine lv_ifnullN (tgt := 114) hx hb dX5_clauseByOrder_23 (by decide) ?_
          refine lv_iinc (v := (v2 + 1)) (lv' := [(2, .int (v2 + 1)), (3, .null), (0, .ref (a.1 31)), (1, .int v1)]) hx hb dX5_clauseByOrder_114 hl (k := 3) rfl rfl (by decide) rfl (fun ls hl => ?_)
          refine lv_goto (tgt := 2) hx hb dX5_clauseByOrder_117 (by decide) ?_
          refine W.widen (k := 0) (n := 0) (Nat.le_of_ble_eq_true rfl) (Nat.le_of_ble_eq_true rfl) ?_
          exact ih.1 T8 M8 v1 (v2 + 1)  _ _ hP hD hS _ (lv_sub hl [2, 3, 0] rfl) hm
        · rw [if_neg c_3] at hm
          obtain ⟨g_4, hm⟩ := ite_some hm
          rw [show rfG a q_2 = some _ from if_neg c_3]
          refine W.eq (g2 := F0 m 21 ls [.ref (a.2.2.1 (Int32.toNatClampNeg q_2) 0)]) rfl ?_
          refine lv_astore_n (lv' := [(3, .ref (a.2.2.1 (Int32.toNatClampNeg q_2) 0)), (0, .ref (a.1 31)), (1, .int v1), (2, .int v2)]) hx hb dX5_clauseByOrder_21 rfl hl (by decide) rfl (fun ls hl => ?_)
          refine lv_aload_n hx hb dX5_clauseByOrder_22 rfl (lv_at hl 0 rfl) ?_
          refine lv_ifnull hx hb dX5_clauseByOrder_23 ?_
          refine lv_aload_n hx hb dX5_clauseByOrder_26 rfl (lv_at hl 0 rfl) ?_
          refine va_getN (D := DG G) (ci := 3) (v := .int (P.2.2.2.1 (Int32.toNatClampNeg q_2))) (C := RX3) (T := TX3) (N := 8) hx hb hts inW_X3 hown hK hP _ ((at_goalC (c := 0) (gix_lt g_4) (by decide)).trans rfl) rfl 0 (by decide) (va_Nw.use rfl (hE.1 _ nw905)) (fun _ h9 => h9) rfl dX5_clauseByOrder_27 ?_
          refine lv_iload_n hx hb dX5_clauseByOrder_30 rfl (lv_at hl 2 rfl) ?_
          refine lv_icmp_ne (tgt := 114) hx hb dX5_clauseByOrder_31 (by decide) (fun c_5 => ?_) (fun c_5 => ?_)
          · rw [if_neg c_5] at hm
            refine lv_iinc (v := (v2 + 1)) (lv' := [(2, .int (v2 + 1)), (3, .ref (a.2.2.1 (Int32.toNatClampNeg q_2) 0)), (0, .ref (a.1 31)), (1, .int v1)]) hx hb dX5_clauseByOrder_114 hl (k := 3) rfl rfl (by decide) rfl (fun ls hl => ?_)
            refine lv_goto (tgt := 2) hx hb dX5_clauseByOrder_117 (by decide) ?_
            refine W.widen (k := 0) (n := 0) (Nat.le_of_ble_eq_true rfl) (Nat.le_of_ble_eq_true rfl) ?_
            exact ih.1 T8 M8 v1 (v2 + 1)  _ _ hP hD hS _ (lv_sub hl [2, 3, 0] rfl) hm
          · rw [if_pos c_5] at hm
            refine lv_aload_n hx hb dX5_clauseByOrder_34 rfl (lv_at hl 0 rfl) ?_
            refine va_getN (D := DG G) (ci := 3) (v := .int (P.2.2.2.2.2.1 (Int32.toNatClampNeg q_2))) (C := RX3) (T := TX3) (N := 8) hx hb hts inW_X3 hown hK hP _ ((at_goalC (c := 0) (gix_lt g_4) (by decide)).trans rfl) rfl 4 (by decide) (va_Nw.use rfl (hE.1 _ nw921)) (fun _ h9 => h9) rfl dX5_clauseByOrder_35 ?_
            refine lv_bipush (v := 102) hx hb dX5_clauseByOrder_38 (by decide) ?_
            refine lv_icmp_ne (tgt := 114) hx hb dX5_clauseByOrder_40 (by decide) (fun c_6 => ?_) (fun c_6 => ?_)
            · rw [if_neg c_6] at hm
              refine lv_iinc (v := (v2 + 1)) (lv' := [(2, .int (v2 + 1)), (3, .ref (a.2.2.1 (Int32.toNatClampNeg q_2) 0)), (0, .ref (a.1 31)), (1, .int v1)]) hx hb dX5_clauseByOrder_114 hl (k := 3) rfl rfl (by decide) rfl (fun ls hl => ?_)
              refine lv_goto (tgt := 2) hx hb dX5_clauseByOrder_117 (by decide) ?_
              refine W.widen (k := 0) (n := 0) (Nat.le_of_ble_eq_true rfl) (Nat.le_of_ble_eq_true rfl) ?_
              exact ih.1 T8 M8 v1 (v2 + 1)  _ _ hP hD hS _ (lv_sub hl [2, 3, 0] rfl) hm
            · rw [if_pos c_6] at hm
              refine lv_aload_n hx hb dX5_clauseByOrder_43 rfl (lv_at hl 1 rfl) ?_
              refine lv_aload_n hx hb dX5_clauseByOrder_44 rfl (lv_at hl 0 rfl) ?_
              refine va_getN (D := DG G) (ci := 3) (v := .ref (a.2.2.1 (Int32.toNatClampNeg q_2) 1)) (C := RX3) (T := TX3) (N := 8) hx hb hts inW_X3 hown hK hP _ ((at_goalC (c := 0) (gix_lt g_4) (by decide)).trans rfl) rfl 1 (by decide) (va_Nw.use rfl (hE.1 _ nw910)) (fun _ h9 => h9) rfl dX5_clauseByOrder_45 ?_
              refine va_getN (D := DG G) (ci := 7) (v := .int (P.2.2.2.2.2.2.2.2.2.2.1 (Int32.toNatClampNeg q_2))) (C := RX8) (T := TX8) (N := 2) hx hb hts inW_X8 hown hK hP _ ((at_goalC (c := 1) (gix_lt g_4) (by decide)).trans rfl) rfl 1 (by decide) (va_Nw.use rfl (hE.1 _ nw188)) (fun _ h9 => h9) rfl dX5_clauseByOrder_48 ?_
              refine va_put (D := DG G) (ci := 5) (v := .int (P.2.2.2.2.2.2.2.2.2.2.1 (Int32.toNatClampNeg q_2))) (ty := tyX5 7) (C := RX5) (T := TX5) (N := 12) hx hb hts inW_X5 tyX5 tyX5_ok nmX5 hown hK hP hD hS 31 rfl rfl 7 (by decide) (hts _ wm253) (fun _ h9 => h9) rfl (by decide +kernel) rfl rfl (Nat.le_of_ble_eq_true rfl) dX5_clauseByOrder_51 (fun H locs hP hD hS => ?_)
              have hP : va_P (DG G) clP3 (wC G a T8 F U S D R (M8.1, M8.2.1, M8.2.2.1, M8.2.2.2.1, (P.2.2.2.2.2.2.2.2.2.2.1 (Int32.toNatClampNeg q_2)), M8.2.2.2.2.2.1, M8.2.2.2.2.2.2.1, M8.2.2.2.2.2.2.2.1, M8.2.2.2.2.2.2.2.2) N P) H := hP
              have hD : va_D A (wC G a T8 F U S D R (M8.1, M8.2.1, M8.2.2.1, M8.2.2.2.1, (P.2.2.2.2.2.2.2.2.2.2.1 (Int32.toNatClampNeg q_2)), M8.2.2.2.2.2.1, M8.2.2.2.2.2.2.1, M8.2.2.2.2.2.2.2.1, M8.2.2.2.2.2.2.2.2) N P) := hD
              refine lv_iconst (v := 1) hx hb dX5_clauseByOrder_54 (by decide) ?_
              refine lv_istore (lv' := [(4, .int 1), (3, .ref (a.2.2.1 (Int32.toNatClampNeg q_2) 0)), (0, .ref (a.1 31)), (1, .int v1), (2, .int v2)]) hx hb dX5_clauseByOrder_55 hl (by decide) rfl (fun ls hl => ?_)
              refine lv_iconst (v := 0) hx hb dX5_clauseByOrder_57 (by decide) ?_
              refine lv_istore (lv' := [(5, .int 0), (4, .int 1), (3, .ref (a.2.2.1 (Int32.toNatClampNeg q_2) 0)), (0, .ref (a.1 31)), (1, .int v1), (2, .int v2)]) hx hb dX5_clauseByOrder_58 hl (by decide) rfl (fun ls hl => ?_)
              refine W.widen (k := 0) (n := 0) (Nat.le_of_ble_eq_true rfl) (Nat.le_of_ble_eq_true rfl) ?_
              exact ih.2 T8 (M8.1, M8.2.1, M8.2.2.1, M8.2.2.2.1, (P.2.2.2.2.2.2.2.2.2.2.1 (Int32.toNatClampNeg q_2)), M8.2.2.2.2.2.1, M8.2.2.2.2.2.2.1, M8.2.2.2.2.2.2.2.1, M8.2.2.2.2.2.2.2.2) v1 v2 q_2 1 0 g_4 _ _ hP hD hS _ (lv_sub hl [3, 4, 5, 2, 1, 0] rfl) hm
    · intro T8 M8 v1 v2 v3 v4 v5 hv3 H locs hP hD hS ls hl hm
      rw [f_X5_clauseByOrder_L] at hm
      rw [if_neg (by decide)] at hm
      refine lv_iload hx hb dX5_clauseByOrder_60 (lv_at hl 5 rfl) ?_
      refine lv_aload_n hx hb dX5_clauseByOrder_62 rfl (lv_at hl 3 rfl) ?_
      refine va_getN (D := DG G) (ci := 3) (v := .ref (a.2.2.1 (Int32.toNatClampNeg v3) 3)) (C := RX3) (T := TX3) (N := 8) hx hb hts inW_X3 hown hK hP _ ((at_goalC (c := 0) (gix_lt hv3) (by decide)).trans rfl) rfl 3 (by decide) (va_Nw.use rfl (hE.1 _ nw917)) (fun _ h9 => h9) rfl dX5_clauseByOrder_63 ?_
      refine va_alen (v := Int32.ofNat (P.2.2.2.2.2.2.2.2.2.2.2.2.1 (Int32.toNatClampNeg v3))) hx hb hK hP _ 0 ((at_goalC (c := 3) (gix_lt hv3) (by decide)).trans rfl) rfl rfl dX5_clauseByOrder_66 ?_
      refine lv_icmp_ge (tgt := 107) hx hb dX5_clauseByOrder_67 (by decide) (fun c_7 => ?_) (fun c_7 => ?_)
      · rw [if_pos c_7] at hm
        refine lv_iload hx hb dX5_clauseByOrder_107 (lv_at hl 4 rfl) ?_
        refine lv_if_eq (tgt := 114) hx hb dX5_clauseByOrder_109 (by decide) (fun c_8 => ?_) (fun c_8 => ?_)
        · rw [if_pos c_8] at hm
          refine lv_iinc (v := (v2 + 1)) (lv' := [(2, .int (v2 + 1)), (0, .ref (a.1 31)), (1, .int v1), (3, .ref (a.2.2.1 (Int32.toNatClampNeg v3) 0)), (4, .int v4), (5, .int v5)]) hx hb dX5_clauseByOrder_114 hl (k := 2) rfl rfl (by decide) rfl (fun ls hl => ?_)
          refine lv_goto (tgt := 2) hx hb dX5_clauseByOrder_117 (by decide) ?_
          refine W.widen (k := 0) (n := 0) (Nat.le_of_ble_eq_true rfl) (Nat.le_of_ble_eq_true rfl) ?_
          exact ih.1 T8 M8 v1 (v2 + 1)  _ _ hP hD hS _ (lv_sub hl [1, 2, 0] rfl) hm
        · rw [if_neg c_8] at hm
          refine lv_aload_n hx hb dX5_clauseByOrder_112 rfl (lv_at hl 3 rfl) ?_
          simp only [Option.some.injEq, Prod.mk.injEq] at hm
          obtain ⟨rfl, rfl, rfl⟩ := hm
          refine W.widen (k := 0) (n := 0) (Nat.le_of_ble_eq_true rfl) (Nat.le_of_ble_eq_true rfl) ?_
          exact W.aret (v := .ref (a.2.2.1 (Int32.toNatClampNeg v3) 0)) hx hb hr (Or.inl ⟨_, rfl⟩) (Or.inr ⟨_, rfl⟩) (fun t ht hW => ⟨⟨(some (a.2.2.1 (Int32.toNatClampNeg v3) 0)), (), rfl, (rfG_pos hv3).symm, ⟨by rw [ht]; exact hP, by rw [hAe]; exact hD⟩⟩, by rw [hAe]; exact hS.F ht⟩) (by rw [hAe]; exact hS.2.2) dX5_clauseByOrder_113 hlocks
      · rw [if_neg c_7] at hm
        refine lv_iload hx hb dX5_clauseByOrder_70 (lv_at hl 5 rfl) ?_
        refine lv_iconst (v := 4) hx hb dX5_clauseByOrder_72 (by decide) ?_
        refine lv_icmp_ge (tgt := 107) hx hb dX5_clauseByOrder_73 (by decide) (fun c_9 => ?_) (fun c_9 => ?_)
        · rw [if_pos c_9] at hm
          refine lv_iload hx hb dX5_clauseByOrder_107 (lv_at hl 4 rfl) ?_
          refine lv_if_eq (tgt := 114) hx hb dX5_clauseByOrder_109 (by decide) (fun c_10 => ?_) (fun c_10 => ?_)
          · rw [if_pos c_10] at hm
            refine lv_iinc (v := (v2 + 1)) (lv' := [(2, .int (v2 + 1)), (0, .ref (a.1 31)), (1, .int v1), (3, .ref (a.2.2.1 (Int32.toNatClampNeg v3) 0)), (4, .int v4), (5, .int v5)]) hx hb dX5_clauseByOrder_114 hl (k := 2) rfl rfl (by decide) rfl (fun ls hl => ?_)
            refine lv_goto (tgt := 2) hx hb dX5_clauseByOrder_117 (by decide) ?_
            refine W.widen (k := 0) (n := 0) (Nat.le_of_ble_eq_true rfl) (Nat.le_of_ble_eq_true rfl) ?_
            exact ih.1 T8 M8 v1 (v2 + 1)  _ _ hP hD hS _ (lv_sub hl [1, 2, 0] rfl) hm
          · rw [if_neg c_10] at hm
            refine lv_aload_n hx hb dX5_clauseByOrder_112 rfl (lv_at hl 3 rfl) ?_
            simp only [Option.some.injEq, Prod.mk.injEq] at hm
            obtain ⟨rfl, rfl, rfl⟩ := hm
            refine W.widen (k := 0) (n := 0) (Nat.le_of_ble_eq_true rfl) (Nat.le_of_ble_eq_true rfl) ?_
            exact W.aret (v := .ref (a.2.2.1 (Int32.toNatClampNeg v3) 0)) hx hb hr (Or.inl ⟨_, rfl⟩) (Or.inr ⟨_, rfl⟩) (fun t ht hW => ⟨⟨(some (a.2.2.1 (Int32.toNatClampNeg v3) 0)), (), rfl, (rfG_pos hv3).symm, ⟨by rw [ht]; exact hP, by rw [hAe]; exact hD⟩⟩, by rw [hAe]; exact hS.F ht⟩) (by rw [hAe]; exact hS.2.2) dX5_clauseByOrder_113 hlocks
        · rw [if_neg c_9] at hm
          refine lv_iload hx hb dX5_clauseByOrder_76 (lv_at hl 4 rfl) ?_
          refine lv_if_eq (tgt := 107) hx hb dX5_clauseByOrder_78 (by decide) (fun c_11 => ?_) (fun c_11 => ?_)
          · rw [if_pos c_11] at hm
            refine lv_iload hx hb dX5_clauseByOrder_107 (lv_at hl 4 rfl) ?_
            refine lv_if_eq (tgt := 114) hx hb dX5_clauseByOrder_109 (by decide) (fun c_12 => ?_) (fun c_12 => ?_)
            · rw [if_pos c_12] at hm
              refine lv_iinc (v := (v2 + 1)) (lv' := [(2, .int (v2 + 1)), (0, .ref (a.1 31)), (1, .int v1), (3, .ref (a.2.2.1 (Int32.toNatClampNeg v3) 0)), (4, .int v4), (5, .int v5)]) hx hb dX5_clauseByOrder_114 hl (k := 2) rfl rfl (by decide) rfl (fun ls hl => ?_)
              refine lv_goto (tgt := 2) hx hb dX5_clauseByOrder_117 (by decide) ?_
              refine W.widen (k := 0) (n := 0) (Nat.le_of_ble_eq_true rfl) (Nat.le_of_ble_eq_true rfl) ?_
              exact ih.1 T8 M8 v1 (v2 + 1)  _ _ hP hD hS _ (lv_sub hl [1, 2, 0] rfl) hm
            · rw [if_neg c_12] at hm
              refine lv_aload_n hx hb dX5_clauseByOrder_112 rfl (lv_at hl 3 rfl) ?_
              simp only [Option.some.injEq, Prod.mk.injEq] at hm
              obtain ⟨rfl, rfl, rfl⟩ := hm
              refine W.widen (k := 0) (n := 0) (Nat.le_of_ble_eq_true rfl) (Nat.le_of_ble_eq_true rfl) ?_
              exact W.aret (v := .ref (a.2.2.1 (Int32.toNatClampNeg v3) 0)) hx hb hr (Or.inl ⟨_, rfl⟩) (Or.inr ⟨_, rfl⟩) (fun t ht hW => ⟨⟨(some (a.2.2.1 (Int32.toNatClampNeg v3) 0)), (), rfl, (rfG_pos hv3).symm, ⟨by rw [ht]; exact hP, by rw [hAe]; exact hD⟩⟩, by rw [hAe]; exact hS.F ht⟩) (by rw [hAe]; exact hS.2.2) dX5_clauseByOrder_113 hlocks
          · rw [if_neg c_11] at hm
            refine lv_aload_n hx hb dX5_clauseByOrder_81 rfl (lv_at hl 0 rfl) ?_
            refine lv_aload_n hx hb dX5_clauseByOrder_82 rfl (lv_at hl 3 rfl) ?_
            refine va_getN (D := DG G) (ci := 3) (v := .ref (a.2.2.1 (Int32.toNatClampNeg v3) 3)) (C := RX3) (T := TX3) (N := 8) hx hb hts inW_X3 hown hK hP _ ((at_goalC (c := 0) (gix_lt hv3) (by decide)).trans rfl) rfl 3 (by decide) (va_Nw.use rfl (hE.1 _ nw917)) (fun _ h9 => h9) rfl dX5_clauseByOrder_83 ?_
            refine lv_iload hx hb dX5_clauseByOrder_86 (lv_at hl 5 rfl) ?_
            obtain ⟨b_13, hm⟩ := ite_some hm
            refine va_iald hx hb hK hP _ 0 ((at_goalC (c := 3) (gix_lt hv3) (by decide)).trans rfl) rfl (inb_vp b_13) dX5_clauseByOrder_88 ?_
            refine lv_aload_n hx hb dX5_clauseByOrder_89 rfl (lv_at hl 0 rfl) ?_
            refine va_get (D := DG G) (ci := 5) (v := .ref (a.1 34)) (C := RX5) (T := TX5) (N := 12) hx hb hts inW_X5 hown hK hP 31 rfl rfl 5 (by decide) (hts _ wm251) (fun _ h9 => h9) rfl dX5_clauseByOrder_90 ?_
            refine lv_iload hx hb dX5_clauseByOrder_93 (lv_at hl 5 rfl) ?_
            obtain ⟨b_14, hm⟩ := ite_some hm
            refine va_iald hx hb hK hP 34 0 rfl rfl (inb_vp b_14) dX5_clauseByOrder_95 ?_
            obtain ⟨q_15, hq_15, hm⟩ := bind_some hm
            have hFc := free_all hD hS hA
            refine va_calli (va_runS (As := [.ref (a.1 31), .int ((P.2.2.2.2.2.2.2.2.2.2.2.2.2 (Int32.toNatClampNeg v3)) (Int32.toNatClampNeg v5)), .int (M8.2.2.1 (Int32.toNatClampNeg v5))]) (rest := []) ⟨hx, hb, hml, hown, hts⟩ (K_X5_match l hfl G a T8 F U S D R M8 N P ((P.2.2.2.2.2.2.2.2.2.2.2.2.2 (Int32.toNatClampNeg v3)) (Int32.toNatClampNeg v5)) (M8.2.2.1 (Int32.toNatClampNeg v5))  q_15.1 q_15.2.1 q_15.2.2 hq_15 H.size) (cwS 3 hts (gS wm1216 wm1217 wm10 wm1218) rfl rfl rfl (by decide +kernel) ⟨Nat.le_of_ble_eq_true rfl, Nat.le_of_ble_eq_true rfl⟩) (pre_w hK hP hD hS hE hFc) rfl rfl hl.1 rfl (lv_room (Nat.le_of_ble_eq_true rfl)) dX5_clauseByOrder_96 ⟨Nat.le_of_ble_eq_true rfl, Nat.le_of_ble_eq_true rfl⟩) hS (fun q _ h => hFc q h) hFc (fun r u t H locs ht hvm hw hB hz1 hk1 hS => ?_)
            rw [show r = q_15.1 from hw]
            have hP : va_P (DG G) clP3 (wC G a q_15.2.1 F U S D R q_15.2.2 N P) H := by rw [← ht]; exact hB.1
            have hD : va_D A (wC G a q_15.2.1 F U S D R q_15.2.2 N P) := hB.2.weaken (fun _ p _ h => hFc p.1 h)
            clear hB hFc hw hk1
            refine W.widen (k := 0) (n := 0) (Nat.le_of_ble_eq_true rfl) (Nat.le_of_ble_eq_true rfl) ?_
            refine lv_istore (lv' := [(4, .int q_15.1), (0, .ref (a.1 31)), (1, .int v1), (2, .int v2), (3, .ref (a.2.2.1 (Int32.toNatClampNeg v3) 0)), (5, .int v5)]) hx hb dX5_clauseByOrder_99 hl (by decide) rfl (fun ls hl => ?_)
            refine lv_iinc (v := (v5 + 1)) (lv' := [(5, .int (v5 + 1)), (4, .int q_15.1), (0, .ref (a.1 31)), (1, .int v1), (2, .int v2), (3, .ref (a.2.2.1 (Int32.toNatClampNeg v3) 0))]) hx hb dX5_clauseByOrder_101 hl (k := 5) rfl rfl (by decide) rfl (fun ls hl => ?_)
            refine lv_goto (tgt := 60) hx hb dX5_clauseByOrder_104 (by decide) ?_
            refine W.widen (k := 0) (n := 0) (Nat.le_of_ble_eq_true rfl) (Nat.le_of_ble_eq_true rfl) ?_
            exact ih.2 q_15.2.1 q_15.2.2 v1 v2 v3 q_15.1 (v5 + 1) hv3 _ _ hP hD hS _ (lv_sub hl [2, 3, 4, 5, 1, 0] rfl) hm
set_option maxHeartbeats 2000000 in
set_option maxRecDepth 100000 in
theorem k_X5_clauseByOrder (l : Launch) (hfl : l.stackTraces = false) (G : GC) (a : AS) (T : TS) (F : FS) (U : US) (S : SS) (D : DS) (R : RS) (M : MS) (N : NS) (P : PS) (hlk : lkA a D.1.toNatClampNeg D.2.1.toNatClampNeg) (p1 : Int32) (r9 : Int32) (T9 : TS) (M9 : MS) (hm : f_X5_clauseByOrder T D M P p1 = some (r9, T9, M9)) (sz : Nat) : Met l yX5_clauseByOrder (Cond.code yX5_clauseByOrder cX5_clauseByOrder 6 (some (.object "TelescopeCourt$Goal")) :: W0) ({ frames := 202, cells := 0, slots := 0, locals := 5046 }) (va_Pc [.ref (a.1 31), .int p1] (WD G (wC G a T F U S D R M N P) sz)) (va_Qq (fun (r : Option Nat) (_ : Unit) => r = rfG a r9) (fun _ t => PW G (va_A (wC G a T F U S D R M N P) sz) (wC G a T9 F U S D R M9 N P) t) (va_A (wC G a T F U S D R M N P) sz)) 0 0 (va_A (wC G a T F U S D R M N P) sz) := by
  rw [f_X5_clauseByOrder] at hm
  refine Met.ofW (cc := cX5_clauseByOrder) (maxL := 6) (ret := (some (.object "TelescopeCourt$Goal"))) (by decide) rfl ?_
  intro p e s m args below meth c s₁ B hml hv
  obtain ⟨rfl, hsz, hP, hK, hD0, hE⟩ := hv
  have hx := B.exec
  have hb := B.bytes
  have hr := B.returns
  have hts := w0_tail B.pre
  have hown : s.vm.findClass RX5 = some m.cls := findClass_of_methodNamed B.named
  have hlocks := B.notSynchronized
  have hD := hD0.self (sz := sz)
  obtain ⟨A, hAe⟩ : ∃ A, (va_A (wC G a T F U S D R M N P) sz) = A := ⟨_, rfl⟩
  rw [hAe] at hD hE
  have hA : ∀ q : Nat, s.heap.size ≤ q → A q := fun q h => by rw [← hAe]; exact Or.inr (by rw [← hsz]; exact h)
  have hS : va_S A s.heap s.heap [] := va_S.rf
  obtain ⟨H, hHe⟩ : ∃ H : Heap, H = s.heap := ⟨_, rfl⟩
  have hP : va_P (DG G) clP3 (wC G a T F U S D R M N P) H := by rw [hHe]; exact hP
  have hS : va_S A s.heap H [] := by rw [hHe]; exact hS
  have hl := lv_entry ([.ref (a.1 31), .int p1]) (n := 6) (Nat.le_of_ble_eq_true rfl)
  rw [lg_entry_eq, ← hHe]
  generalize (lg_sl ([.ref (a.1 31), .int p1]) ++ List.replicate (6 - (lg_sl ([.ref (a.1 31), .int p1])).length) Slot.unset).toArray = ls at hl ⊢
  have hl : lv_has ls 6 [(0, .ref (a.1 31)), (1, .int p1)] := hl
  refine lv_iconst (v := 0) hx hb dX5_clauseByOrder_0 (by decide) ?_
  refine lv_istore_n (lv' := [(2, .int 0), (0, .ref (a.1 31)), (1, .int p1)]) hx hb dX5_clauseByOrder_1 rfl hl (by decide) rfl (fun ls hl => ?_)
  refine W.widen (k := 0) (n := 0) (Nat.le_of_ble_eq_true rfl) (Nat.le_of_ble_eq_true rfl) ?_
  exact (kl_X5_clauseByOrder hfl hx hb hr hml hown hts hlocks hlk hAe hA hE hK r9 T9 M9 100000).1 T M p1 0  _ _ hP hD hS _ (lv_sub hl [1, 2, 0] rfl) hm
def f_X5_rightSideFor_L11 : Nat → TS → SS → DS → MS → PS → Int32 → Int32 → Int32 → Int32 → Option (Int32 × TS × MS)
  | 0, _, _, _, _, _, _, _, _, _ => none
  | n + 1, T, S, D, M, P, v1, v2, v4, v5 => (if v5 < 0 then (if M.2.2.2.2.2.2.2.2 = 0 then (Option.bind (f_X5_clauseByOrder T D M P v2) (fun q_3 => (if q_3.1 < 0 then some ((-1), q_3.2.1, q_3.2.2) else (if gix D q_3.1 = true then (Option.bind (g_X5_withValues q_3.2.1 q_3.2.2 (P.2.2.2.2.2.2.1 (Int32.toNatClampNeg q_3.1)) 0) (fun q_6 => some (q_6.1, q_6.2.1, q_6.2.2))) else none)))) else (Option.bind (f_X5_clauseBySplits T S D M P v1) (fun q_7 => (if q_7.1 < 0 then some ((-1), T, q_7.2) else (if gix D q_7.1 = true then (Option.bind (g_X5_withValues T q_7.2 (P.2.2.2.2.2.2.1 (Int32.toNatClampNeg q_7.1)) 0) (fun q_10 => some (q_10.1, q_10.2.1, q_10.2.2))) else none))))) else (if 4 ≤ v5 then (if M.2.2.2.2.2.2.2.2 = 0 then (Option.bind (f_X5_clauseByOrder T D M P v2) (fun q_13 => (if q_13.1 < 0 then some ((-1), q_13.2.1, q_13.2.2) else (if gix D q_13.1 = true then (Option.bind (g_X5_withValues q_13.2.1 q_13.2.2 (P.2.2.2.2.2.2.1 (Int32.toNatClampNeg q_13.1)) 0) (fun q_16 => some (q_16.1, q_16.2.1, q_16.2.2))) else none)))) else (Option.bind (f_X5_clauseBySplits T S D M P v1) (fun q_17 => (if q_17.1 < 0 then some ((-1), T, q_17.2) else (if gix D q_17.1 = true then (Option.bind (g_X5_withValues T q_17.2 (P.2.2.2.2.2.2.1 (Int32.toNatClampNeg q_17.1)) 0) (fun q_20 => some (q_20.1, q_20.2.1, q_20.2.2))) else none))))) else (Option.bind (g_X9_secondOf T v4) (fun q_21 => (if inb v5 4 = true then (Option.bind (g_X9_firstOf T v4) (fun q_23 => (f_X5_rightSideFor_L11 n T S D (M.1, M.2.1, (upd M.2.2.1 (Int32.toNatClampNeg v5) q_21), M.2.2.2.1, M.2.2.2.2.1, M.2.2.2.2.2.1, M.2.2.2.2.2.2.1, M.2.2.2.2.2.2.2.1, M.2.2.2.2.2.2.2.2) P v1 v2 q_23 (v5 + (-1))))) else none)))))
def f_X5_rightSideFor (T : TS) (S : SS) (D : DS) (M : MS) (P : PS) (p1 : Int32) (p2 : Int32) (p3 : Int32) : Option (Int32 × TS × MS) := (f_X5_rightSideFor_L11 100000 T S D M P p1 p2 p3 ((P.2.1 (Int32.toNatClampNeg p1)) - (1 : Int32)))
set_option maxHeartbeats 2000000 in
set_option maxRecDepth 100000 in
theorem kl_X5_rightSideFor_11 {l : Launch} (hfl : l.stackTraces = false) {G : GC} {a : AS} {T : TS} {F : FS} {U : US} {S : SS} {D : DS} {R : RS} {M : MS} {N : NS} {P : PS} {A : Nat → Prop} {sz : Nat} {p : Program} {e : Env} {s : State} {m : MethodId} {args : Array Value} {below : List Frame} {meth : Method} {c : Code} (hx : p.tables.exec = Jvm.exec) (hb : c.code = cX5_rightSideFor) (hr : meth.sig.returnType = (some .int)) (hml : c.maxLocals = 6) (hown : s.vm.findClass RX5 = some m.cls) (hts : ∀ w ∈ W0, w.before args s = true) (hlocks : meth.locks = false) (hlk : lkA a D.1.toNatClampNeg D.2.1.toNatClampNeg) (hAe : (va_A (wC G a T F U S D R M N P) sz) = A) (hA : ∀ q : Nat, s.heap.size ≤ q → A q) (hE : EV G A s s.heap) (hK : va_K (DG G) clP3 (TY G) s) (r9 : Int32) (T9 : TS) (M9 : MS) : ∀ (n : Nat), ∀ (T8 : TS) (M8 : MS) (v1 : Int32) (v2 : Int32) (v4 : Int32) (v5 : Int32) (hv1 : fix D v1 = true) (H : Heap) (locs : List Loc), va_P (DG G) clP3 (wC G a T8 F U S D R M8 N P) H → va_D A (wC G a T8 F U S D R M8 N P) → va_S A s.heap H locs → ∀ (ls : Array Slot), lv_has ls 6 [(0, .ref (a.1 31)), (1, .ref (a.2.1 (Int32.toNatClampNeg v1))), (2, .int v2), (4, .int v4), (5, .int v5)] → f_X5_rightSideFor_L11 n T8 S D M8 P v1 v2 v4 v5 = some (r9, T9, M9) → W p l e ({ frames := 203, cells := 0, slots := 0, locals := 5266 }) s m args below meth c H locs 0 0 (MQ below (va_Qi (fun (r : Int32) (_ : Unit) => r = r9) (fun _ t => PW G (va_A (wC G a T F U S D R M N P) sz) (wC G a T9 F U S D R M9 N P) t) (va_A (wC G a T F U S D R M N P) sz)) args s 0 0 (va_A (wC G a T F U S D R M N P) sz)) (F0 m 11 ls []) := by
  intro n
  induction n with
  | zero =>
    intro T8 M8 v1 v2 v4 v5 hv1 H locs hP hD hS ls hl hm
    rw [f_X5_rightSideFor_L11] at hm
    cases hm
  | succ n ih =>
    intro T8 M8 v1 v2 v4 v5 hv1 H locs hP hD hS ls hl hm
    rw [f_X5_rightSideFor_L11] at hm
    refine lv_iload hx hb dX5_rightSideFor_11 (lv_at hl 4 rfl) ?_
    refine lv_if_lt (tgt := 55) hx hb dX5_rightSideFor_13 (by decide) (fun c_1 => ?_) (fun c_1 => ?_)
    · rw [if_pos c_1] at hm
      refine lv_aload_n hx hb dX5_rightSideFor_55 rfl (lv_at hl 0 rfl) ?_
      refine va_get (D := DG G) (ci := 5) (v := .int M8.2.2.2.2.2.2.2.2) (C := RX5) (T := TX5) (N := 12) hx hb hts inW_X5 hown hK hP 31 rfl rfl 11 (by decide) (hts _ wm258) (fun _ h9 => h9) rfl dX5_rightSideFor_56 ?_
      refine lv_if_eq (tgt := 70) hx hb dX5_rightSideFor_59 (by decide) (fun c_2 => ?_) (fun c_2 => ?_)
      · rw [if_pos c_2] at hm
        refine lv_aload_n hx hb dX5_rightSideFor_70 rfl (lv_at hl 0 rfl) ?_
        refine lv_iload_n hx hb dX5_rightSideFor_71 rfl (lv_at hl 2 rfl) ?_
        obtain ⟨q_3, hq_3, hm⟩ := bind_some hm
        have hFc := free_all hD hS hA
        refine va_callq (va_runV (As := [.int v2]) (rest := []) ⟨hx, hb, hml, hown, hts⟩ (k_X5_clauseByOrder l hfl G a T8 F U S D R M8 N P hlk v2  q_3.1 q_3.2.1 q_3.2.2 hq_3 H.size) (cwV 1 hts (gV wm1212 wm1214 ws_p27 wm10 wm1215) rfl rfl rfl (by decide +kernel) ⟨Nat.le_of_ble_eq_true rfl, Nat.le_of_ble_eq_true rfl⟩) (pre_v (pre_w hK hP hD hS hE hFc) (va_recv hK hP (ci := 5) (q0 := 31) rfl rfl)) rfl rfl hl.1 rfl (lv_room (Nat.le_of_ble_eq_true rfl)) dX5_rightSideFor_72 ⟨Nat.le_of_ble_eq_true rfl, Nat.le_of_ble_eq_true rfl⟩) hS (fun q _ h => hFc q h) hFc (fun r u t H locs ht hvm hw hB hz1 hk1 hS => ?_)
        rw [show r = rfG a q_3.1 from hw]
        have hP : va_P (DG G) clP3 (wC G a q_3.2.1 F U S D R q_3.2.2 N P) H := by rw [← ht]; exact hB.1
        have hD : va_D A (wC G a q_3.2.1 F U S D R q_3.2.2 N P) := hB.2.weaken (fun _ p _ h => hFc p.1 h)
        clear hB hFc hw hk1
        refine W.widen (k := 0) (n := 0) (Nat.le_of_ble_eq_true rfl) (Nat.le_of_ble_eq_true rfl) ?_
        by_cases c_4 : q_3.1 < 0
        · rw [if_pos c_4] at hm
          rw [show rfG a q_3.1 = none from if_pos c_4]
          refine W.eq (g2 := F0 m 75 ls [.null]) rfl ?_
          refine lv_astoreN (lv' := [(5, .null), (0, .ref (a.1 31)), (1, .ref (a.2.1 (Int32.toNatClampNeg v1))), (2, .int v2), (4, .int v4)]) hx hb dX5_rightSideFor_75 hl (by decide) rfl (fun ls hl => ?_)
          refine lv_aloadN hx hb dX5_rightSideFor_77 (lv_at hl 0 rfl) ?_
          refine lv_ifnonnullN hx hb dX5_rightSideFor_79 ?_
          refine lv_iconst (v := (-1)) hx hb dX5_rightSideFor_82 (by decide) ?_
          refine lv_goto (tgt := 96) hx hb dX5_rightSideFor_83 (by decide) ?_
          simp only [Option.some.injEq, Prod.mk.injEq] at hm
          obtain ⟨rfl, rfl, rfl⟩ := hm
          refine W.widen (k := 0) (n := 0) (Nat.le_of_ble_eq_true rfl) (Nat.le_of_ble_eq_true rfl) ?_
          exact W.iret (v := (-1)) hx hb hr (fun t ht hW => ⟨⟨(-1), (), rfl, rfl, ⟨by rw [ht]; exact hP, by rw [hAe]; exact hD⟩⟩, by rw [hAe]; exact hS.F ht⟩) (by rw [hAe]; exact hS.2.2) dX5_rightSideFor_96 hlocks
        · rw [if_neg c_4] at hm
          obtain ⟨g_5, hm⟩ := ite_some hm
          rw [show rfG a q_3.1 = some _ from if_neg c_4]
          refine W.eq (g2 := F0 m 75 ls [.ref (a.2.2.1 (Int32.toNatClampNeg q_3.1) 0)]) rfl ?_
          refine lv_astore (lv' := [(5, .ref (a.2.2.1 (Int32.toNatClampNeg q_3.1) 0)), (0, .ref (a.1 31)), (1, .ref (a.2.1 (Int32.toNatClampNeg v1))), (2, .int v2), (4, .int v4)]) hx hb dX5_rightSideFor_75 hl (by decide) rfl (fun ls hl => ?_)
          refine lv_aload hx hb dX5_rightSideFor_77 (lv_at hl 0 rfl) ?_
          refine lv_ifnonnull (tgt := 86) hx hb dX5_rightSideFor_79 (by decide) ?_
          refine lv_aload_n hx hb dX5_rightSideFor_86 rfl (lv_at hl 1 rfl) ?_
          refine lv_aload hx hb dX5_rightSideFor_87 (lv_at hl 0 rfl) ?_
          refine va_getN (D := DG G) (ci := 3) (v := .int (P.2.2.2.2.2.2.1 (Int32.toNatClampNeg q_3.1))) (C := RX3) (T := TX3) (N := 8) hx hb hts inW_X3 hown hK hP _ ((at_goalC (c := 0) (gix_lt g_5) (by decide)).trans rfl) rfl 5 (by decide) (va_Nw.use rfl (hE.1 _ nw926)) (fun _ h9 => h9) rfl dX5_rightSideFor_89 ?_
          refine lv_iconst (v := 0) hx hb dX5_rightSideFor_92 (by decide) ?_
          obtain ⟨q_6, hq_6, hm⟩ := bind_some hm
          have hFc := free_all hD hS hA
          refine va_calli (va_runS (As := [.ref (a.1 31), .int (P.2.2.2.2.2.2.1 (Int32.toNatClampNeg q_3.1)), .int 0]) (rest := []) ⟨hx, hb, hml, hown, hts⟩ (K_X5_withValues l hfl G a q_3.2.1 F U S D R q_3.2.2 N P (P.2.2.2.2.2.2.1 (Int32.toNatClampNeg q_3.1)) 0  q_6.1 q_6.2.1 q_6.2.2 hq_6 H.size) (cwS 3 hts (gS wm1219 wm1220 wm10 wm1221) rfl rfl rfl (by decide +kernel) ⟨Nat.le_of_ble_eq_true rfl, Nat.le_of_ble_eq_true rfl⟩) (pre_w hK hP hD hS hE hFc) rfl rfl hl.1 rfl (lv_room (Nat.le_of_ble_eq_true rfl)) dX5_rightSideFor_93 ⟨Nat.le_of_ble_eq_true rfl, Nat.le_of_ble_eq_true rfl⟩) hS (fun q _ h => hFc q h) hFc (fun r u t H locs ht hvm hw hB hz1 hk1 hS => ?_)
          rw [show r = q_6.1 from hw]
          have hP : va_P (DG G) clP3 (wC G a q_6.2.1 F U S D R q_6.2.2 N P) H := by rw [← ht]; exact hB.1
          have hD : va_D A (wC G a q_6.2.1 F U S D R q_6.2.2 N P) := hB.2.weaken (fun _ p _ h => hFc p.1 h)
          clear hB hFc hw hk1
          refine W.widen (k := 0) (n := 0) (Nat.le_of_ble_eq_true rfl) (Nat.le_of_ble_eq_true rfl) ?_
          simp only [Option.some.injEq, Prod.mk.injEq] at hm
          obtain ⟨rfl, rfl, rfl⟩ := hm
          refine W.widen (k := 0) (n := 0) (Nat.le_of_ble_eq_true rfl) (Nat.le_of_ble_eq_true rfl) ?_
          exact W.iret (v := q_6.1) hx hb hr (fun t ht hW => ⟨⟨q_6.1, (), rfl, rfl, ⟨by rw [ht]; exact hP, by rw [hAe]; exact hD⟩⟩, by rw [hAe]; exact hS.F ht⟩) (by rw [hAe]; exact hS.2.2) dX5_rightSideFor_96 hlocks
      · rw [if_neg c_2] at hm
        refine lv_aload_n hx hb dX5_rightSideFor_62 rfl (lv_at hl 0 rfl) ?_
        refine lv_aload_n hx hb dX5_rightSideFor_63 rfl (lv_at hl 1 rfl) ?_
        obtain ⟨q_7, hq_7, hm⟩ := bind_some hm
        have hFc := free_all hD hS hA
        refine va_callq (va_runV (As := [.ref (a.2.1 (Int32.toNatClampNeg v1))]) (rest := []) ⟨hx, hb, hml, hown, hts⟩ (k_X5_clauseBySplits l hfl G a T8 F U S D R M8 N P hlk v1 hv1 q_7.1 q_7.2 hq_7 H.size) (cwV 1 hts (gV wm1196 wm1198 ws_p25 wm10 wm1199) rfl rfl rfl (by decide +kernel) ⟨Nat.le_of_ble_eq_true rfl, Nat.le_of_ble_eq_true rfl⟩) (pre_v (pre_w hK hP hD hS hE hFc) (va_recv hK hP (ci := 5) (q0 := 31) rfl rfl)) rfl rfl hl.1 rfl (lv_room (Nat.le_of_ble_eq_true rfl)) dX5_rightSideFor_64 ⟨Nat.le_of_ble_eq_true rfl, Nat.le_of_ble_eq_true rfl⟩) hS (fun q _ h => hFc q h) hFc (fun r u t H locs ht hvm hw hB hz1 hk1 hS => ?_)
        rw [show r = rfG a q_7.1 from hw]
        have hP : va_P (DG G) clP3 (wC G a T8 F U S D R q_7.2 N P) H := by rw [← ht]; exact hB.1
        have hD : va_D A (wC G a T8 F U S D R q_7.2 N P) := hB.2.weaken (fun _ p _ h => hFc p.1 h)
        clear hB hFc hw hk1
        refine W.widen (k := 0) (n := 0) (Nat.le_of_ble_eq_true rfl) (Nat.le_of_ble_eq_true rfl) ?_
        by_cases c_8 : q_7.1 < 0
        · rw [if_pos c_8] at hm
          rw [show rfG a q_7.1 = none from if_pos c_8]
          refine W.eq (g2 := F0 m 67 ls [.null]) rfl ?_
          refine lv_goto (tgt := 75) hx hb dX5_rightSideFor_67 (by decide) ?_
          refine lv_astoreN (lv' := [(5, .null), (0, .ref (a.1 31)), (1, .ref (a.2.1 (Int32.toNatClampNeg v1))), (2, .int v2), (4, .int v4)]) hx hb dX5_rightSideFor_75 hl (by decide) rfl (fun ls hl => ?_)
          refine lv_aloadN hx hb dX5_rightSideFor_77 (lv_at hl 0 rfl) ?_
          refine lv_ifnonnullN hx hb dX5_rightSideFor_79 ?_
          refine lv_iconst (v := (-1)) hx hb dX5_rightSideFor_82 (by decide) ?_
          refine lv_goto (tgt := 96) hx hb dX5_rightSideFor_83 (by decide) ?_
          simp only [Option.some.injEq, Prod.mk.injEq] at hm
          obtain ⟨rfl, rfl, rfl⟩ := hm
          refine W.widen (k := 0) (n := 0) (Nat.le_of_ble_eq_true rfl) (Nat.le_of_ble_eq_true rfl) ?_
          exact W.iret (v := (-1)) hx hb hr (fun t ht hW => ⟨⟨(-1), (), rfl, rfl, ⟨by rw [ht]; exact hP, by rw [hAe]; exact hD⟩⟩, by rw [hAe]; exact hS.F ht⟩) (by rw [hAe]; exact hS.2.2) dX5_rightSideFor_96 hlocks
        · rw [if_neg c_8] at hm
          obtain ⟨g_9, hm⟩ := ite_some hm
          rw [show rfG a q_7.1 = some _ from if_neg c_8]
          refine W.eq (g2 := F0 m 67 ls [.ref (a.2.2.1 (Int32.toNatClampNeg q_7.1) 0)]) rfl ?_
          refine lv_goto (tgt := 75) hx hb dX5_rightSideFor_67 (by decide) ?_
          refine lv_astore (lv' := [(5, .ref (a.2.2.1 (Int32.toNatClampNeg q_7.1) 0)), (0, .ref (a.1 31)), (1, .ref (a.2.1 (Int32.toNatClampNeg v1))), (2, .int v2), (4, .int v4)]) hx hb dX5_rightSideFor_75 hl (by decide) rfl (fun ls hl => ?_)
          refine lv_aload hx hb dX5_rightSideFor_77 (lv_at hl 0 rfl) ?_
          refine lv_ifnonnull (tgt := 86) hx hb dX5_rightSideFor_79 (by decide) ?_
          refine lv_aload_n hx hb dX5_rightSideFor_86 rfl (lv_at hl 1 rfl) ?_
          refine lv_aload hx hb dX5_rightSideFor_87 (lv_at hl 0 rfl) ?_
          refine va_getN (D := DG G) (ci := 3) (v := .int (P.2.2.2.2.2.2.1 (Int32.toNatClampNeg q_7.1))) (C := RX3) (T := TX3) (N := 8) hx hb hts inW_X3 hown hK hP _ ((at_goalC (c := 0) (gix_lt g_9) (by decide)).trans rfl) rfl 5 (by decide) (va_Nw.use rfl (hE.1 _ nw926)) (fun _ h9 => h9) rfl dX5_rightSideFor_89 ?_
          refine lv_iconst (v := 0) hx hb dX5_rightSideFor_92 (by decide) ?_
          obtain ⟨q_10, hq_10, hm⟩ := bind_some hm
          have hFc := free_all hD hS hA
          refine va_calli (va_runS (As := [.ref (a.1 31), .int (P.2.2.2.2.2.2.1 (Int32.toNatClampNeg q_7.1)), .int 0]) (rest := []) ⟨hx, hb, hml, hown, hts⟩ (K_X5_withValues l hfl G a T8 F U S D R q_7.2 N P (P.2.2.2.2.2.2.1 (Int32.toNatClampNeg q_7.1)) 0  q_10.1 q_10.2.1 q_10.2.2 hq_10 H.size) (cwS 3 hts (gS wm1219 wm1220 wm10 wm1221) rfl rfl rfl (by decide +kernel) ⟨Nat.le_of_ble_eq_true rfl, Nat.le_of_ble_eq_true rfl⟩) (pre_w hK hP hD hS hE hFc) rfl rfl hl.1 rfl (lv_room (Nat.le_of_ble_eq_true rfl)) dX5_rightSideFor_93 ⟨Nat.le_of_ble_eq_true rfl, Nat.le_of_ble_eq_true rfl⟩) hS (fun q _ h => hFc q h) hFc (fun r u t H locs ht hvm hw hB hz1 hk1 hS => ?_)
          rw [show r = q_10.1 from hw]
          have hP : va_P (DG G) clP3 (wC G a q_10.2.1 F U S D R q_10.2.2 N P) H := by rw [← ht]; exact hB.1
          have hD : va_D A (wC G a q_10.2.1 F U S D R q_10.2.2 N P) := hB.2.weaken (fun _ p _ h => hFc p.1 h)
          clear hB hFc hw hk1
          refine W.widen (k := 0) (n := 0) (Nat.le_of_ble_eq_true rfl) (Nat.le_of_ble_eq_true rfl) ?_
          simp only [Option.some.injEq, Prod.mk.injEq] at hm
          obtain ⟨rfl, rfl, rfl⟩ := hm
          refine W.widen (k := 0) (n := 0) (Nat.le_of_ble_eq_true rfl) (Nat.le_of_ble_eq_true rfl) ?_
          exact W.iret (v := q_10.1) hx hb hr (fun t ht hW => ⟨⟨q_10.1, (), rfl, rfl, ⟨by rw [ht]; exact hP, by rw [hAe]; exact hD⟩⟩, by rw [hAe]; exact hS.F ht⟩) (by rw [hAe]; exact hS.2.2) dX5_rightSideFor_96 hlocks
    · rw [if_neg c_1] at hm
      refine lv_iload hx hb dX5_rightSideFor_16 (lv_at hl 4 rfl) ?_
      refine lv_iconst (v := 4) hx hb dX5_rightSideFor_18 (by decide) ?_
      refine lv_icmp_ge (tgt := 55) hx hb dX5_rightSideFor_19 (by decide) (fun c_11 => ?_) (fun c_11 => ?_)
      · rw [if_pos c_11] at hm
        refine lv_aload_n hx hb dX5_rightSideFor_55 rfl (lv_at hl 0 rfl) ?_
        refine va_get (D := DG G) (ci := 5) (v := .int M8.2.2.2.2.2.2.2.2) (C := RX5) (T := TX5) (N := 12) hx hb hts inW_X5 hown hK hP 31 rfl rfl 11 (by decide) (hts _ wm258) (fun _ h9 => h9) rfl dX5_rightSideFor_56 ?_
        refine lv_if_eq (tgt := 70) hx hb dX5_rightSideFor_59 (by decide) (fun c_12 => ?_) (fun c_12 => ?_)
        · rw [if_pos c_12] at hm
          refine lv_aload_n hx hb dX5_rightSideFor_70 rfl (lv_at hl 0 rfl) ?_
          refine lv_iload_n hx hb dX5_rightSideFor_71 rfl (lv_at hl 2 rfl) ?_
          obtain ⟨q_13, hq_13, hm⟩ := bind_some hm
          have hFc := free_all hD hS hA
          refine va_callq (va_runV (As := [.int v2]) (rest := []) ⟨hx, hb, hml, hown, hts⟩ (k_X5_clauseByOrder l hfl G a T8 F U S D R M8 N P hlk v2  q_13.1 q_13.2.1 q_13.2.2 hq_13 H.size) (cwV 1 hts (gV wm1212 wm1214 ws_p27 wm10 wm1215) rfl rfl rfl (by decide +kernel) ⟨Nat.le_of_ble_eq_true rfl, Nat.le_of_ble_eq_true rfl⟩) (pre_v (pre_w hK hP hD hS hE hFc) (va_recv hK hP (ci := 5) (q0 := 31) rfl rfl)) rfl rfl hl.1 rfl (lv_room (Nat.le_of_ble_eq_true rfl)) dX5_rightSideFor_72 ⟨Nat.le_of_ble_eq_true rfl, Nat.le_of_ble_eq_true rfl⟩) hS (fun q _ h => hFc q h) hFc (fun r u t H locs ht hvm hw hB hz1 hk1 hS => ?_)
          rw [show r = rfG a q_13.1 from hw]
          have hP : va_P (DG G) clP3 (wC G a q_13.2.1 F U S D R q_13.2.2 N P) H := by rw [← ht]; exact hB.1
          have hD : va_D A (wC G a q_13.2.1 F U S D R q_13.2.2 N P) := hB.2.weaken (fun _ p _ h => hFc p.1 h)
          clear hB hFc hw hk1
          refine W.widen (k := 0) (n := 0) (Nat.le_of_ble_eq_true rfl) (Nat.le_of_ble_eq_true rfl) ?_
          by_cases c_14 : q_13.1 < 0
          · rw [if_pos c_14] at hm
            rw [show rfG a q_13.1 = none from if_pos c_14]
            refine W.eq (g2 := F0 m 75 ls [.null]) rfl ?_
            refine lv_astoreN (lv' := [(5, .null), (0, .ref (a.1 31)), (1, .ref (a.2.1 (Int32.toNatClampNeg v1))), (2, .int v2), (4, .int v4)]) hx hb dX5_rightSideFor_75 hl (by decide) rfl (fun ls hl => ?_)
            refine lv_aloadN hx hb dX5_rightSideFor_77 (lv_at hl 0 rfl) ?_
            refine lv_ifnonnullN hx hb dX5_rightSideFor_79 ?_
            refine lv_iconst (v := (-1)) hx hb dX5_rightSideFor_82 (by decide) ?_
            refine lv_goto (tgt := 96) hx hb dX5_rightSideFor_83 (by decide) ?_
            simp only [Option.some.injEq, Prod.mk.injEq] at hm
            obtain ⟨rfl, rfl, rfl⟩ := hm
            refine W.widen (k := 0) (n := 0) (Nat.le_of_ble_eq_true rfl) (Nat.le_of_ble_eq_true rfl) ?_
            exact W.iret (v := (-1)) hx hb hr (fun t ht hW => ⟨⟨(-1), (), rfl, rfl, ⟨by rw [ht]; exact hP, by rw [hAe]; exact hD⟩⟩, by rw [hAe]; exact hS.F ht⟩) (by rw [hAe]; exact hS.2.2) dX5_rightSideFor_96 hlocks
          · rw [if_neg c_14] at hm
            obtain ⟨g_15, hm⟩ := ite_some hm
            rw [show rfG a q_13.1 = some _ from if_neg c_14]
            refine W.eq (g2 := F0 m 75 ls [.ref (a.2.2.1 (Int32.toNatClampNeg q_13.1) 0)]) rfl ?_
            refine lv_astore (lv' := [(5, .ref (a.2.2.1 (Int32.toNatClampNeg q_13.1) 0)), (0, .ref (a.1 31)), (1, .ref (a.2.1 (Int32.toNatClampNeg v1))), (2, .int v2), (4, .int v4)]) hx hb dX5_rightSideFor_75 hl (by decide) rfl (fun ls hl => ?_)
            refine lv_aload hx hb dX5_rightSideFor_77 (lv_at hl 0 rfl) ?_
            refine lv_ifnonnull (tgt := 86) hx hb dX5_rightSideFor_79 (by decide) ?_
            refine lv_aload_n hx hb dX5_rightSideFor_86 rfl (lv_at hl 1 rfl) ?_
            refine lv_aload hx hb dX5_rightSideFor_87 (lv_at hl 0 rfl) ?_
            refine va_getN (D := DG G) (ci := 3) (v := .int (P.2.2.2.2.2.2.1 (Int32.toNatClampNeg q_13.1))) (C := RX3) (T := TX3) (N := 8) hx hb hts inW_X3 hown hK hP _ ((at_goalC (c := 0) (gix_lt g_15) (by decide)).trans rfl) rfl 5 (by decide) (va_Nw.use rfl (hE.1 _ nw926)) (fun _ h9 => h9) rfl dX5_rightSideFor_89 ?_
            refine lv_iconst (v := 0) hx hb dX5_rightSideFor_92 (by decide) ?_
            obtain ⟨q_16, hq_16, hm⟩ := bind_some hm
            have hFc := free_all hD hS hA
            refine va_calli (va_runS (As := [.ref (a.1 31), .int (P.2.2.2.2.2.2.1 (Int32.toNatClampNeg q_13.1)), .int 0]) (rest := []) ⟨hx, hb, hml, hown, hts⟩ (K_X5_withValues l hfl G a q_13.2.1 F U S D R q_13.2.2 N P (P.2.2.2.2.2.2.1 (Int32.toNatClampNeg q_13.1)) 0  q_16.1 q_16.2.1 q_16.2.2 hq_16 H.size) (cwS 3 hts (gS wm1219 wm1220 wm10 wm1221) rfl rfl rfl (by decide +kernel) ⟨Nat.le_of_ble_eq_true rfl, Nat.le_of_ble_eq_true rfl⟩) (pre_w hK hP hD hS hE hFc) rfl rfl hl.1 rfl (lv_room (Nat.le_of_ble_eq_true rfl)) dX5_rightSideFor_93 ⟨Nat.le_of_ble_eq_true rfl, Nat.le_of_ble_eq_true rfl⟩) hS (fun q _ h => hFc q h) hFc (fun r u t H locs ht hvm hw hB hz1 hk1 hS => ?_)
            rw [show r = q_16.1 from hw]
            have hP : va_P (DG G) clP3 (wC G a q_16.2.1 F U S D R q_16.2.2 N P) H := by rw [← ht]; exact hB.1
            have hD : va_D A (wC G a q_16.2.1 F U S D R q_16.2.2 N P) := hB.2.weaken (fun _ p _ h => hFc p.1 h)
            clear hB hFc hw hk1
            refine W.widen (k := 0) (n := 0) (Nat.le_of_ble_eq_true rfl) (Nat.le_of_ble_eq_true rfl) ?_
            simp only [Option.some.injEq, Prod.mk.injEq] at hm
            obtain ⟨rfl, rfl, rfl⟩ := hm
            refine W.widen (k := 0) (n := 0) (Nat.le_of_ble_eq_true rfl) (Nat.le_of_ble_eq_true rfl) ?_
            exact W.iret (v := q_16.1) hx hb hr (fun t ht hW => ⟨⟨q_16.1, (), rfl, rfl, ⟨by rw [ht]; exact hP, by rw [hAe]; exact hD⟩⟩, by rw [hAe]; exact hS.F ht⟩) (by rw [hAe]; exact hS.2.2) dX5_rightSideFor_96 hlocks
        · rw [if_neg c_12] at hm
          refine lv_aload_n hx hb dX5_rightSideFor_62 rfl (lv_at hl 0 rfl) ?_
          refine lv_aload_n hx hb dX5_rightSideFor_63 rfl (lv_at hl 1 rfl) ?_
          obtain ⟨q_17, hq_17, hm⟩ := bind_some hm
          have hFc := free_all hD hS hA
          refine va_callq (va_runV (As := [.ref (a.2.1 (Int32.toNatClampNeg v1))]) (rest := []) ⟨hx, hb, hml, hown, hts⟩ (k_X5_clauseBySplits l hfl G a T8 F U S D R M8 N P hlk v1 hv1 q_17.1 q_17.2 hq_17 H.size) (cwV 1 hts (gV wm1196 wm1198 ws_p25 wm10 wm1199) rfl rfl rfl (by decide +kernel) ⟨Nat.le_of_ble_eq_true rfl, Nat.le_of_ble_eq_true rfl⟩) (pre_v (pre_w hK hP hD hS hE hFc) (va_recv hK hP (ci := 5) (q0 := 31) rfl rfl)) rfl rfl hl.1 rfl (lv_room (Nat.le_of_ble_eq_true rfl)) dX5_rightSideFor_64 ⟨Nat.le_of_ble_eq_true rfl, Nat.le_of_ble_eq_true rfl⟩) hS (fun q _ h => hFc q h) hFc (fun r u t H locs ht hvm hw hB hz1 hk1 hS => ?_)
          rw [show r = rfG a q_17.1 from hw]
          have hP : va_P (DG G) clP3 (wC G a T8 F U S D R q_17.2 N P) H := by rw [← ht]; exact hB.1
          have hD : va_D A (wC G a T8 F U S D R q_17.2 N P) := hB.2.weaken (fun _ p _ h => hFc p.1 h)
          clear hB hFc hw hk1
          refine W.widen (k := 0) (n := 0) (Nat.le_of_ble_eq_true rfl) (Nat.le_of_ble_eq_true rfl) ?_
          by_cases c_18 : q_17.1 < 0
          · rw [if_pos c_18] at hm
            rw [show rfG a q_17.1 = none from if_pos c_18]
            refine W.eq (g2 := F0 m 67 ls [.null]) rfl ?_
            refine lv_goto (tgt := 75) hx hb dX5_rightSideFor_67 (by decide) ?_
            refine lv_astoreN (lv' := [(5, .null), (0, .ref (a.1 31)), (1, .ref (a.2.1 (Int32.toNatClampNeg v1))), (2, .int v2), (4, .int v4)]) hx hb dX5_rightSideFor_75 hl (by decide) rfl (fun ls hl => ?_)
            refine lv_aloadN hx hb dX5_rightSideFor_77 (lv_at hl 0 rfl) ?_
            refine lv_ifnonnullN hx hb dX5_rightSideFor_79 ?_
            refine lv_iconst (v := (-1)) hx hb dX5_rightSideFor_82 (by decide) ?_
            refine lv_goto (tgt := 96) hx hb dX5_rightSideFor_83 (by decide) ?_
            simp only [Option.some.injEq, Prod.mk.injEq] at hm
            obtain ⟨rfl, rfl, rfl⟩ := hm
            refine W.widen (k := 0) (n := 0) (Nat.le_of_ble_eq_true rfl) (Nat.le_of_ble_eq_true rfl) ?_
            exact W.iret (v := (-1)) hx hb hr (fun t ht hW => ⟨⟨(-1), (), rfl, rfl, ⟨by rw [ht]; exact hP, by rw [hAe]; exact hD⟩⟩, by rw [hAe]; exact hS.F ht⟩) (by rw [hAe]; exact hS.2.2) dX5_rightSideFor_96 hlocks
          · rw [if_neg c_18] at hm
            obtain ⟨g_19, hm⟩ := ite_some hm
            rw [show rfG a q_17.1 = some _ from if_neg c_18]
            refine W.eq (g2 := F0 m 67 ls [.ref (a.2.2.1 (Int32.toNatClampNeg q_17.1) 0)]) rfl ?_
            refine lv_goto (tgt := 75) hx hb dX5_rightSideFor_67 (by decide) ?_
            refine lv_astore (lv' := [(5, .ref (a.2.2.1 (Int32.toNatClampNeg q_17.1) 0)), (0, .ref (a.1 31)), (1, .ref (a.2.1 (Int32.toNatClampNeg v1))), (2, .int v2), (4, .int v4)]) hx hb dX5_rightSideFor_75 hl (by decide) rfl (fun ls hl => ?_)
            refine lv_aload hx hb dX5_rightSideFor_77 (lv_at hl 0 rfl) ?_
            refine lv_ifnonnull (tgt := 86) hx hb dX5_rightSideFor_79 (by decide) ?_
            refine lv_aload_n hx hb dX5_rightSideFor_86 rfl (lv_at hl 1 rfl) ?_
            refine lv_aload hx hb dX5_rightSideFor_87 (lv_at hl 0 rfl) ?_
            refine va_getN (D := DG G) (ci := 3) (v := .int (P.2.2.2.2.2.2.1 (Int32.toNatClampNeg q_17.1))) (C := RX3) (T := TX3) (N := 8) hx hb hts inW_X3 hown hK hP _ ((at_goalC (c := 0) (gix_lt g_19) (by decide)).trans rfl) rfl 5 (by decide) (va_Nw.use rfl (hE.1 _ nw926)) (fun _ h9 => h9) rfl dX5_rightSideFor_89 ?_
            refine lv_iconst (v := 0) hx hb dX5_rightSideFor_92 (by decide) ?_
            obtain ⟨q_20, hq_20, hm⟩ := bind_some hm
            have hFc := free_all hD hS hA
            refine va_calli (va_runS (As := [.ref (a.1 31), .int (P.2.2.2.2.2.2.1 (Int32.toNatClampNeg q_17.1)), .int 0]) (rest := []) ⟨hx, hb, hml, hown, hts⟩ (K_X5_withValues l hfl G a T8 F U S D R q_17.2 N P (P.2.2.2.2.2.2.1 (Int32.toNatClampNeg q_17.1)) 0  q_20.1 q_20.2.1 q_20.2.2 hq_20 H.size) (cwS 3 hts (gS wm1219 wm1220 wm10 wm1221) rfl rfl rfl (by decide +kernel) ⟨Nat.le_of_ble_eq_true rfl, Nat.le_of_ble_eq_true rfl⟩) (pre_w hK hP hD hS hE hFc) rfl rfl hl.1 rfl (lv_room (Nat.le_of_ble_eq_true rfl)) dX5_rightSideFor_93 ⟨Nat.le_of_ble_eq_true rfl, Nat.le_of_ble_eq_true rfl⟩) hS (fun q _ h => hFc q h) hFc (fun r u t H locs ht hvm hw hB hz1 hk1 hS => ?_)
            rw [show r = q_20.1 from hw]
            have hP : va_P (DG G) clP3 (wC G a q_20.2.1 F U S D R q_20.2.2 N P) H := by rw [← ht]; exact hB.1
            have hD : va_D A (wC G a q_20.2.1 F U S D R q_20.2.2 N P) := hB.2.weaken (fun _ p _ h => hFc p.1 h)
            clear hB hFc hw hk1
            refine W.widen (k := 0) (n := 0) (Nat.le_of_ble_eq_true rfl) (Nat.le_of_ble_eq_true rfl) ?_
            simp only [Option.some.injEq, Prod.mk.injEq] at hm
            obtain ⟨rfl, rfl, rfl⟩ := hm
            refine W.widen (k := 0) (n := 0) (Nat.le_of_ble_eq_true rfl) (Nat.le_of_ble_eq_true rfl) ?_
            exact W.iret (v := q_20.1) hx hb hr (fun t ht hW => ⟨⟨q_20.1, (), rfl, rfl, ⟨by rw [ht]; exact hP, by rw [hAe]; exact hD⟩⟩, by rw [hAe]; exact hS.F ht⟩) (by rw [hAe]; exact hS.2.2) dX5_rightSideFor_96 hlocks
      · rw [if_neg c_11] at hm
        refine lv_aload_n hx hb dX5_rightSideFor_22 rfl (lv_at hl 0 rfl) ?_
        refine va_get (D := DG G) (ci := 5) (v := .ref (a.1 34)) (C := RX5) (T := TX5) (N := 12) hx hb hts inW_X5 hown hK hP 31 rfl rfl 5 (by decide) (hts _ wm251) (fun _ h9 => h9) rfl dX5_rightSideFor_23 ?_
        refine lv_iload hx hb dX5_rightSideFor_26 (lv_at hl 4 rfl) ?_
        refine lv_aload_n hx hb dX5_rightSideFor_28 rfl (lv_at hl 0 rfl) ?_
        refine va_get (D := DG G) (ci := 5) (v := .ref (a.1 1)) (C := RX5) (T := TX5) (N := 12) hx hb hts inW_X5 hown hK hP 31 rfl rfl 0 (by decide) (hts _ wm246) (fun _ h9 => h9) rfl dX5_rightSideFor_29 ?_
        refine lv_iload hx hb dX5_rightSideFor_32 (lv_at hl 3 rfl) ?_
        obtain ⟨q_21, hq_21, hm⟩ := bind_some hm
        have hFc := free_all hD hS hA
        refine va_calli (va_runV (As := [.int v4]) (rest := [.int v5, .ref (a.1 34)]) ⟨hx, hb, hml, hown, hts⟩ (K_X9_secondOf l hfl G a T8 F U S D R M8 N P v4  q_21 hq_21 H.size) (cwV 1 hts (gV wm1169 wm460 wm461 wm2 wm462) rfl rfl rfl (by decide +kernel) ⟨Nat.le_of_ble_eq_true rfl, Nat.le_of_ble_eq_true rfl⟩) (pre_v (pre_w hK hP hD hS hE hFc) (va_recv hK hP (ci := 8) (q0 := 1) rfl rfl)) rfl rfl hl.1 rfl (lv_room (Nat.le_of_ble_eq_true rfl)) dX5_rightSideFor_34 ⟨Nat.le_of_ble_eq_true rfl, Nat.le_of_ble_eq_true rfl⟩) hS (fun q _ h => hFc q h) hFc (fun r u t H locs ht hvm hw hB hz1 hk1 hS => ?_)
        rw [show r = q_21 from hw]
        have hP : va_P (DG G) clP3 (wC G a T8 F U S D R M8 N P) H := by rw [← ht]; exact hB.1
        have hD : va_D A (wC G a T8 F U S D R M8 N P) := hB.2.weaken (fun _ p _ h => hFc p.1 h)
        clear hB hFc hw hk1
        refine W.widen (k := 0) (n := 0) (Nat.le_of_ble_eq_true rfl) (Nat.le_of_ble_eq_true rfl) ?_
        obtain ⟨b_22, hm⟩ := ite_some hm
        refine va_iast hx hb hK hP hD hS 34 0 rfl rfl (inb_vp b_22) dX5_rightSideFor_37 (fun H locs hP hD hS => ?_)
        have hP : va_P (DG G) clP3 (wC G a T8 F U S D R (M8.1, M8.2.1, (upd M8.2.2.1 (Int32.toNatClampNeg v5) q_21), M8.2.2.2.1, M8.2.2.2.2.1, M8.2.2.2.2.2.1, M8.2.2.2.2.2.2.1, M8.2.2.2.2.2.2.2.1, M8.2.2.2.2.2.2.2.2) N P) H := hP
        have hD : va_D A (wC G a T8 F U S D R (M8.1, M8.2.1, (upd M8.2.2.1 (Int32.toNatClampNeg v5) q_21), M8.2.2.2.1, M8.2.2.2.2.1, M8.2.2.2.2.2.1, M8.2.2.2.2.2.2.1, M8.2.2.2.2.2.2.2.1, M8.2.2.2.2.2.2.2.2) N P) := hD
        refine lv_aload_n hx hb dX5_rightSideFor_38 rfl (lv_at hl 0 rfl) ?_
        refine va_get (D := DG G) (ci := 5) (v := .ref (a.1 1)) (C := RX5) (T := TX5) (N := 12) hx hb hts inW_X5 hown hK hP 31 rfl rfl 0 (by decide) (hts _ wm246) (fun _ h9 => h9) rfl dX5_rightSideFor_39 ?_
        refine lv_iload hx hb dX5_rightSideFor_42 (lv_at hl 3 rfl) ?_
        obtain ⟨q_23, hq_23, hm⟩ := bind_some hm
        have hFc := free_all hD hS hA
        refine va_calli (va_runV (As := [.int v4]) (rest := []) ⟨hx, hb, hml, hown, hts⟩ (K_X9_firstOf l hfl G a T8 F U S D R (M8.1, M8.2.1, (upd M8.2.2.1 (Int32.toNatClampNeg v5) q_21), M8.2.2.2.1, M8.2.2.2.2.1, M8.2.2.2.2.2.1, M8.2.2.2.2.2.2.1, M8.2.2.2.2.2.2.2.1, M8.2.2.2.2.2.2.2.2) N P v4  q_23 hq_23 H.size) (cwV 1 hts (gV wm1174 wm431 wm432 wm2 wm433) rfl rfl rfl (by decide +kernel) ⟨Nat.le_of_ble_eq_true rfl, Nat.le_of_ble_eq_true rfl⟩) (pre_v (pre_w hK hP hD hS hE hFc) (va_recv hK hP (ci := 8) (q0 := 1) rfl rfl)) rfl rfl hl.1 rfl (lv_room (Nat.le_of_ble_eq_true rfl)) dX5_rightSideFor_44 ⟨Nat.le_of_ble_eq_true rfl, Nat.le_of_ble_eq_true rfl⟩) hS (fun q _ h => hFc q h) hFc (fun r u t H locs ht hvm hw hB hz1 hk1 hS => ?_)
        rw [show r = q_23 from hw]
        have hP : va_P (DG G) clP3 (wC G a T8 F U S D R (M8.1, M8.2.1, (upd M8.2.2.1 (Int32.toNatClampNeg v5) q_21), M8.2.2.2.1, M8.2.2.2.2.1, M8.2.2.2.2.2.1, M8.2.2.2.2.2.2.1, M8.2.2.2.2.2.2.2.1, M8.2.2.2.2.2.2.2.2) N P) H := by rw [← ht]; exact hB.1
        have hD : va_D A (wC G a T8 F U S D R (M8.1, M8.2.1, (upd M8.2.2.1 (Int32.toNatClampNeg v5) q_21), M8.2.2.2.1, M8.2.2.2.2.1, M8.2.2.2.2.2.1, M8.2.2.2.2.2.2.1, M8.2.2.2.2.2.2.2.1, M8.2.2.2.2.2.2.2.2) N P) := hB.2.weaken (fun _ p _ h => hFc p.1 h)
        clear hB hFc hw hk1
        refine W.widen (k := 0) (n := 0) (Nat.le_of_ble_eq_true rfl) (Nat.le_of_ble_eq_true rfl) ?_
        refine lv_istore (lv' := [(4, .int q_23), (0, .ref (a.1 31)), (1, .ref (a.2.1 (Int32.toNatClampNeg v1))), (2, .int v2), (5, .int v5)]) hx hb dX5_rightSideFor_47 hl (by decide) rfl (fun ls hl => ?_)
        refine lv_iinc (v := (v5 + (-1))) (lv' := [(5, .int (v5 + (-1))), (4, .int q_23), (0, .ref (a.1 31)), (1, .ref (a.2.1 (Int32.toNatClampNeg v1))), (2, .int v2)]) hx hb dX5_rightSideFor_49 hl (k := 4) rfl rfl (by decide) rfl (fun ls hl => ?_)
        refine lv_goto (tgt := 11) hx hb dX5_rightSideFor_52 (by decide) ?_
        refine W.widen (k := 0) (n := 0) (Nat.le_of_ble_eq_true rfl) (Nat.le_of_ble_eq_true rfl) ?_
        exact ih T8 (M8.1, M8.2.1, (upd M8.2.2.1 (Int32.toNatClampNeg v5) q_21), M8.2.2.2.1, M8.2.2.2.2.1, M8.2.2.2.2.2.1, M8.2.2.2.2.2.2.1, M8.2.2.2.2.2.2.2.1, M8.2.2.2.2.2.2.2.2) v1 v2 q_23 (v5 + (-1)) hv1 _ _ hP hD hS _ (lv_sub hl [2, 3, 4, 1, 0] rfl) hm
set_option maxHeartbeats 2000000 in
set_option maxRecDepth 100000 in
theorem k_X5_rightSideFor (l : Launch) (hfl : l.stackTraces = false) (G : GC) (a : AS) (T : TS) (F : FS) (U : US) (S : SS) (D : DS) (R : RS) (M : MS) (N : NS) (P : PS) (hlk : lkA a D.1.toNatClampNeg D.2.1.toNatClampNeg) (p1 : Int32) (p2 : Int32) (p3 : Int32) (hg_p1 : fix D p1 = true) (r9 : Int32) (T9 : TS) (M9 : MS) (hm : f_X5_rightSideFor T S D M P p1 p2 p3 = some (r9, T9, M9)) (sz : Nat) : Met l yX5_rightSideFor (Cond.code yX5_rightSideFor cX5_rightSideFor 6 (some .int) :: W0) ({ frames := 203, cells := 0, slots := 0, locals := 5266 }) (va_Pc [.ref (a.1 31), .ref (a.2.1 (Int32.toNatClampNeg p1)), .int p2, .int p3] (WD G (wC G a T F U S D R M N P) sz)) (va_Qi (fun (r : Int32) (_ : Unit) => r = r9) (fun _ t => PW G (va_A (wC G a T F U S D R M N P) sz) (wC G a T9 F U S D R M9 N P) t) (va_A (wC G a T F U S D R M N P) sz)) 0 0 (va_A (wC G a T F U S D R M N P) sz) := by
  rw [f_X5_rightSideFor] at hm
  refine Met.ofW (cc := cX5_rightSideFor) (maxL := 6) (ret := (some .int)) (by decide) rfl ?_
  intro p e s m args below meth c s₁ B hml hv
  obtain ⟨rfl, hsz, hP, hK, hD0, hE⟩ := hv
  have hx := B.exec
  have hb := B.bytes
  have hr := B.returns
  have hts := w0_tail B.pre
  have hown : s.vm.findClass RX5 = some m.cls := findClass_of_methodNamed B.named
  have hlocks := B.notSynchronized
  have hD := hD0.self (sz := sz)
  obtain ⟨A, hAe⟩ : ∃ A, (va_A (wC G a T F U S D R M N P) sz) = A := ⟨_, rfl⟩
  rw [hAe] at hD hE
  have hA : ∀ q : Nat, s.heap.size ≤ q → A q := fun q h => by rw [← hAe]; exact Or.inr (by rw [← hsz]; exact h)
  have hS : va_S A s.heap s.heap [] := va_S.rf
  obtain ⟨H, hHe⟩ : ∃ H : Heap, H = s.heap := ⟨_, rfl⟩
  have hP : va_P (DG G) clP3 (wC G a T F U S D R M N P) H := by rw [hHe]; exact hP
  have hS : va_S A s.heap H [] := by rw [hHe]; exact hS
  have hl := lv_entry ([.ref (a.1 31), .ref (a.2.1 (Int32.toNatClampNeg p1)), .int p2, .int p3]) (n := 6) (Nat.le_of_ble_eq_true rfl)
  rw [lg_entry_eq, ← hHe]
  generalize (lg_sl ([.ref (a.1 31), .ref (a.2.1 (Int32.toNatClampNeg p1)), .int p2, .int p3]) ++ List.replicate (6 - (lg_sl ([.ref (a.1 31), .ref (a.2.1 (Int32.toNatClampNeg p1)), .int p2, .int p3])).length) Slot.unset).toArray = ls at hl ⊢
  have hl : lv_has ls 6 [(0, .ref (a.1 31)), (1, .ref (a.2.1 (Int32.toNatClampNeg p1))), (2, .int p2), (3, .int p3)] := hl
  refine lv_iload_n hx hb dX5_rightSideFor_0 rfl (lv_at hl 3 rfl) ?_
  refine lv_istore (lv' := [(4, .int p3), (0, .ref (a.1 31)), (1, .ref (a.2.1 (Int32.toNatClampNeg p1))), (2, .int p2), (3, .int p3)]) hx hb dX5_rightSideFor_1 hl (by decide) rfl (fun ls hl => ?_)
  refine lv_aload_n hx hb dX5_rightSideFor_3 rfl (lv_at hl 2 rfl) ?_
  refine va_getN (D := DG G) (ci := 2) (v := .int (P.2.1 (Int32.toNatClampNeg p1))) (C := RX2) (T := TX2) (N := 3) hx hb hts inW_X2 hown hK hP _ ((at_funC (fix_lt hg_p1)).trans rfl) rfl 1 (by decide) (va_Nw.use rfl (hE.1 _ nw887)) (fun _ h9 => h9) rfl dX5_rightSideFor_4 ?_
  refine lv_iconst (v := 1) hx hb dX5_rightSideFor_7 (by decide) ?_
  refine lv_isub hx hb dX5_rightSideFor_8 ?_
  refine lv_istore (lv' := [(5, .int ((P.2.1 (Int32.toNatClampNeg p1)) - (1 : Int32))), (4, .int p3), (0, .ref (a.1 31)), (1, .ref (a.2.1 (Int32.toNatClampNeg p1))), (2, .int p2), (3, .int p3)]) hx hb dX5_rightSideFor_9 hl (by decide) rfl (fun ls hl => ?_)
  refine W.widen (k := 0) (n := 0) (Nat.le_of_ble_eq_true rfl) (Nat.le_of_ble_eq_true rfl) ?_
  exact kl_X5_rightSideFor_11 hfl hx hb hr hml hown hts hlocks hlk hAe hA hE hK r9 T9 M9 100000 T M p1 p2 p3 ((P.2.1 (Int32.toNatClampNeg p1)) - (1 : Int32)) hg_p1 _ _ hP hD hS _ (lv_sub hl [2, 3, 4, 1, 0] rfl) hm
def f_X5_applied (T : TS) (S : SS) (D : DS) (M : MS) (P : PS) (p1 : Int32) (p2 : Int32) : Option (Int32 × TS × MS) := (Option.bind (g_X9_kindOf T p1) (fun q_1 => (if q_1 = 6 then (Option.bind (g_X5_takeStep (M.1, M.2.1, M.2.2.1, M.2.2.2.1, M.2.2.2.2.1, M.2.2.2.2.2.1, M.2.2.2.2.2.2.1, 1, M.2.2.2.2.2.2.2.2)) (fun q_23 => (if q_23.1 = 0 then some ((-1), T, q_23.2) else (Option.bind (g_X9_secondOf T p1) (fun q_25 => (Option.bind (g_X6_put T q_25 p2 0) (fun q_26 => some (q_26.1, q_26.2, q_23.2)))))))) else (Option.bind (g_X9_pair T 7 p1 p2) (fun q_3 => (Option.bind (g_X9_headOf q_3.2 q_3.1) (fun q_4 => (Option.bind (g_X9_argumentsOf q_3.2 q_3.1) (fun q_5 => (Option.bind (g_X9_kindOf q_3.2 q_4) (fun q_6 => (if q_6 = 3 then (Option.bind (g_X9_firstOf q_3.2 q_4) (fun q_20 => (Option.bind (g_X7_partsOf S q_20) (fun q_21 => (if q_21 < q_5 then some ((-1), q_3.2, (M.1, M.2.1, M.2.2.1, M.2.2.2.1, M.2.2.2.2.1, M.2.2.2.2.2.1, M.2.2.2.2.2.2.1, 0, M.2.2.2.2.2.2.2.2)) else some (q_3.1, q_3.2, (M.1, M.2.1, M.2.2.1, M.2.2.2.1, M.2.2.2.2.1, M.2.2.2.2.2.1, M.2.2.2.2.2.2.1, 0, M.2.2.2.2.2.2.2.2))))))) else (Option.bind (g_X9_kindOf q_3.2 q_4) (fun q_8 => (if q_8 = 4 then (Option.bind (g_X9_firstOf q_3.2 q_4) (fun q_10 => (Option.bind (f_X0_function D q_10) (fun q_11 => (if q_11 < 0 then some ((-1), q_3.2, (M.1, M.2.1, M.2.2.1, M.2.2.2.1, M.2.2.2.2.1, M.2.2.2.2.2.1, M.2.2.2.2.2.2.1, 0, M.2.2.2.2.2.2.2.2)) else (if fix D q_11 = true then (if q_5 ≤ (P.2.1 (Int32.toNatClampNeg q_11)) then (if (P.2.1 (Int32.toNatClampNeg q_11)) ≤ q_5 then (Option.bind (g_X5_takeStep (M.1, M.2.1, M.2.2.1, M.2.2.2.1, M.2.2.2.2.1, M.2.2.2.2.2.1, M.2.2.2.2.2.2.1, 1, M.2.2.2.2.2.2.2.2)) (fun q_16 => (if q_16.1 = 0 then some ((-1), q_3.2, q_16.2) else (Option.bind (g_X9_firstOf q_3.2 q_4) (fun q_18 => (Option.bind (f_X5_rightSideFor q_3.2 S D q_16.2 P q_11 q_18 q_3.1) (fun q_19 => some (q_19.1, q_19.2.1, q_19.2.2)))))))) else some (q_3.1, q_3.2, (M.1, M.2.1, M.2.2.1, M.2.2.2.1, M.2.2.2.2.1, M.2.2.2.2.2.1, M.2.2.2.2.2.2.1, 0, M.2.2.2.2.2.2.2.2))) else some ((-1), q_3.2, (M.1, M.2.1, M.2.2.1, M.2.2.2.1, M.2.2.2.2.1, M.2.2.2.2.2.1, M.2.2.2.2.2.2.1, 0, M.2.2.2.2.2.2.2.2))) else none)))))) else some ((-1), q_3.2, (M.1, M.2.1, M.2.2.1, M.2.2.2.1, M.2.2.2.2.1, M.2.2.2.2.2.1, M.2.2.2.2.2.2.1, 0, M.2.2.2.2.2.2.2.2)))))))))))))))))
set_option maxHeartbeats 2000000 in
set_option maxRecDepth 100000 in
theorem k_X5_applied (l : Launch) (hfl : l.stackTraces = false) (G : GC) (a : AS) (T : TS) (F : FS) (U : US) (S : SS) (D : DS) (R : RS) (M : MS) (N : NS) (P : PS) (hlk : lkA a D.1.toNatClampNeg D.2.1.toNatClampNeg) (p1 : Int32) (p2 : Int32) (r9 : Int32) (T9 : TS) (M9 : MS) (hm : f_X5_applied T S D M P p1 p2 = some (r9, T9, M9)) (sz : Nat) : Met l yX5_applied (Cond.code yX5_applied cX5_applied 7 (some .int) :: W0) ({ frames := 404, cells := 0, slots := 0, locals := 10492 }) (va_Pc [.ref (a.1 31), .int p1, .int p2] (WD G (wC G a T F U S D R M N P) sz)) (va_Qi (fun (r : Int32) (_ : Unit) => r = r9) (fun _ t => PW G (va_A (wC G a T F U S D R M N P) sz) (wC G a T9 F U S D R M9 N P) t) (va_A (wC G a T F U S D R M N P) sz)) 0 0 (va_A (wC G a T F U S D R M N P) sz) := by
  rw [f_X5_applied] at hm
  refine Met.ofW (cc := cX5_applied) (maxL := 7) (ret := (some .int)) (by decide) rfl ?_
  intro p e s m args below meth c s₁ B hml hv
  obtain ⟨rfl, hsz, hP, hK, hD0, hE⟩ := hv
  have hx := B.exec
  have hb := B.bytes
  have hr := B.returns
  have hts := w0_tail B.pre
  have hown : s.vm.findClass RX5 = some m.cls := findClass_of_methodNamed B.named
  have hlocks := B.notSynchronized
  have hD := hD0.self (sz := sz)
  obtain ⟨A, hAe⟩ : ∃ A, (va_A (wC G a T F U S D R M N P) sz) = A := ⟨_, rfl⟩
  rw [hAe] at hD hE
  have hA : ∀ q : Nat, s.heap.size ≤ q → A q := fun q h => by rw [← hAe]; exact Or.inr (by rw [← hsz]; exact h)
  have hS : va_S A s.heap s.heap [] := va_S.rf
  obtain ⟨H, hHe⟩ : ∃ H : Heap, H = s.heap := ⟨_, rfl⟩
  have hP : va_P (DG G) clP3 (wC G a T F U S D R M N P) H := by rw [hHe]; exact hP
  have hS : va_S A s.heap H [] := by rw [hHe]; exact hS
  have hl := lv_entry ([.ref (a.1 31), .int p1, .int p2]) (n := 7) (Nat.le_of_ble_eq_true rfl)
  rw [lg_entry_eq, ← hHe]
  generalize (lg_sl ([.ref (a.1 31), .int p1, .int p2]) ++ List.replicate (7 - (lg_sl ([.ref (a.1 31), .int p1, .int p2])).length) Slot.unset).toArray = ls at hl ⊢
  have hl : lv_has ls 7 [(0, .ref (a.1 31)), (1, .int p1), (2, .int p2)] := hl
  refine lv_aload_n hx hb dX5_applied_0 rfl (lv_at hl 0 rfl) ?_
  refine lv_aload_n hx hb dX5_applied_1 rfl (lv_at hl 0 rfl) ?_
  refine va_get (D := DG G) (ci := 5) (v := .ref (a.1 1)) (C := RX5) (T := TX5) (N := 12) hx hb hts inW_X5 hown hK hP 31 rfl rfl 0 (by decide) (hts _ wm246) (fun _ h9 => h9) rfl dX5_applied_2 ?_
  refine lv_iload_n hx hb dX5_applied_5 rfl (lv_at hl 1 rfl) ?_
  obtain ⟨q_1, hq_1, hm⟩ := bind_some hm
  have hFc := free_all hD hS hA
  refine va_calli (va_runV (As := [.int p1]) (rest := [.ref (a.1 31)]) ⟨hx, hb, hml, hown, hts⟩ (K_X9_kindOf l hfl G a T F U S D R M N P p1  q_1 hq_1 H.size) (cwV 1 hts (gV wm1168 wm435 wm436 wm2 wm437) rfl rfl rfl (by decide +kernel) ⟨Nat.le_of_ble_eq_true rfl, Nat.le_of_ble_eq_true rfl⟩) (pre_v (pre_w hK hP hD hS hE hFc) (va_recv hK hP (ci := 8) (q0 := 1) rfl rfl)) rfl rfl hl.1 rfl (lv_room (Nat.le_of_ble_eq_true rfl)) dX5_applied_6 ⟨Nat.le_of_ble_eq_true rfl, Nat.le_of_ble_eq_true rfl⟩) hS (fun q _ h => hFc q h) hFc (fun r u t H locs ht hvm hw hB hz1 hk1 hS => ?_)
  rw [show r = q_1 from hw]
  have hP : va_P (DG G) clP3 (wC G a T F U S D R M N P) H := by rw [← ht]; exact hB.1
  have hD : va_D A (wC G a T F U S D R M N P) := hB.2.weaken (fun _ p _ h => hFc p.1 h)
  clear hB hFc hw hk1
  refine W.widen (k := 0) (n := 0) (Nat.le_of_ble_eq_true rfl) (Nat.le_of_ble_eq_true rfl) ?_
  refine lv_bipush (v := 6) hx hb dX5_applied_9 (by decide) ?_
  refine lv_icmp_ne (tgt := 18) hx hb dX5_applied_11 (by decide) (fun c_2 => ?_) (fun c_2 => ?_)
  · rw [if_neg c_2] at hm
    refine lv_iconst (v := 0) hx hb dX5_applied_18 (by decide) ?_
    refine va_put (D := DG G) (ci := 5) (v := .int 0) (ty := tyX5 10) (C := RX5) (T := TX5) (N := 12) hx hb hts inW_X5 tyX5 tyX5_ok nmX5 hown hK hP hD hS 31 rfl rfl 10 (by decide) (hts _ wm257) (fun _ h9 => h9) rfl (by decide +kernel) rfl rfl (Nat.le_of_ble_eq_true rfl) dX5_applied_19 (fun H locs hP hD hS => ?_)
    have hP : va_P (DG G) clP3 (wC G a T F U S D R (M.1, M.2.1, M.2.2.1, M.2.2.2.1, M.2.2.2.2.1, M.2.2.2.2.2.1, M.2.2.2.2.2.2.1, 0, M.2.2.2.2.2.2.2.2) N P) H := hP
    have hD : va_D A (wC G a T F U S D R (M.1, M.2.1, M.2.2.1, M.2.2.2.1, M.2.2.2.2.1, M.2.2.2.2.2.1, M.2.2.2.2.2.2.1, 0, M.2.2.2.2.2.2.2.2) N P) := hD
    refine lv_aload_n hx hb dX5_applied_22 rfl (lv_at hl 0 rfl) ?_
    refine va_get (D := DG G) (ci := 5) (v := .int 0) (C := RX5) (T := TX5) (N := 12) hx hb hts inW_X5 hown hK hP 31 rfl rfl 10 (by decide) (hts _ wm257) (fun _ h9 => h9) rfl dX5_applied_23 ?_
    refine lv_if_eq (tgt := 58) hx hb dX5_applied_26 (by decide) (fun _ => ?_) (fun c => absurd (by decide) c)
    refine lv_aload_n hx hb dX5_applied_58 rfl (lv_at hl 0 rfl) ?_
    refine va_get (D := DG G) (ci := 5) (v := .ref (a.1 1)) (C := RX5) (T := TX5) (N := 12) hx hb hts inW_X5 hown hK hP 31 rfl rfl 0 (by decide) (hts _ wm246) (fun _ h9 => h9) rfl dX5_applied_59 ?_
    refine lv_bipush (v := 7) hx hb dX5_applied_62 (by decide) ?_
    refine lv_iload_n hx hb dX5_applied_64 rfl (lv_at hl 1 rfl) ?_
    refine lv_iload_n hx hb dX5_applied_65 rfl (lv_at hl 2 rfl) ?_
    obtain ⟨q_3, hq_3, hm⟩ := bind_some hm
    have hFc := free_all hD hS hA
    refine va_calli (va_runV (As := [.int 7, .int p1, .int p2]) (rest := []) ⟨hx, hb, hml, hown, hts⟩ (K_X9_pair l hfl G a T F U S D R (M.1, M.2.1, M.2.2.1, M.2.2.2.1, M.2.2.2.2.1, M.2.2.2.2.2.1, M.2.2.2.2.2.2.1, 0, M.2.2.2.2.2.2.2.2) N P 7 p1 p2  q_3.1 q_3.2 hq_3 H.size) (cwV 3 hts (gV wm1184 wm464 wm465 wm2 wm466) rfl rfl rfl (by decide +kernel) ⟨Nat.le_of_ble_eq_true rfl, Nat.le_of_ble_eq_true rfl⟩) (pre_v (pre_w hK hP hD hS hE hFc) (va_recv hK hP (ci := 8) (q0 := 1) rfl rfl)) rfl rfl hl.1 rfl (lv_room (Nat.le_of_ble_eq_true rfl)) dX5_applied_66 ⟨Nat.le_of_ble_eq_true rfl, Nat.le_of_ble_eq_true rfl⟩) hS (fun q _ h => hFc q h) hFc (fun r u t H locs ht hvm hw hB hz1 hk1 hS => ?_)
    rw [show r = q_3.1 from hw]
    have hP : va_P (DG G) clP3 (wC G a q_3.2 F U S D R (M.1, M.2.1, M.2.2.1, M.2.2.2.1, M.2.2.2.2.1, M.2.2.2.2.2.1, M.2.2.2.2.2.2.1, 0, M.2.2.2.2.2.2.2.2) N P) H := by rw [← ht]; exact hB.1
    have hD : va_D A (wC G a q_3.2 F U S D R (M.1, M.2.1, M.2.2.1, M.2.2.2.1, M.2.2.2.2.1, M.2.2.2.2.2.1, M.2.2.2.2.2.2.1, 0, M.2.2.2.2.2.2.2.2) N P) := hB.2.weaken (fun _ p _ h => hFc p.1 h)
    clear hB hFc hw hk1
    refine W.widen (k := 0) (n := 0) (Nat.le_of_ble_eq_true rfl) (Nat.le_of_ble_eq_true rfl) ?_
    refine lv_istore_n (lv' := [(3, .int q_3.1), (0, .ref (a.1 31)), (1, .int p1), (2, .int p2)]) hx hb dX5_applied_69 rfl hl (by decide) rfl (fun ls hl => ?_)
    refine lv_aload_n hx hb dX5_applied_70 rfl (lv_at hl 1 rfl) ?_
    refine va_get (D := DG G) (ci := 5) (v := .ref (a.1 1)) (C := RX5) (T := TX5) (N := 12) hx hb hts inW_X5 hown hK hP 31 rfl rfl 0 (by decide) (hts _ wm246) (fun _ h9 => h9) rfl dX5_applied_71 ?_
    refine lv_iload_n hx hb dX5_applied_74 rfl (lv_at hl 0 rfl) ?_
    obtain ⟨q_4, hq_4, hm⟩ := bind_some hm
    have hFc := free_all hD hS hA
    refine va_calli (va_runV (As := [.int q_3.1]) (rest := []) ⟨hx, hb, hml, hown, hts⟩ (K_X9_headOf l hfl G a q_3.2 F U S D R (M.1, M.2.1, M.2.2.1, M.2.2.2.1, M.2.2.2.2.1, M.2.2.2.2.2.1, M.2.2.2.2.2.2.1, 0, M.2.2.2.2.2.2.2.2) N P q_3.1  q_4 hq_4 H.size) (cwV 1 hts (gV wm1185 wm1186 wm1187 wm2 wm1188) rfl rfl rfl (by decide +kernel) ⟨Nat.le_of_ble_eq_true rfl, Nat.le_of_ble_eq_true rfl⟩) (pre_v (pre_w hK hP hD hS hE hFc) (va_recv hK hP (ci := 8) (q0 := 1) rfl rfl)) rfl rfl hl.1 rfl (lv_room (Nat.le_of_ble_eq_true rfl)) dX5_applied_75 ⟨Nat.le_of_ble_eq_true rfl, Nat.le_of_ble_eq_true rfl⟩) hS (fun q _ h => hFc q h) hFc (fun r u t H locs ht hvm hw hB hz1 hk1 hS => ?_)
    rw [show r = q_4 from hw]
    have hP : va_P (DG G) clP3 (wC G a q_3.2 F U S D R (M.1, M.2.1, M.2.2.1, M.2.2.2.1, M.2.2.2.2.1, M.2.2.2.2.2.1, M.2.2.2.2.2.2.1, 0, M.2.2.2.2.2.2.2.2) N P) H := by rw [← ht]; exact hB.1
    have hD : va_D A (wC G a q_3.2 F U S D R (M.1, M.2.1, M.2.2.1, M.2.2.2.1, M.2.2.2.2.1, M.2.2.2.2.2.1, M.2.2.2.2.2.2.1, 0, M.2.2.2.2.2.2.2.2) N P) := hB.2.weaken (fun _ p _ h => hFc p.1 h)
    clear hB hFc hw hk1
    refine W.widen (k := 0) (n := 0) (Nat.le_of_ble_eq_true rfl) (Nat.le_of_ble_eq_true rfl) ?_
    refine lv_istore (lv' := [(4, .int q_4), (3, .int q_3.1), (0, .ref (a.1 31)), (1, .int p1), (2, .int p2)]) hx hb dX5_applied_78 hl (by decide) rfl (fun ls hl => ?_)
    refine lv_aload_n hx hb dX5_applied_80 rfl (lv_at hl 2 rfl) ?_
    refine va_get (D := DG G) (ci := 5) (v := .ref (a.1 1)) (C := RX5) (T := TX5) (N := 12) hx hb hts inW_X5 hown hK hP 31 rfl rfl 0 (by decide) (hts _ wm246) (fun _ h9 => h9) rfl dX5_applied_81 ?_
    refine lv_iload_n hx hb dX5_applied_84 rfl (lv_at hl 1 rfl) ?_
    obtain ⟨q_5, hq_5, hm⟩ := bind_some hm
    have hFc := free_all hD hS hA
    refine va_calli (va_runV (As := [.int q_3.1]) (rest := []) ⟨hx, hb, hml, hown, hts⟩ (K_X9_argumentsOf l hfl G a q_3.2 F U S D R (M.1, M.2.1, M.2.2.1, M.2.2.2.1, M.2.2.2.2.1, M.2.2.2.2.2.1, M.2.2.2.2.2.2.1, 0, M.2.2.2.2.2.2.2.2) N P q_3.1  q_5 hq_5 H.size) (cwV 1 hts (gV wm1189 wm1115 wm1116 wm2 wm1117) rfl rfl rfl (by decide +kernel) ⟨Nat.le_of_ble_eq_true rfl, Nat.le_of_ble_eq_true rfl⟩) (pre_v (pre_w hK hP hD hS hE hFc) (va_recv hK hP (ci := 8) (q0 := 1) rfl rfl)) rfl rfl hl.1 rfl (lv_room (Nat.le_of_ble_eq_true rfl)) dX5_applied_85 ⟨Nat.le_of_ble_eq_true rfl, Nat.le_of_ble_eq_true rfl⟩) hS (fun q _ h => hFc q h) hFc (fun r u t H locs ht hvm hw hB hz1 hk1 hS => ?_)
    rw [show r = q_5 from hw]
    have hP : va_P (DG G) clP3 (wC G a q_3.2 F U S D R (M.1, M.2.1, M.2.2.1, M.2.2.2.1, M.2.2.2.2.1, M.2.2.2.2.2.1, M.2.2.2.2.2.2.1, 0, M.2.2.2.2.2.2.2.2) N P) H := by rw [← ht]; exact hB.1
    have hD : va_D A (wC G a q_3.2 F U S D R (M.1, M.2.1, M.2.2.1, M.2.2.2.1, M.2.2.2.2.1, M.2.2.2.2.2.1, M.2.2.2.2.2.2.1, 0, M.2.2.2.2.2.2.2.2) N P) := hB.2.weaken (fun _ p _ h => hFc p.1 h)
    clear hB hFc hw hk1
    refine W.widen (k := 0) (n := 0) (Nat.le_of_ble_eq_true rfl) (Nat.le_of_ble_eq_true rfl) ?_
    refine lv_istore (lv' := [(5, .int q_5), (4, .int q_4), (3, .int q_3.1), (0, .ref (a.1 31)), (1, .int p1), (2, .int p2)]) hx hb dX5_applied_88 hl (by decide) rfl (fun ls hl => ?_)
    refine lv_aload_n hx hb dX5_applied_90 rfl (lv_at hl 3 rfl) ?_
    refine va_get (D := DG G) (ci := 5) (v := .ref (a.1 1)) (C := RX5) (T := TX5) (N := 12) hx hb hts inW_X5 hown hK hP 31 rfl rfl 0 (by decide) (hts _ wm246) (fun _ h9 => h9) rfl dX5_applied_91 ?_
    refine lv_iload hx hb dX5_applied_94 (lv_at hl 1 rfl) ?_
    obtain ⟨q_6, hq_6, hm⟩ := bind_some hm
    have hFc := free_all hD hS hA
    refine va_calli (va_runV (As := [.int q_4]) (rest := []) ⟨hx, hb, hml, hown, hts⟩ (K_X9_kindOf l hfl G a q_3.2 F U S D R (M.1, M.2.1, M.2.2.1, M.2.2.2.1, M.2.2.2.2.1, M.2.2.2.2.2.1, M.2.2.2.2.2.2.1, 0, M.2.2.2.2.2.2.2.2) N P q_4  q_6 hq_6 H.size) (cwV 1 hts (gV wm1168 wm435 wm436 wm2 wm437) rfl rfl rfl (by decide +kernel) ⟨Nat.le_of_ble_eq_true rfl, Nat.le_of_ble_eq_true rfl⟩) (pre_v (pre_w hK hP hD hS hE hFc) (va_recv hK hP (ci := 8) (q0 := 1) rfl rfl)) rfl rfl hl.1 rfl (lv_room (Nat.le_of_ble_eq_true rfl)) dX5_applied_96 ⟨Nat.le_of_ble_eq_true rfl, Nat.le_of_ble_eq_true rfl⟩) hS (fun q _ h => hFc q h) hFc (fun r u t H locs ht hvm hw hB hz1 hk1 hS => ?_)
    rw [show r = q_6 from hw]
    have hP : va_P (DG G) clP3 (wC G a q_3.2 F U S D R (M.1, M.2.1, M.2.2.1, M.2.2.2.1, M.2.2.2.2.1, M.2.2.2.2.2.1, M.2.2.2.2.2.2.1, 0, M.2.2.2.2.2.2.2.2) N P) H := by rw [← ht]; exact hB.1
    have hD : va_D A (wC G a q_3.2 F U S D R (M.1, M.2.1, M.2.2.1, M.2.2.2.1, M.2.2.2.2.1, M.2.2.2.2.2.1, M.2.2.2.2.2.2.1, 0, M.2.2.2.2.2.2.2.2) N P) := hB.2.weaken (fun _ p _ h => hFc p.1 h)
    clear hB hFc hw hk1
    refine W.widen (k := 0) (n := 0) (Nat.le_of_ble_eq_true rfl) (Nat.le_of_ble_eq_true rfl) ?_
    refine lv_iconst (v := 3) hx hb dX5_applied_99 (by decide) ?_
    refine lv_icmp_ne (tgt := 130) hx hb dX5_applied_100 (by decide) (fun c_7 => ?_) (fun c_7 => ?_)
    · rw [if_neg c_7] at hm
      refine lv_aload_n hx hb dX5_applied_130 rfl (lv_at hl 3 rfl) ?_
      refine va_get (D := DG G) (ci := 5) (v := .ref (a.1 1)) (C := RX5) (T := TX5) (N := 12) hx hb hts inW_X5 hown hK hP 31 rfl rfl 0 (by decide) (hts _ wm246) (fun _ h9 => h9) rfl dX5_applied_131 ?_
      refine lv_iload hx hb dX5_applied_134 (lv_at hl 1 rfl) ?_
      obtain ⟨q_8, hq_8, hm⟩ := bind_some hm
      have hFc := free_all hD hS hA
      refine va_calli (va_runV (As := [.int q_4]) (rest := []) ⟨hx, hb, hml, hown, hts⟩ (K_X9_kindOf l hfl G a q_3.2 F U S D R (M.1, M.2.1, M.2.2.1, M.2.2.2.1, M.2.2.2.2.1, M.2.2.2.2.2.1, M.2.2.2.2.2.2.1, 0, M.2.2.2.2.2.2.2.2) N P q_4  q_8 hq_8 H.size) (cwV 1 hts (gV wm1168 wm435 wm436 wm2 wm437) rfl rfl rfl (by decide +kernel) ⟨Nat.le_of_ble_eq_true rfl, Nat.le_of_ble_eq_true rfl⟩) (pre_v (pre_w hK hP hD hS hE hFc) (va_recv hK hP (ci := 8) (q0 := 1) rfl rfl)) rfl rfl hl.1 rfl (lv_room (Nat.le_of_ble_eq_true rfl)) dX5_applied_136 ⟨Nat.le_of_ble_eq_true rfl, Nat.le_of_ble_eq_true rfl⟩) hS (fun q _ h => hFc q h) hFc (fun r u t H locs ht hvm hw hB hz1 hk1 hS => ?_)
      rw [show r = q_8 from hw]
      have hP : va_P (DG G) clP3 (wC G a q_3.2 F U S D R (M.1, M.2.1, M.2.2.1, M.2.2.2.1, M.2.2.2.2.1, M.2.2.2.2.2.1, M.2.2.2.2.2.2.1, 0, M.2.2.2.2.2.2.2.2) N P) H := by rw [← ht]; exact hB.1
      have hD : va_D A (wC G a q_3.2 F U S D R (M.1, M.2.1, M.2.2.1, M.2.2.2.1, M.2.2.2.2.1, M.2.2.2.2.2.1, M.2.2.2.2.2.2.1, 0, M.2.2.2.2.2.2.2.2) N P) := hB.2.weaken (fun _ p _ h => hFc p.1 h)
      clear hB hFc hw hk1
      refine W.widen (k := 0) (n := 0) (Nat.le_of_ble_eq_true rfl) (Nat.le_of_ble_eq_true rfl) ?_
      refine lv_iconst (v := 4) hx hb dX5_applied_139 (by decide) ?_
      refine lv_icmp_ne (tgt := 162) hx hb dX5_applied_140 (by decide) (fun c_9 => ?_) (fun c_9 => ?_)
      · rw [if_neg c_9] at hm
        refine lv_null hx hb dX5_applied_162 ?_
        refine lv_astoreN (lv' := [(6, .null), (5, .int q_5), (4, .int q_4), (3, .int q_3.1), (0, .ref (a.1 31)), (1, .int p1), (2, .int p2)]) hx hb dX5_applied_163 hl (by decide) rfl (fun ls hl => ?_)
        refine lv_aloadN hx hb dX5_applied_165 (lv_at hl 0 rfl) ?_
        refine lv_ifnullN (tgt := 180) hx hb dX5_applied_167 (by decide) ?_
        refine lv_iconst (v := (-1)) hx hb dX5_applied_180 (by decide) ?_
        simp only [Option.some.injEq, Prod.mk.injEq] at hm
        obtain ⟨rfl, rfl, rfl⟩ := hm
        refine W.widen (k := 0) (n := 0) (Nat.le_of_ble_eq_true rfl) (Nat.le_of_ble_eq_true rfl) ?_
        exact W.iret (v := (-1)) hx hb hr (fun t ht hW => ⟨⟨(-1), (), rfl, rfl, ⟨by rw [ht]; exact hP, by rw [hAe]; exact hD⟩⟩, by rw [hAe]; exact hS.F ht⟩) (by rw [hAe]; exact hS.2.2) dX5_applied_181 hlocks
      · rw [if_pos c_9] at hm
        refine lv_aload_n hx hb dX5_applied_143 rfl (lv_at hl 3 rfl) ?_
        refine va_get (D := DG G) (ci := 5) (v := .ref (a.1 21)) (C := RX5) (T := TX5) (N := 12) hx hb hts inW_X5 hown hK hP 31 rfl rfl 2 (by decide) (hts _ wm248) (fun _ h9 => h9) rfl dX5_applied_144 ?_
        refine lv_aload_n hx hb dX5_applied_147 rfl (lv_at hl 3 rfl) ?_
        refine va_get (D := DG G) (ci := 5) (v := .ref (a.1 1)) (C := RX5) (T := TX5) (N := 12) hx hb hts inW_X5 hown hK hP 31 rfl rfl 0 (by decide) (hts _ wm246) (fun _ h9 => h9) rfl dX5_applied_148 ?_
        refine lv_iload hx hb dX5_applied_151 (lv_at hl 1 rfl) ?_
        obtain ⟨q_10, hq_10, hm⟩ := bind_some hm
        have hFc := free_all hD hS hA
        refine va_calli (va_runV (As := [.int q_4]) (rest := [.ref (a.1 21)]) ⟨hx, hb, hml, hown, hts⟩ (K_X9_firstOf l hfl G a q_3.2 F U S D R (M.1, M.2.1, M.2.2.1, M.2.2.2.1, M.2.2.2.2.1, M.2.2.2.2.2.1, M.2.2.2.2.2.2.1, 0, M.2.2.2.2.2.2.2.2) N P q_4  q_10 hq_10 H.size) (cwV 1 hts (gV wm1174 wm431 wm432 wm2 wm433) rfl rfl rfl (by decide +kernel) ⟨Nat.le_of_ble_eq_true rfl, Nat.le_of_ble_eq_true rfl⟩) (pre_v (pre_w hK hP hD hS hE hFc) (va_recv hK hP (ci := 8) (q0 := 1) rfl rfl)) rfl rfl hl.1 rfl (lv_room (Nat.le_of_ble_eq_true rfl)) dX5_applied_153 ⟨Nat.le_of_ble_eq_true rfl, Nat.le_of_ble_eq_true rfl⟩) hS (fun q _ h => hFc q h) hFc (fun r u t H locs ht hvm hw hB hz1 hk1 hS => ?_)
        rw [show r = q_10 from hw]
        have hP : va_P (DG G) clP3 (wC G a q_3.2 F U S D R (M.1, M.2.1, M.2.2.1, M.2.2.2.1, M.2.2.2.2.1, M.2.2.2.2.2.1, M.2.2.2.2.2.2.1, 0, M.2.2.2.2.2.2.2.2) N P) H := by rw [← ht]; exact hB.1
        have hD : va_D A (wC G a q_3.2 F U S D R (M.1, M.2.1, M.2.2.1, M.2.2.2.1, M.2.2.2.2.1, M.2.2.2.2.2.1, M.2.2.2.2.2.2.1, 0, M.2.2.2.2.2.2.2.2) N P) := hB.2.weaken (fun _ p _ h => hFc p.1 h)
        clear hB hFc hw hk1
        refine W.widen (k := 0) (n := 0) (Nat.le_of_ble_eq_true rfl) (Nat.le_of_ble_eq_true rfl) ?_
        obtain ⟨q_11, hq_11, hm⟩ := bind_some hm
        have hFc := free_all hD hS hA
        refine va_callq (va_runV (As := [.int q_10]) (rest := []) ⟨hx, hb, hml, hown, hts⟩ (k_X0_function l hfl G a q_3.2 F U S D R (M.1, M.2.1, M.2.2.1, M.2.2.2.1, M.2.2.2.2.1, M.2.2.2.2.2.1, M.2.2.2.2.2.2.1, 0, M.2.2.2.2.2.2.2.2) N P hlk q_10  q_11 hq_11 H.size) (cwV 1 hts (gV wm1191 wm488 wm489 wm5 wm490) rfl rfl rfl (by decide +kernel) ⟨Nat.le_of_ble_eq_true rfl, Nat.le_of_ble_eq_true rfl⟩) (pre_v (pre_w hK hP hD hS hE hFc) (va_recv hK hP (ci := 0) (q0 := 21) rfl rfl)) rfl rfl hl.1 rfl (lv_room (Nat.le_of_ble_eq_true rfl)) dX5_applied_156 ⟨Nat.le_of_ble_eq_true rfl, Nat.le_of_ble_eq_true rfl⟩) hS (fun q _ h => hFc q h) hFc (fun r u t H locs ht hvm hw hB hz1 hk1 hS => ?_)
        rw [show r = rfF a q_11 from hw]
        have hP : va_P (DG G) clP3 (wC G a q_3.2 F U S D R (M.1, M.2.1, M.2.2.1, M.2.2.2.1, M.2.2.2.2.1, M.2.2.2.2.2.1, M.2.2.2.2.2.2.1, 0, M.2.2.2.2.2.2.2.2) N P) H := by rw [← ht]; exact hB.1
        have hD : va_D A (wC G a q_3.2 F U S D R (M.1, M.2.1, M.2.2.1, M.2.2.2.1, M.2.2.2.2.1, M.2.2.2.2.2.1, M.2.2.2.2.2.2.1, 0, M.2.2.2.2.2.2.2.2) N P) := hB.2.weaken (fun _ p _ h => hFc p.1 h)
        clear hB hFc hw hk1
        refine W.widen (k := 0) (n := 0) (Nat.le_of_ble_eq_true rfl) (Nat.le_of_ble_eq_true rfl) ?_
        by_cases c_12 : q_11 < 0
        · rw [if_pos c_12] at hm
          rw [show rfF a q_11 = none from if_pos c_12]
          refine W.eq (g2 := F0 m 159 ls [.null]) rfl ?_
          refine lv_goto (tgt := 163) hx hb dX5_applied_159 (by decide) ?_
          refine lv_astoreN (lv' := [(6, .null), (5, .int q_5), (4, .int q_4), (3, .int q_3.1), (0, .ref (a.1 31)), (1, .int p1), (2, .int p2)]) hx hb dX5_applied_163 hl (by decide) rfl (fun ls hl => ?_)
          refine lv_aloadN hx hb dX5_applied_165 (lv_at hl 0 rfl) ?_
          refine lv_ifnullN (tgt := 180) hx hb dX5_applied_167 (by decide) ?_
          refine lv_iconst (v := (-1)) hx hb dX5_applied_180 (by decide) ?_
          simp only [Option.some.injEq, Prod.mk.injEq] at hm
          obtain ⟨rfl, rfl, rfl⟩ := hm
          refine W.widen (k := 0) (n := 0) (Nat.le_of_ble_eq_true rfl) (Nat.le_of_ble_eq_true rfl) ?_
          exact W.iret (v := (-1)) hx hb hr (fun t ht hW => ⟨⟨(-1), (), rfl, rfl, ⟨by rw [ht]; exact hP, by rw [hAe]; exact hD⟩⟩, by rw [hAe]; exact hS.F ht⟩) (by rw [hAe]; exact hS.2.2) dX5_applied_181 hlocks
        · rw [if_neg c_12] at hm
          obtain ⟨g_13, hm⟩ := ite_some hm
          rw [show rfF a q_11 = some _ from if_neg c_12]
          refine W.eq (g2 := F0 m 159 ls [.ref (a.2.1 (Int32.toNatClampNeg q_11))]) rfl ?_
          refine lv_goto (tgt := 163) hx hb dX5_applied_159 (by decide) ?_
          refine lv_astore (lv' := [(6, .ref (a.2.1 (Int32.toNatClampNeg q_11))), (5, .int q_5), (4, .int q_4), (3, .int q_3.1), (0, .ref (a.1 31)), (1, .int p1), (2, .int p2)]) hx hb dX5_applied_163 hl (by decide) rfl (fun ls hl => ?_)
          refine lv_aload hx hb dX5_applied_165 (lv_at hl 0 rfl) ?_
          refine lv_ifnull hx hb dX5_applied_167 ?_
          refine lv_iload hx hb dX5_applied_170 (lv_at hl 1 rfl) ?_
          refine lv_aload hx hb dX5_applied_172 (lv_at hl 0 rfl) ?_
          refine va_getN (D := DG G) (ci := 2) (v := .int (P.2.1 (Int32.toNatClampNeg q_11))) (C := RX2) (T := TX2) (N := 3) hx hb hts inW_X2 hown hK hP _ ((at_funC (fix_lt g_13)).trans rfl) rfl 1 (by decide) (va_Nw.use rfl (hE.1 _ nw887)) (fun _ h9 => h9) rfl dX5_applied_174 ?_
          refine lv_icmp_le (tgt := 182) hx hb dX5_applied_177 (by decide) (fun c_14 => ?_) (fun c_14 => ?_)
          · rw [if_pos c_14] at hm
            refine lv_iload hx hb dX5_applied_182 (lv_at hl 1 rfl) ?_
            refine lv_aload hx hb dX5_applied_184 (lv_at hl 0 rfl) ?_
            refine va_getN (D := DG G) (ci := 2) (v := .int (P.2.1 (Int32.toNatClampNeg q_11))) (C := RX2) (T := TX2) (N := 3) hx hb hts inW_X2 hown hK hP _ ((at_funC (fix_lt g_13)).trans rfl) rfl 1 (by decide) (va_Nw.use rfl (hE.1 _ nw887)) (fun _ h9 => h9) rfl dX5_applied_186 ?_
            refine lv_icmp_ge (tgt := 194) hx hb dX5_applied_189 (by decide) (fun c_15 => ?_) (fun c_15 => ?_)
            · rw [if_pos c_15] at hm
              refine lv_aload_n hx hb dX5_applied_194 rfl (lv_at hl 4 rfl) ?_
              refine lv_iconst (v := 1) hx hb dX5_applied_195 (by decide) ?_
              refine va_put (D := DG G) (ci := 5) (v := .int 1) (ty := tyX5 10) (C := RX5) (T := TX5) (N := 12) hx hb hts inW_X5 tyX5 tyX5_ok nmX5 hown hK hP hD hS 31 rfl rfl 10 (by decide) (hts _ wm257) (fun _ h9 => h9) rfl (by decide +kernel) rfl rfl (Nat.le_of_ble_eq_true rfl) dX5_applied_196 (fun H locs hP hD hS => ?_)
              have hP : va_P (DG G) clP3 (wC G a q_3.2 F U S D R (M.1, M.2.1, M.2.2.1, M.2.2.2.1, M.2.2.2.2.1, M.2.2.2.2.2.1, M.2.2.2.2.2.2.1, 1, M.2.2.2.2.2.2.2.2) N P) H := hP
              have hD : va_D A (wC G a q_3.2 F U S D R (M.1, M.2.1, M.2.2.1, M.2.2.2.1, M.2.2.2.2.1, M.2.2.2.2.2.1, M.2.2.2.2.2.2.1, 1, M.2.2.2.2.2.2.2.2) N P) := hD
              refine lv_aload_n hx hb dX5_applied_199 rfl (lv_at hl 4 rfl) ?_
              obtain ⟨q_16, hq_16, hm⟩ := bind_some hm
              have hFc := free_all hD hS hA
              refine va_calli (va_runV (As := []) (rest := []) ⟨hx, hb, hml, hown, hts⟩ (K_X5_takeStep l hfl G a q_3.2 F U S D R (M.1, M.2.1, M.2.2.1, M.2.2.2.1, M.2.2.2.2.1, M.2.2.2.2.2.1, M.2.2.2.2.2.2.1, 1, M.2.2.2.2.2.2.2.2) N P   q_16.1 q_16.2 hq_16 H.size) (cwV 0 hts (gV wm1179 wm1181 ws_p23 wm10 wm1182) rfl rfl rfl (by decide +kernel) ⟨Nat.le_of_ble_eq_true rfl, Nat.le_of_ble_eq_true rfl⟩) (pre_v (pre_w hK hP hD hS hE hFc) (va_recv hK hP (ci := 5) (q0 := 31) rfl rfl)) rfl rfl hl.1 rfl (lv_room (Nat.le_of_ble_eq_true rfl)) dX5_applied_200 ⟨Nat.le_of_ble_eq_true rfl, Nat.le_of_ble_eq_true rfl⟩) hS (fun q _ h => hFc q h) hFc (fun r u t H locs ht hvm hw hB hz1 hk1 hS => ?_)
              rw [show r = q_16.1 from hw]
              have hP : va_P (DG G) clP3 (wC G a q_3.2 F U S D R q_16.2 N P) H := by rw [← ht]; exact hB.1
              have hD : va_D A (wC G a q_3.2 F U S D R q_16.2 N P) := hB.2.weaken (fun _ p _ h => hFc p.1 h)
              clear hB hFc hw hk1
              refine W.widen (k := 0) (n := 0) (Nat.le_of_ble_eq_true rfl) (Nat.le_of_ble_eq_true rfl) ?_
              refine lv_if_eq (tgt := 225) hx hb dX5_applied_203 (by decide) (fun c_17 => ?_) (fun c_17 => ?_)
              · rw [if_pos c_17] at hm
                refine lv_iconst (v := (-1)) hx hb dX5_applied_225 (by decide) ?_
                simp only [Option.some.injEq, Prod.mk.injEq] at hm
                obtain ⟨rfl, rfl, rfl⟩ := hm
                refine W.widen (k := 0) (n := 0) (Nat.le_of_ble_eq_true rfl) (Nat.le_of_ble_eq_true rfl) ?_
                exact W.iret (v := (-1)) hx hb hr (fun t ht hW => ⟨⟨(-1), (), rfl, rfl, ⟨by rw [ht]; exact hP, by rw [hAe]; exact hD⟩⟩, by rw [hAe]; exact hS.F ht⟩) (by rw [hAe]; exact hS.2.2) dX5_applied_226 hlocks
              · rw [if_neg c_17] at hm
                refine lv_aload_n hx hb dX5_applied_206 rfl (lv_at hl 4 rfl) ?_
                refine lv_aload hx hb dX5_applied_207 (lv_at hl 0 rfl) ?_
                refine lv_aload_n hx hb dX5_applied_209 rfl (lv_at hl 4 rfl) ?_
                refine va_get (D := DG G) (ci := 5) (v := .ref (a.1 1)) (C := RX5) (T := TX5) (N := 12) hx hb hts inW_X5 hown hK hP 31 rfl rfl 0 (by decide) (hts _ wm246) (fun _ h9 => h9) rfl dX5_applied_210 ?_
                refine lv_iload hx hb dX5_applied_213 (lv_at hl 2 rfl) ?_
                obtain ⟨q_18, hq_18, hm⟩ := bind_some hm
                have hFc := free_all hD hS hA
                refine va_calli (va_runV (As := [.int q_4]) (rest := [.ref (a.2.1 (Int32.toNatClampNeg q_11)), .ref (a.1 31)]) ⟨hx, hb, hml, hown, hts⟩ (K_X9_firstOf l hfl G a q_3.2 F U S D R q_16.2 N P q_4  q_18 hq_18 H.size) (cwV 1 hts (gV wm1174 wm431 wm432 wm2 wm433) rfl rfl rfl (by decide +kernel) ⟨Nat.le_of_ble_eq_true rfl, Nat.le_of_ble_eq_true rfl⟩) (pre_v (pre_w hK hP hD hS hE hFc) (va_recv hK hP (ci := 8) (q0 := 1) rfl rfl)) rfl rfl hl.1 rfl (lv_room (Nat.le_of_ble_eq_true rfl)) dX5_applied_215 ⟨Nat.le_of_ble_eq_true rfl, Nat.le_of_ble_eq_true rfl⟩) hS (fun q _ h => hFc q h) hFc (fun r u t H locs ht hvm hw hB hz1 hk1 hS => ?_)
                rw [show r = q_18 from hw]
                have hP : va_P (DG G) clP3 (wC G a q_3.2 F U S D R q_16.2 N P) H := by rw [← ht]; exact hB.1
                have hD : va_D A (wC G a q_3.2 F U S D R q_16.2 N P) := hB.2.weaken (fun _ p _ h => hFc p.1 h)
                clear hB hFc hw hk1
                refine W.widen (k := 0) (n := 0) (Nat.le_of_ble_eq_true rfl) (Nat.le_of_ble_eq_true rfl) ?_
                refine lv_iload_n hx hb dX5_applied_218 rfl (lv_at hl 3 rfl) ?_
                obtain ⟨q_19, hq_19, hm⟩ := bind_some hm
                have hFc := free_all hD hS hA
                refine va_calli (va_runV (As := [.ref (a.2.1 (Int32.toNatClampNeg q_11)), .int q_18, .int q_3.1]) (rest := []) ⟨hx, hb, hml, hown, hts⟩ (k_X5_rightSideFor l hfl G a q_3.2 F U S D R q_16.2 N P hlk q_11 q_18 q_3.1 g_13 q_19.1 q_19.2.1 q_19.2.2 hq_19 H.size) (cwV 3 hts (gV wm1192 wm1194 ws_p24 wm10 wm1195) rfl rfl rfl (by decide +kernel) ⟨Nat.le_of_ble_eq_true rfl, Nat.le_of_ble_eq_true rfl⟩) (pre_v (pre_w hK hP hD hS hE hFc) (va_recv hK hP (ci := 5) (q0 := 31) rfl rfl)) rfl rfl hl.1 rfl (lv_room (Nat.le_of_ble_eq_true rfl)) dX5_applied_219 ⟨Nat.le_of_ble_eq_true rfl, Nat.le_of_ble_eq_true rfl⟩) hS (fun q _ h => hFc q h) hFc (fun r u t H locs ht hvm hw hB hz1 hk1 hS => ?_)
                rw [show r = q_19.1 from hw]
                have hP : va_P (DG G) clP3 (wC G a q_19.2.1 F U S D R q_19.2.2 N P) H := by rw [← ht]; exact hB.1
                have hD : va_D A (wC G a q_19.2.1 F U S D R q_19.2.2 N P) := hB.2.weaken (fun _ p _ h => hFc p.1 h)
                clear hB hFc hw hk1
                refine W.widen (k := 0) (n := 0) (Nat.le_of_ble_eq_true rfl) (Nat.le_of_ble_eq_true rfl) ?_
                refine lv_goto (tgt := 226) hx hb dX5_applied_222 (by decide) ?_
                simp only [Option.some.injEq, Prod.mk.injEq] at hm
                obtain ⟨rfl, rfl, rfl⟩ := hm
                refine W.widen (k := 0) (n := 0) (Nat.le_of_ble_eq_true rfl) (Nat.le_of_ble_eq_true rfl) ?_
                exact W.iret (v := q_19.1) hx hb hr (fun t ht hW => ⟨⟨q_19.1, (), rfl, rfl, ⟨by rw [ht]; exact hP, by rw [hAe]; exact hD⟩⟩, by rw [hAe]; exact hS.F ht⟩) (by rw [hAe]; exact hS.2.2) dX5_applied_226 hlocks
            · rw [if_neg c_15] at hm
              refine lv_iload_n hx hb dX5_applied_192 rfl (lv_at hl 3 rfl) ?_
              simp only [Option.some.injEq, Prod.mk.injEq] at hm
              obtain ⟨rfl, rfl, rfl⟩ := hm
              refine W.widen (k := 0) (n := 0) (Nat.le_of_ble_eq_true rfl) (Nat.le_of_ble_eq_true rfl) ?_
              exact W.iret (v := q_3.1) hx hb hr (fun t ht hW => ⟨⟨q_3.1, (), rfl, rfl, ⟨by rw [ht]; exact hP, by rw [hAe]; exact hD⟩⟩, by rw [hAe]; exact hS.F ht⟩) (by rw [hAe]; exact hS.2.2) dX5_applied_193 hlocks
          · rw [if_neg c_14] at hm
            refine lv_iconst (v := (-1)) hx hb dX5_applied_180 (by decide) ?_
            simp only [Option.some.injEq, Prod.mk.injEq] at hm
            obtain ⟨rfl, rfl, rfl⟩ := hm
            refine W.widen (k := 0) (n := 0) (Nat.le_of_ble_eq_true rfl) (Nat.le_of_ble_eq_true rfl) ?_
            exact W.iret (v := (-1)) hx hb hr (fun t ht hW => ⟨⟨(-1), (), rfl, rfl, ⟨by rw [ht]; exact hP, by rw [hAe]; exact hD⟩⟩, by rw [hAe]; exact hS.F ht⟩) (by rw [hAe]; exact hS.2.2) dX5_applied_181 hlocks
    · rw [if_pos c_7] at hm
      refine lv_iload hx hb dX5_applied_103 (lv_at hl 0 rfl) ?_
      refine lv_aload_n hx hb dX5_applied_105 rfl (lv_at hl 3 rfl) ?_
      refine va_get (D := DG G) (ci := 5) (v := .ref (a.1 13)) (C := RX5) (T := TX5) (N := 12) hx hb hts inW_X5 hown hK hP 31 rfl rfl 1 (by decide) (hts _ wm247) (fun _ h9 => h9) rfl dX5_applied_106 ?_
      refine lv_aload_n hx hb dX5_applied_109 rfl (lv_at hl 3 rfl) ?_
      refine va_get (D := DG G) (ci := 5) (v := .ref (a.1 1)) (C := RX5) (T := TX5) (N := 12) hx hb hts inW_X5 hown hK hP 31 rfl rfl 0 (by decide) (hts _ wm246) (fun _ h9 => h9) rfl dX5_applied_110 ?_
      refine lv_iload hx hb dX5_applied_113 (lv_at hl 1 rfl) ?_
      obtain ⟨q_20, hq_20, hm⟩ := bind_some hm
      have hFc := free_all hD hS hA
      refine va_calli (va_runV (As := [.int q_4]) (rest := [.ref (a.1 13), .int q_5]) ⟨hx, hb, hml, hown, hts⟩ (K_X9_firstOf l hfl G a q_3.2 F U S D R (M.1, M.2.1, M.2.2.1, M.2.2.2.1, M.2.2.2.2.1, M.2.2.2.2.2.1, M.2.2.2.2.2.2.1, 0, M.2.2.2.2.2.2.2.2) N P q_4  q_20 hq_20 H.size) (cwV 1 hts (gV wm1174 wm431 wm432 wm2 wm433) rfl rfl rfl (by decide +kernel) ⟨Nat.le_of_ble_eq_true rfl, Nat.le_of_ble_eq_true rfl⟩) (pre_v (pre_w hK hP hD hS hE hFc) (va_recv hK hP (ci := 8) (q0 := 1) rfl rfl)) rfl rfl hl.1 rfl (lv_room (Nat.le_of_ble_eq_true rfl)) dX5_applied_115 ⟨Nat.le_of_ble_eq_true rfl, Nat.le_of_ble_eq_true rfl⟩) hS (fun q _ h => hFc q h) hFc (fun r u t H locs ht hvm hw hB hz1 hk1 hS => ?_)
      rw [show r = q_20 from hw]
      have hP : va_P (DG G) clP3 (wC G a q_3.2 F U S D R (M.1, M.2.1, M.2.2.1, M.2.2.2.1, M.2.2.2.2.1, M.2.2.2.2.2.1, M.2.2.2.2.2.2.1, 0, M.2.2.2.2.2.2.2.2) N P) H := by rw [← ht]; exact hB.1
      have hD : va_D A (wC G a q_3.2 F U S D R (M.1, M.2.1, M.2.2.1, M.2.2.2.1, M.2.2.2.2.1, M.2.2.2.2.2.1, M.2.2.2.2.2.2.1, 0, M.2.2.2.2.2.2.2.2) N P) := hB.2.weaken (fun _ p _ h => hFc p.1 h)
      clear hB hFc hw hk1
      refine W.widen (k := 0) (n := 0) (Nat.le_of_ble_eq_true rfl) (Nat.le_of_ble_eq_true rfl) ?_
      obtain ⟨q_21, hq_21, hm⟩ := bind_some hm
      have hFc := free_all hD hS hA
      refine va_calli (va_runV (As := [.int q_20]) (rest := [.int q_5]) ⟨hx, hb, hml, hown, hts⟩ (K_X7_partsOf l hfl G a q_3.2 F U S D R (M.1, M.2.1, M.2.2.1, M.2.2.2.1, M.2.2.2.2.1, M.2.2.2.2.2.1, M.2.2.2.2.2.2.1, 0, M.2.2.2.2.2.2.2.2) N P q_20  q_21 hq_21 H.size) (cwV 1 hts (gV wm1190 wm975 wm976 wm4 wm977) rfl rfl rfl (by decide +kernel) ⟨Nat.le_of_ble_eq_true rfl, Nat.le_of_ble_eq_true rfl⟩) (pre_v (pre_w hK hP hD hS hE hFc) (va_recv hK hP (ci := 6) (q0 := 13) rfl rfl)) rfl rfl hl.1 rfl (lv_room (Nat.le_of_ble_eq_true rfl)) dX5_applied_118 ⟨Nat.le_of_ble_eq_true rfl, Nat.le_of_ble_eq_true rfl⟩) hS (fun q _ h => hFc q h) hFc (fun r u t H locs ht hvm hw hB hz1 hk1 hS => ?_)
      rw [show r = q_21 from hw]
      have hP : va_P (DG G) clP3 (wC G a q_3.2 F U S D R (M.1, M.2.1, M.2.2.1, M.2.2.2.1, M.2.2.2.2.1, M.2.2.2.2.2.1, M.2.2.2.2.2.2.1, 0, M.2.2.2.2.2.2.2.2) N P) H := by rw [← ht]; exact hB.1
      have hD : va_D A (wC G a q_3.2 F U S D R (M.1, M.2.1, M.2.2.1, M.2.2.2.1, M.2.2.2.2.1, M.2.2.2.2.2.1, M.2.2.2.2.2.2.1, 0, M.2.2.2.2.2.2.2.2) N P) := hB.2.weaken (fun _ p _ h => hFc p.1 h)
      clear hB hFc hw hk1
      refine W.widen (k := 0) (n := 0) (Nat.le_of_ble_eq_true rfl) (Nat.le_of_ble_eq_true rfl) ?_
      refine lv_icmp_gt (tgt := 128) hx hb dX5_applied_121 (by decide) (fun c_22 => ?_) (fun c_22 => ?_)
      · rw [if_pos c_22] at hm
        refine lv_iconst (v := (-1)) hx hb dX5_applied_128 (by decide) ?_
        simp only [Option.some.injEq, Prod.mk.injEq] at hm
        obtain ⟨rfl, rfl, rfl⟩ := hm
        refine W.widen (k := 0) (n := 0) (Nat.le_of_ble_eq_true rfl) (Nat.le_of_ble_eq_true rfl) ?_
        exact W.iret (v := (-1)) hx hb hr (fun t ht hW => ⟨⟨(-1), (), rfl, rfl, ⟨by rw [ht]; exact hP, by rw [hAe]; exact hD⟩⟩, by rw [hAe]; exact hS.F ht⟩) (by rw [hAe]; exact hS.2.2) dX5_applied_129 hlocks
      · rw [if_neg c_22] at hm
        refine lv_iload_n hx hb dX5_applied_124 rfl (lv_at hl 2 rfl) ?_
        refine lv_goto (tgt := 129) hx hb dX5_applied_125 (by decide) ?_
        simp only [Option.some.injEq, Prod.mk.injEq] at hm
        obtain ⟨rfl, rfl, rfl⟩ := hm
        refine W.widen (k := 0) (n := 0) (Nat.le_of_ble_eq_true rfl) (Nat.le_of_ble_eq_true rfl) ?_
        exact W.iret (v := q_3.1) hx hb hr (fun t ht hW => ⟨⟨q_3.1, (), rfl, rfl, ⟨by rw [ht]; exact hP, by rw [hAe]; exact hD⟩⟩, by rw [hAe]; exact hS.F ht⟩) (by rw [hAe]; exact hS.2.2) dX5_applied_129 hlocks
  · rw [if_pos c_2] at hm
    refine lv_iconst (v := 1) hx hb dX5_applied_14 (by decide) ?_
    refine lv_goto (tgt := 19) hx hb dX5_applied_15 (by decide) ?_
    refine va_put (D := DG G) (ci := 5) (v := .int 1) (ty := tyX5 10) (C := RX5) (T := TX5) (N := 12) hx hb hts inW_X5 tyX5 tyX5_ok nmX5 hown hK hP hD hS 31 rfl rfl 10 (by decide) (hts _ wm257) (fun _ h9 => h9) rfl (by decide +kernel) rfl rfl (Nat.le_of_ble_eq_true rfl) dX5_applied_19 (fun H locs hP hD hS => ?_)
    have hP : va_P (DG G) clP3 (wC G a T F U S D R (M.1, M.2.1, M.2.2.1, M.2.2.2.1, M.2.2.2.2.1, M.2.2.2.2.2.1, M.2.2.2.2.2.2.1, 1, M.2.2.2.2.2.2.2.2) N P) H := hP
    have hD : va_D A (wC G a T F U S D R (M.1, M.2.1, M.2.2.1, M.2.2.2.1, M.2.2.2.2.1, M.2.2.2.2.2.1, M.2.2.2.2.2.2.1, 1, M.2.2.2.2.2.2.2.2) N P) := hD
    refine lv_aload_n hx hb dX5_applied_22 rfl (lv_at hl 0 rfl) ?_
    refine va_get (D := DG G) (ci := 5) (v := .int 1) (C := RX5) (T := TX5) (N := 12) hx hb hts inW_X5 hown hK hP 31 rfl rfl 10 (by decide) (hts _ wm257) (fun _ h9 => h9) rfl dX5_applied_23 ?_
    refine lv_if_eq (tgt := 58) hx hb dX5_applied_26 (by decide) (fun c => absurd c (by decide)) (fun _ => ?_)
    refine lv_aload_n hx hb dX5_applied_29 rfl (lv_at hl 0 rfl) ?_
    obtain ⟨q_23, hq_23, hm⟩ := bind_some hm
    have hFc := free_all hD hS hA
    refine va_calli (va_runV (As := []) (rest := []) ⟨hx, hb, hml, hown, hts⟩ (K_X5_takeStep l hfl G a T F U S D R (M.1, M.2.1, M.2.2.1, M.2.2.2.1, M.2.2.2.2.1, M.2.2.2.2.2.1, M.2.2.2.2.2.2.1, 1, M.2.2.2.2.2.2.2.2) N P   q_23.1 q_23.2 hq_23 H.size) (cwV 0 hts (gV wm1179 wm1181 ws_p23 wm10 wm1182) rfl rfl rfl (by decide +kernel) ⟨Nat.le_of_ble_eq_true rfl, Nat.le_of_ble_eq_true rfl⟩) (pre_v (pre_w hK hP hD hS hE hFc) (va_recv hK hP (ci := 5) (q0 := 31) rfl rfl)) rfl rfl hl.1 rfl (lv_room (Nat.le_of_ble_eq_true rfl)) dX5_applied_30 ⟨Nat.le_of_ble_eq_true rfl, Nat.le_of_ble_eq_true rfl⟩) hS (fun q _ h => hFc q h) hFc (fun r u t H locs ht hvm hw hB hz1 hk1 hS => ?_)
    rw [show r = q_23.1 from hw]
    have hP : va_P (DG G) clP3 (wC G a T F U S D R q_23.2 N P) H := by rw [← ht]; exact hB.1
    have hD : va_D A (wC G a T F U S D R q_23.2 N P) := hB.2.weaken (fun _ p _ h => hFc p.1 h)
    clear hB hFc hw hk1
    refine W.widen (k := 0) (n := 0) (Nat.le_of_ble_eq_true rfl) (Nat.le_of_ble_eq_true rfl) ?_
    refine lv_if_eq (tgt := 56) hx hb dX5_applied_33 (by decide) (fun c_24 => ?_) (fun c_24 => ?_)
    · rw [if_pos c_24] at hm
      refine lv_iconst (v := (-1)) hx hb dX5_applied_56 (by decide) ?_
      simp only [Option.some.injEq, Prod.mk.injEq] at hm
      obtain ⟨rfl, rfl, rfl⟩ := hm
      refine W.widen (k := 0) (n := 0) (Nat.le_of_ble_eq_true rfl) (Nat.le_of_ble_eq_true rfl) ?_
      exact W.iret (v := (-1)) hx hb hr (fun t ht hW => ⟨⟨(-1), (), rfl, rfl, ⟨by rw [ht]; exact hP, by rw [hAe]; exact hD⟩⟩, by rw [hAe]; exact hS.F ht⟩) (by rw [hAe]; exact hS.2.2) dX5_applied_57 hlocks
    · rw [if_neg c_24] at hm
      refine lv_aload_n hx hb dX5_applied_36 rfl (lv_at hl 0 rfl) ?_
      refine va_get (D := DG G) (ci := 5) (v := .ref (a.1 1)) (C := RX5) (T := TX5) (N := 12) hx hb hts inW_X5 hown hK hP 31 rfl rfl 0 (by decide) (hts _ wm246) (fun _ h9 => h9) rfl dX5_applied_37 ?_
      refine lv_aload_n hx hb dX5_applied_40 rfl (lv_at hl 0 rfl) ?_
      refine va_get (D := DG G) (ci := 5) (v := .ref (a.1 1)) (C := RX5) (T := TX5) (N := 12) hx hb hts inW_X5 hown hK hP 31 rfl rfl 0 (by decide) (hts _ wm246) (fun _ h9 => h9) rfl dX5_applied_41 ?_
      refine lv_iload_n hx hb dX5_applied_44 rfl (lv_at hl 1 rfl) ?_
      obtain ⟨q_25, hq_25, hm⟩ := bind_some hm
      have hFc := free_all hD hS hA
      refine va_calli (va_runV (As := [.int p1]) (rest := [.ref (a.1 1)]) ⟨hx, hb, hml, hown, hts⟩ (K_X9_secondOf l hfl G a T F U S D R q_23.2 N P p1  q_25 hq_25 H.size) (cwV 1 hts (gV wm1169 wm460 wm461 wm2 wm462) rfl rfl rfl (by decide +kernel) ⟨Nat.le_of_ble_eq_true rfl, Nat.le_of_ble_eq_true rfl⟩) (pre_v (pre_w hK hP hD hS hE hFc) (va_recv hK hP (ci := 8) (q0 := 1) rfl rfl)) rfl rfl hl.1 rfl (lv_room (Nat.le_of_ble_eq_true rfl)) dX5_applied_45 ⟨Nat.le_of_ble_eq_true rfl, Nat.le_of_ble_eq_true rfl⟩) hS (fun q _ h => hFc q h) hFc (fun r u t H locs ht hvm hw hB hz1 hk1 hS => ?_)
      rw [show r = q_25 from hw]
      have hP : va_P (DG G) clP3 (wC G a T F U S D R q_23.2 N P) H := by rw [← ht]; exact hB.1
      have hD : va_D A (wC G a T F U S D R q_23.2 N P) := hB.2.weaken (fun _ p _ h => hFc p.1 h)
      clear hB hFc hw hk1
      refine W.widen (k := 0) (n := 0) (Nat.le_of_ble_eq_true rfl) (Nat.le_of_ble_eq_true rfl) ?_
      refine lv_iload_n hx hb dX5_applied_48 rfl (lv_at hl 2 rfl) ?_
      refine lv_iconst (v := 0) hx hb dX5_applied_49 (by decide) ?_
      obtain ⟨q_26, hq_26, hm⟩ := bind_some hm
      have hFc := free_all hD hS hA
      refine va_calli (va_runSN (As := [.ref (a.1 1), .int q_25, .int p2, .int 0]) (rest := []) ⟨hx, hb, hml, hown, hts⟩ (K_X6_put l hfl G a T F U S D R q_23.2 N P q_25 p2 0  q_26.1 q_26.2 hq_26 H.size) ⟨va_cnB 4 hts (gC wm533) rfl rfl rfl (hE.1 _ nw1183) (hts _ wm20) (by decide +kernel) ⟨Nat.le_of_ble_eq_true rfl, Nat.le_of_ble_eq_true rfl⟩, hts _ wm532, trivial⟩ (pre_w hK hP hD hS hE hFc) rfl rfl hl.1 rfl (lv_room (Nat.le_of_ble_eq_true rfl)) dX5_applied_50 ⟨Nat.le_of_ble_eq_true rfl, Nat.le_of_ble_eq_true rfl⟩) hS (fun q _ h => hFc q h) hFc (fun r u t H locs ht hvm hw hB hz1 hk1 hS => ?_)
      rw [show r = q_26.1 from hw]
      have hP : va_P (DG G) clP3 (wC G a q_26.2 F U S D R q_23.2 N P) H := by rw [← ht]; exact hB.1
      have hD : va_D A (wC G a q_26.2 F U S D R q_23.2 N P) := hB.2.weaken (fun _ p _ h => hFc p.1 h)
      clear hB hFc hw hk1
      refine W.widen (k := 0) (n := 0) (Nat.le_of_ble_eq_true rfl) (Nat.le_of_ble_eq_true rfl) ?_
      refine lv_goto (tgt := 57) hx hb dX5_applied_53 (by decide) ?_
      simp only [Option.some.injEq, Prod.mk.injEq] at hm
      obtain ⟨rfl, rfl, rfl⟩ := hm
      refine W.widen (k := 0) (n := 0) (Nat.le_of_ble_eq_true rfl) (Nat.le_of_ble_eq_true rfl) ?_
      exact W.iret (v := q_26.1) hx hb hr (fun t ht hW => ⟨⟨q_26.1, (), rfl, rfl, ⟨by rw [ht]; exact hP, by rw [hAe]; exact hD⟩⟩, by rw [hAe]; exact hS.F ht⟩) (by rw [hAe]; exact hS.2.2) dX5_applied_57 hlocks
def f_X5_valueOf0_L46 : Nat → TS → SS → DS → MS → PS → Int32 → Int32 → Int32 → Option (Int32 × TS × MS)
  | 0, _, _, _, _, _, _, _, _ => none
  | n + 1, T, S, D, M, P, v3, v4, v5 => (if 1000000 ≤ v5 then some ((-1), T, M) else (if v3 = (-1) then some ((-1), T, M) else (if v4 = 0 then (Option.bind (g_X9_kindOf T v3) (fun q_14 => (if q_14 = 7 then (Option.bind (g_X9_secondOf T v3) (fun q_24 => (Option.bind (g_X5_push M q_24 0) (fun q_25 => (if 4200 ≤ q_25.2.2.2.2.2.1 then (f_X5_valueOf0_L46 n T S D q_25 P (-1) v4 (v5 + 1)) else (Option.bind (g_X9_firstOf T v3) (fun q_27 => (f_X5_valueOf0_L46 n T S D q_25 P q_27 v4 (v5 + 1))))))))) else (if M.2.2.2.2.2.1 = 0 then some (v3, T, M) else (if inb (M.2.2.2.2.2.1 - (1 : Int32)) 4200 = true then (if (M.2.1 (Int32.toNatClampNeg (M.2.2.2.2.2.1 - (1 : Int32)))) = 0 then (if inb (M.2.2.2.2.2.1 - (1 : Int32)) 4200 = true then (Option.bind (g_X5_push (M.1, M.2.1, M.2.2.1, M.2.2.2.1, M.2.2.2.2.1, (M.2.2.2.2.2.1 - (1 : Int32)), M.2.2.2.2.2.2.1, M.2.2.2.2.2.2.2.1, M.2.2.2.2.2.2.2.2) v3 1) (fun q_20 => (f_X5_valueOf0_L46 n T S D q_20 P (M.1 (Int32.toNatClampNeg (M.2.2.2.2.2.1 - (1 : Int32)))) 0 (v5 + 1)))) else none) else (if inb (M.2.2.2.2.2.1 - (1 : Int32)) 4200 = true then (Option.bind (f_X5_applied T S D (M.1, M.2.1, M.2.2.1, M.2.2.2.1, M.2.2.2.2.1, (M.2.2.2.2.2.1 - (1 : Int32)), M.2.2.2.2.2.2.1, M.2.2.2.2.2.2.2.1, M.2.2.2.2.2.2.2.2) P (M.1 (Int32.toNatClampNeg (M.2.2.2.2.2.1 - (1 : Int32)))) v3) (fun q_22 => (if q_22.2.2.2.2.2.2.2.2.2.1 = 0 then (f_X5_valueOf0_L46 n q_22.2.1 S D q_22.2.2 P q_22.1 1 (v5 + 1)) else (f_X5_valueOf0_L46 n q_22.2.1 S D q_22.2.2 P q_22.1 0 (v5 + 1))))) else none)) else none))))) else (if M.2.2.2.2.2.1 = 0 then some (v3, T, M) else (if inb (M.2.2.2.2.2.1 - (1 : Int32)) 4200 = true then (if (M.2.1 (Int32.toNatClampNeg (M.2.2.2.2.2.1 - (1 : Int32)))) = 0 then (if inb (M.2.2.2.2.2.1 - (1 : Int32)) 4200 = true then (Option.bind (g_X5_push (M.1, M.2.1, M.2.2.1, M.2.2.2.1, M.2.2.2.2.1, (M.2.2.2.2.2.1 - (1 : Int32)), M.2.2.2.2.2.2.1, M.2.2.2.2.2.2.2.1, M.2.2.2.2.2.2.2.2) v3 1) (fun q_10 => (f_X5_valueOf0_L46 n T S D q_10 P (M.1 (Int32.toNatClampNeg (M.2.2.2.2.2.1 - (1 : Int32)))) 0 (v5 + 1)))) else none) else (if inb (M.2.2.2.2.2.1 - (1 : Int32)) 4200 = true then (Option.bind (f_X5_applied T S D (M.1, M.2.1, M.2.2.1, M.2.2.2.1, M.2.2.2.2.1, (M.2.2.2.2.2.1 - (1 : Int32)), M.2.2.2.2.2.2.1, M.2.2.2.2.2.2.2.1, M.2.2.2.2.2.2.2.2) P (M.1 (Int32.toNatClampNeg (M.2.2.2.2.2.1 - (1 : Int32)))) v3) (fun q_12 => (if q_12.2.2.2.2.2.2.2.2.2.1 = 0 then (f_X5_valueOf0_L46 n q_12.2.1 S D q_12.2.2 P q_12.1 1 (v5 + 1)) else (f_X5_valueOf0_L46 n q_12.2.1 S D q_12.2.2 P q_12.1 0 (v5 + 1))))) else none)) else none)))))
def f_X5_valueOf0 (T : TS) (S : SS) (D : DS) (M : MS) (P : PS) (p1 : Int32) : Option (Int32 × TS × MS) := (Option.bind (g_X9_callsOf T p1) (fun q_1 => (if (q_1 &&& (D.2.2 ^^^ ((-1) : Int32))) = 0 then (f_X5_valueOf0_L46 100000 T S D (M.1, M.2.1, M.2.2.1, M.2.2.2.1, M.2.2.2.2.1, 0, 0, M.2.2.2.2.2.2.2.1, 0) P p1 0 0) else some ((-1), T, M))))
set_option maxHeartbeats 2000000 in
set_option maxRecDepth 100000 in
theorem kl_X5_valueOf0_46 {l : Launch} (hfl : l.stackTraces = false) {G : GC} {a : AS} {T : TS} {F : FS} {U : US} {S : SS} {D : DS} {R : RS} {M : MS} {N : NS} {P : PS} {A : Nat → Prop} {sz : Nat} {p : Program} {e : Env} {s : State} {m : MethodId} {args : Array Value} {below : List Frame} {meth : Method} {c : Code} (hx : p.tables.exec = Jvm.exec) (hb : c.code = cX5_valueOf) (hr : meth.sig.returnType = (some .int)) (hml : c.maxLocals = 7) (hown : s.vm.findClass RX5 = some m.cls) (hts : ∀ w ∈ W0, w.before args s = true) (hlocks : meth.locks = false) (hlk : lkA a D.1.toNatClampNeg D.2.1.toNatClampNeg) (hAe : (va_A (wC G a T F U S D R M N P) sz) = A) (hA : ∀ q : Nat, s.heap.size ≤ q → A q) (hE : EV G A s s.heap) (hK : va_K (DG G) clP3 (TY G) s) (r9 : Int32) (T9 : TS) (M9 : MS) : ∀ (n : Nat), ∀ (T8 : TS) (M8 : MS) (v3 : Int32) (v4 : Int32) (v5 : Int32) (H : Heap) (locs : List Loc), va_P (DG G) clP3 (wC G a T8 F U S D R M8 N P) H → va_D A (wC G a T8 F U S D R M8 N P) → va_S A s.heap H locs → ∀ (ls : Array Slot), lv_has ls 7 [(0, .ref (a.1 31)), (3, .int v3), (4, .int v4), (5, .int v5)] → f_X5_valueOf0_L46 n T8 S D M8 P v3 v4 v5 = some (r9, T9, M9) → W p l e ({ frames := 405, cells := 0, slots := 0, locals := 10518 }) s m args below meth c H locs 0 0 (MQ below (va_Qi (fun (r : Int32) (_ : Unit) => r = r9) (fun _ t => PW G (va_A (wC G a T F U S D R M N P) sz) (wC G a T9 F U S D R M9 N P) t) (va_A (wC G a T F U S D R M N P) sz)) args s 0 0 (va_A (wC G a T F U S D R M N P) sz)) (F0 m 46 ls []) := by
  intro n
  induction n with
  | zero =>
    intro T8 M8 v3 v4 v5 H locs hP hD hS ls hl hm
    rw [f_X5_valueOf0_L46] at hm
    cases hm
  | succ n ih =>
    intro T8 M8 v3 v4 v5 H locs hP hD hS ls hl hm
    rw [f_X5_valueOf0_L46] at hm
    refine lv_iload hx hb dX5_valueOf_46 (lv_at hl 3 rfl) ?_
    refine lv_ldc (v := 1000000) hx hb hown (hts _ wm1167) dX5_valueOf_48 ?_
    refine lv_icmp_ge (tgt := 221) hx hb dX5_valueOf_50 (by decide) (fun c_3 => ?_) (fun c_3 => ?_)
    · rw [if_pos c_3] at hm
      refine lv_iconst (v := (-1)) hx hb dX5_valueOf_221 (by decide) ?_
      simp only [Option.some.injEq, Prod.mk.injEq] at hm
      obtain ⟨rfl, rfl, rfl⟩ := hm
      refine W.widen (k := 0) (n := 0) (Nat.le_of_ble_eq_true rfl) (Nat.le_of_ble_eq_true rfl) ?_
      exact W.iret (v := (-1)) hx hb hr (fun t ht hW => ⟨⟨(-1), (), rfl, rfl, ⟨by rw [ht]; exact hP, by rw [hAe]; exact hD⟩⟩, by rw [hAe]; exact hS.F ht⟩) (by rw [hAe]; exact hS.2.2) dX5_valueOf_222 hlocks
    · rw [if_neg c_3] at hm
      refine lv_iload_n hx hb dX5_valueOf_53 rfl (lv_at hl 1 rfl) ?_
      refine lv_iconst (v := (-1)) hx hb dX5_valueOf_54 (by decide) ?_
      refine lv_icmp_eq (tgt := 221) hx hb dX5_valueOf_55 (by decide) (fun c_4 => ?_) (fun c_4 => ?_)
      · rw [if_pos c_4] at hm
        refine lv_iconst (v := (-1)) hx hb dX5_valueOf_221 (by decide) ?_
        simp only [Option.some.injEq, Prod.mk.injEq] at hm
        obtain ⟨rfl, rfl, rfl⟩ := hm
        refine W.widen (k := 0) (n := 0) (Nat.le_of_ble_eq_true rfl) (Nat.le_of_ble_eq_true rfl) ?_
        exact W.iret (v := (-1)) hx hb hr (fun t ht hW => ⟨⟨(-1), (), rfl, rfl, ⟨by rw [ht]; exact hP, by rw [hAe]; exact hD⟩⟩, by rw [hAe]; exact hS.F ht⟩) (by rw [hAe]; exact hS.2.2) dX5_valueOf_222 hlocks
      · rw [if_neg c_4] at hm
        refine lv_iload hx hb dX5_valueOf_58 (lv_at hl 2 rfl) ?_
        refine lv_if_ne (tgt := 115) hx hb dX5_valueOf_60 (by decide) (fun c_5 => ?_) (fun c_5 => ?_)
        · rw [if_neg c_5] at hm
          refine lv_aload_n hx hb dX5_valueOf_115 rfl (lv_at hl 0 rfl) ?_
          refine va_get (D := DG G) (ci := 5) (v := .int M8.2.2.2.2.2.1) (C := RX5) (T := TX5) (N := 12) hx hb hts inW_X5 hown hK hP 31 rfl rfl 8 (by decide) (hts _ wm254) (fun _ h9 => h9) rfl dX5_valueOf_116 ?_
          refine lv_if_ne (tgt := 124) hx hb dX5_valueOf_119 (by decide) (fun c_6 => ?_) (fun c_6 => ?_)
          · rw [if_neg c_6] at hm
            refine lv_aload_n hx hb dX5_valueOf_124 rfl (lv_at hl 0 rfl) ?_
            refine va_get (D := DG G) (ci := 5) (v := .ref (a.1 33)) (C := RX5) (T := TX5) (N := 12) hx hb hts inW_X5 hown hK hP 31 rfl rfl 4 (by decide) (hts _ wm250) (fun _ h9 => h9) rfl dX5_valueOf_125 ?_
            refine lv_aload_n hx hb dX5_valueOf_128 rfl (lv_at hl 0 rfl) ?_
            refine va_get (D := DG G) (ci := 5) (v := .int M8.2.2.2.2.2.1) (C := RX5) (T := TX5) (N := 12) hx hb hts inW_X5 hown hK hP 31 rfl rfl 8 (by decide) (hts _ wm254) (fun _ h9 => h9) rfl dX5_valueOf_129 ?_
            refine lv_iconst (v := 1) hx hb dX5_valueOf_132 (by decide) ?_
            refine lv_isub hx hb dX5_valueOf_133 ?_
            obtain ⟨b_7, hm⟩ := ite_some hm
            refine va_zald hx hb hK hP 33 1 rfl rfl (inb_vp b_7) dX5_valueOf_134 ?_
            refine lv_if_eq (tgt := 180) hx hb dX5_valueOf_135 (by decide) (fun c_8 => ?_) (fun c_8 => ?_)
            · rw [if_pos c_8] at hm
              refine lv_aload_n hx hb dX5_valueOf_180 rfl (lv_at hl 0 rfl) ?_
              refine va_get (D := DG G) (ci := 5) (v := .ref (a.1 32)) (C := RX5) (T := TX5) (N := 12) hx hb hts inW_X5 hown hK hP 31 rfl rfl 3 (by decide) (hts _ wm249) (fun _ h9 => h9) rfl dX5_valueOf_181 ?_
              refine lv_aload_n hx hb dX5_valueOf_184 rfl (lv_at hl 0 rfl) ?_
              refine va_get (D := DG G) (ci := 5) (v := .int M8.2.2.2.2.2.1) (C := RX5) (T := TX5) (N := 12) hx hb hts inW_X5 hown hK hP 31 rfl rfl 8 (by decide) (hts _ wm254) (fun _ h9 => h9) rfl dX5_valueOf_185 ?_
              refine lv_iconst (v := 1) hx hb dX5_valueOf_188 (by decide) ?_
              refine lv_isub hx hb dX5_valueOf_189 ?_
              obtain ⟨b_9, hm⟩ := ite_some hm
              refine va_iald hx hb hK hP 32 0 rfl rfl (inb_vp b_9) dX5_valueOf_190 ?_
              refine lv_istore (lv' := [(6, .int (M8.1 (Int32.toNatClampNeg (M8.2.2.2.2.2.1 - (1 : Int32))))), (0, .ref (a.1 31)), (3, .int v3), (4, .int v4), (5, .int v5)]) hx hb dX5_valueOf_191 hl (by decide) rfl (fun ls hl => ?_)
              refine lv_aload_n hx hb dX5_valueOf_193 rfl (lv_at hl 1 rfl) ?_
              refine lv_dup hx hb dX5_valueOf_194 rfl ?_
              refine va_get (D := DG G) (ci := 5) (v := .int M8.2.2.2.2.2.1) (C := RX5) (T := TX5) (N := 12) hx hb hts inW_X5 hown hK hP 31 rfl rfl 8 (by decide) (hts _ wm254) (fun _ h9 => h9) rfl dX5_valueOf_195 ?_
              refine lv_iconst (v := 1) hx hb dX5_valueOf_198 (by decide) ?_
              refine lv_isub hx hb dX5_valueOf_199 ?_
              refine va_put (D := DG G) (ci := 5) (v := .int (M8.2.2.2.2.2.1 - (1 : Int32))) (ty := tyX5 8) (C := RX5) (T := TX5) (N := 12) hx hb hts inW_X5 tyX5 tyX5_ok nmX5 hown hK hP hD hS 31 rfl rfl 8 (by decide) (hts _ wm254) (fun _ h9 => h9) rfl (by decide +kernel) rfl rfl (Nat.le_of_ble_eq_true rfl) dX5_valueOf_200 (fun H locs hP hD hS => ?_)
              have hP : va_P (DG G) clP3 (wC G a T8 F U S D R (M8.1, M8.2.1, M8.2.2.1, M8.2.2.2.1, M8.2.2.2.2.1, (M8.2.2.2.2.2.1 - (1 : Int32)), M8.2.2.2.2.2.2.1, M8.2.2.2.2.2.2.2.1, M8.2.2.2.2.2.2.2.2) N P) H := hP
              have hD : va_D A (wC G a T8 F U S D R (M8.1, M8.2.1, M8.2.2.1, M8.2.2.2.1, M8.2.2.2.2.1, (M8.2.2.2.2.2.1 - (1 : Int32)), M8.2.2.2.2.2.2.1, M8.2.2.2.2.2.2.2.1, M8.2.2.2.2.2.2.2.2) N P) := hD
              refine lv_aload_n hx hb dX5_valueOf_203 rfl (lv_at hl 1 rfl) ?_
              refine lv_iload_n hx hb dX5_valueOf_204 rfl (lv_at hl 2 rfl) ?_
              refine lv_iconst (v := 1) hx hb dX5_valueOf_205 (by decide) ?_
              obtain ⟨q_10, hq_10, hm⟩ := bind_some hm
              have hFc := free_all hD hS hA
              refine va_callv (va_runV (As := [.int v3, .int 1]) (rest := []) ⟨hx, hb, hml, hown, hts⟩ (K_X5_push l hfl G a T8 F U S D R (M8.1, M8.2.1, M8.2.2.1, M8.2.2.2.1, M8.2.2.2.2.1, (M8.2.2.2.2.2.1 - (1 : Int32)), M8.2.2.2.2.2.2.1, M8.2.2.2.2.2.2.2.1, M8.2.2.2.2.2.2.2.2) N P v3 1  q_10 hq_10 H.size) (cwV 2 hts (gV wm1170 wm1172 ws_p21 wm10 wm1173) rfl rfl rfl (by decide +kernel) ⟨Nat.le_of_ble_eq_true rfl, Nat.le_of_ble_eq_true rfl⟩) (pre_v (pre_w hK hP hD hS hE hFc) (va_recv hK hP (ci := 5) (q0 := 31) rfl rfl)) rfl rfl hl.1 rfl (lv_room (Nat.le_of_ble_eq_true rfl)) dX5_valueOf_206 ⟨Nat.le_of_ble_eq_true rfl, Nat.le_of_ble_eq_true rfl⟩) hS (fun q _ h => hFc q h) hFc (fun u t H locs ht hvm hw hB hz1 hk1 hS => ?_)
              have hP : va_P (DG G) clP3 (wC G a T8 F U S D R q_10 N P) H := by rw [← ht]; exact hB.1
              have hD : va_D A (wC G a T8 F U S D R q_10 N P) := hB.2.weaken (fun _ p _ h => hFc p.1 h)
              clear hB hFc hk1
              refine W.widen (k := 0) (n := 0) (Nat.le_of_ble_eq_true rfl) (Nat.le_of_ble_eq_true rfl) ?_
              refine lv_iload hx hb dX5_valueOf_209 (lv_at hl 0 rfl) ?_
              refine lv_istore_n (lv' := [(3, .int (M8.1 (Int32.toNatClampNeg (M8.2.2.2.2.2.1 - (1 : Int32))))), (6, .int (M8.1 (Int32.toNatClampNeg (M8.2.2.2.2.2.1 - (1 : Int32))))), (0, .ref (a.1 31)), (4, .int v4), (5, .int v5)]) hx hb dX5_valueOf_211 rfl hl (by decide) rfl (fun ls hl => ?_)
              refine lv_iconst (v := 0) hx hb dX5_valueOf_212 (by decide) ?_
              refine lv_istore (lv' := [(4, .int 0), (3, .int (M8.1 (Int32.toNatClampNeg (M8.2.2.2.2.2.1 - (1 : Int32))))), (6, .int (M8.1 (Int32.toNatClampNeg (M8.2.2.2.2.2.1 - (1 : Int32))))), (0, .ref (a.1 31)), (5, .int v5)]) hx hb dX5_valueOf_213 hl (by decide) rfl (fun ls hl => ?_)
              refine lv_iinc (v := (v5 + 1)) (lv' := [(5, .int (v5 + 1)), (4, .int 0), (3, .int (M8.1 (Int32.toNatClampNeg (M8.2.2.2.2.2.1 - (1 : Int32))))), (6, .int (M8.1 (Int32.toNatClampNeg (M8.2.2.2.2.2.1 - (1 : Int32))))), (0, .ref (a.1 31))]) hx hb dX5_valueOf_215 hl (k := 4) rfl rfl (by decide) rfl (fun ls hl => ?_)
              refine lv_goto (tgt := 46) hx hb dX5_valueOf_218 (by decide) ?_
              refine W.widen (k := 0) (n := 0) (Nat.le_of_ble_eq_true rfl) (Nat.le_of_ble_eq_true rfl) ?_
              exact ih T8 q_10 (M8.1 (Int32.toNatClampNeg (M8.2.2.2.2.2.1 - (1 : Int32)))) 0 (v5 + 1)  _ _ hP hD hS _ (lv_sub hl [4, 2, 1, 0] rfl) hm
            · rw [if_neg c_8] at hm
              refine lv_aload_n hx hb dX5_valueOf_138 rfl (lv_at hl 0 rfl) ?_
              refine lv_dup hx hb dX5_valueOf_139 rfl ?_
              refine va_get (D := DG G) (ci := 5) (v := .int M8.2.2.2.2.2.1) (C := RX5) (T := TX5) (N := 12) hx hb hts inW_X5 hown hK hP 31 rfl rfl 8 (by decide) (hts _ wm254) (fun _ h9 => h9) rfl dX5_valueOf_140 ?_
              refine lv_iconst (v := 1) hx hb dX5_valueOf_143 (by decide) ?_
              refine lv_isub hx hb dX5_valueOf_144 ?_
              refine va_put (D := DG G) (ci := 5) (v := .int (M8.2.2.2.2.2.1 - (1 : Int32))) (ty := tyX5 8) (C := RX5) (T := TX5) (N := 12) hx hb hts inW_X5 tyX5 tyX5_ok nmX5 hown hK hP hD hS 31 rfl rfl 8 (by decide) (hts _ wm254) (fun _ h9 => h9) rfl (by decide +kernel) rfl rfl (Nat.le_of_ble_eq_true rfl) dX5_valueOf_145 (fun H locs hP hD hS => ?_)
              have hP : va_P (DG G) clP3 (wC G a T8 F U S D R (M8.1, M8.2.1, M8.2.2.1, M8.2.2.2.1, M8.2.2.2.2.1, (M8.2.2.2.2.2.1 - (1 : Int32)), M8.2.2.2.2.2.2.1, M8.2.2.2.2.2.2.2.1, M8.2.2.2.2.2.2.2.2) N P) H := hP
              have hD : va_D A (wC G a T8 F U S D R (M8.1, M8.2.1, M8.2.2.1, M8.2.2.2.1, M8.2.2.2.2.1, (M8.2.2.2.2.2.1 - (1 : Int32)), M8.2.2.2.2.2.2.1, M8.2.2.2.2.2.2.2.1, M8.2.2.2.2.2.2.2.2) N P) := hD
              refine lv_aload_n hx hb dX5_valueOf_148 rfl (lv_at hl 0 rfl) ?_
              refine lv_aload_n hx hb dX5_valueOf_149 rfl (lv_at hl 0 rfl) ?_
              refine va_get (D := DG G) (ci := 5) (v := .ref (a.1 32)) (C := RX5) (T := TX5) (N := 12) hx hb hts inW_X5 hown hK hP 31 rfl rfl 3 (by decide) (hts _ wm249) (fun _ h9 => h9) rfl dX5_valueOf_150 ?_
              refine lv_aload_n hx hb dX5_valueOf_153 rfl (lv_at hl 0 rfl) ?_
              refine va_get (D := DG G) (ci := 5) (v := .int (M8.2.2.2.2.2.1 - (1 : Int32))) (C := RX5) (T := TX5) (N := 12) hx hb hts inW_X5 hown hK hP 31 rfl rfl 8 (by decide) (hts _ wm254) (fun _ h9 => h9) rfl dX5_valueOf_154 ?_
              obtain ⟨b_11, hm⟩ := ite_some hm
              refine va_iald hx hb hK hP 32 0 rfl rfl (inb_vp b_11) dX5_valueOf_157 ?_
              refine lv_iload_n hx hb dX5_valueOf_158 rfl (lv_at hl 1 rfl) ?_
              obtain ⟨q_12, hq_12, hm⟩ := bind_some hm
              have hFc := free_all hD hS hA
              refine va_calli (va_runV (As := [.int (M8.1 (Int32.toNatClampNeg (M8.2.2.2.2.2.1 - (1 : Int32)))), .int v3]) (rest := []) ⟨hx, hb, hml, hown, hts⟩ (k_X5_applied l hfl G a T8 F U S D R (M8.1, M8.2.1, M8.2.2.1, M8.2.2.2.1, M8.2.2.2.2.1, (M8.2.2.2.2.2.1 - (1 : Int32)), M8.2.2.2.2.2.2.1, M8.2.2.2.2.2.2.2.1, M8.2.2.2.2.2.2.2.2) N P hlk (M8.1 (Int32.toNatClampNeg (M8.2.2.2.2.2.1 - (1 : Int32)))) v3  q_12.1 q_12.2.1 q_12.2.2 hq_12 H.size) (cwV 2 hts (gV wm1175 wm1177 ws_p22 wm10 wm1178) rfl rfl rfl (by decide +kernel) ⟨Nat.le_of_ble_eq_true rfl, Nat.le_of_ble_eq_true rfl⟩) (pre_v (pre_w hK hP hD hS hE hFc) (va_recv hK hP (ci := 5) (q0 := 31) rfl rfl)) rfl rfl hl.1 rfl (lv_room (Nat.le_of_ble_eq_true rfl)) dX5_valueOf_159 ⟨Nat.le_of_ble_eq_true rfl, Nat.le_of_ble_eq_true rfl⟩) hS (fun q _ h => hFc q h) hFc (fun r u t H locs ht hvm hw hB hz1 hk1 hS => ?_)
              rw [show r = q_12.1 from hw]
              have hP : va_P (DG G) clP3 (wC G a q_12.2.1 F U S D R q_12.2.2 N P) H := by rw [← ht]; exact hB.1
              have hD : va_D A (wC G a q_12.2.1 F U S D R q_12.2.2 N P) := hB.2.weaken (fun _ p _ h => hFc p.1 h)
              clear hB hFc hw hk1
              refine W.widen (k := 0) (n := 0) (Nat.le_of_ble_eq_true rfl) (Nat.le_of_ble_eq_true rfl) ?_
              refine lv_istore_n (lv' := [(3, .int q_12.1), (0, .ref (a.1 31)), (4, .int v4), (5, .int v5)]) hx hb dX5_valueOf_162 rfl hl (by decide) rfl (fun ls hl => ?_)
              refine lv_aload_n hx hb dX5_valueOf_163 rfl (lv_at hl 1 rfl) ?_
              refine va_get (D := DG G) (ci := 5) (v := .int q_12.2.2.2.2.2.2.2.2.2.1) (C := RX5) (T := TX5) (N := 12) hx hb hts inW_X5 hown hK hP 31 rfl rfl 10 (by decide) (hts _ wm257) (fun _ h9 => h9) rfl dX5_valueOf_164 ?_
              refine lv_if_ne (tgt := 174) hx hb dX5_valueOf_167 (by decide) (fun c_13 => ?_) (fun c_13 => ?_)
              · rw [if_neg c_13] at hm
                refine lv_iconst (v := 0) hx hb dX5_valueOf_174 (by decide) ?_
                refine lv_istore (lv' := [(4, .int 0), (3, .int q_12.1), (0, .ref (a.1 31)), (5, .int v5)]) hx hb dX5_valueOf_175 hl (by decide) rfl (fun ls hl => ?_)
                refine lv_goto (tgt := 215) hx hb dX5_valueOf_177 (by decide) ?_
                refine lv_iinc (v := (v5 + 1)) (lv' := [(5, .int (v5 + 1)), (4, .int 0), (3, .int q_12.1), (0, .ref (a.1 31))]) hx hb dX5_valueOf_215 hl (k := 3) rfl rfl (by decide) rfl (fun ls hl => ?_)
                refine lv_goto (tgt := 46) hx hb dX5_valueOf_218 (by decide) ?_
                refine W.widen (k := 0) (n := 0) (Nat.le_of_ble_eq_true rfl) (Nat.le_of_ble_eq_true rfl) ?_
                exact ih q_12.2.1 q_12.2.2 q_12.1 0 (v5 + 1)  _ _ hP hD hS _ (lv_sub hl [3, 2, 1, 0] rfl) hm
              · rw [if_pos c_13] at hm
                refine lv_iconst (v := 1) hx hb dX5_valueOf_170 (by decide) ?_
                refine lv_goto (tgt := 175) hx hb dX5_valueOf_171 (by decide) ?_
                refine lv_istore (lv' := [(4, .int 1), (3, .int q_12.1), (0, .ref (a.1 31)), (5, .int v5)]) hx hb dX5_valueOf_175 hl (by decide) rfl (fun ls hl => ?_)
                refine lv_goto (tgt := 215) hx hb dX5_valueOf_177 (by decide) ?_
                refine lv_iinc (v := (v5 + 1)) (lv' := [(5, .int (v5 + 1)), (4, .int 1), (3, .int q_12.1), (0, .ref (a.1 31))]) hx hb dX5_valueOf_215 hl (k := 3) rfl rfl (by decide) rfl (fun ls hl => ?_)
                refine lv_goto (tgt := 46) hx hb dX5_valueOf_218 (by decide) ?_
                refine W.widen (k := 0) (n := 0) (Nat.le_of_ble_eq_true rfl) (Nat.le_of_ble_eq_true rfl) ?_
                exact ih q_12.2.1 q_12.2.2 q_12.1 1 (v5 + 1)  _ _ hP hD hS _ (lv_sub hl [3, 2, 1, 0] rfl) hm
          · rw [if_pos c_6] at hm
            refine lv_iload_n hx hb dX5_valueOf_122 rfl (lv_at hl 1 rfl) ?_
            simp only [Option.some.injEq, Prod.mk.injEq] at hm
            obtain ⟨rfl, rfl, rfl⟩ := hm
            refine W.widen (k := 0) (n := 0) (Nat.le_of_ble_eq_true rfl) (Nat.le_of_ble_eq_true rfl) ?_
            exact W.iret (v := v3) hx hb hr (fun t ht hW => ⟨⟨v3, (), rfl, rfl, ⟨by rw [ht]; exact hP, by rw [hAe]; exact hD⟩⟩, by rw [hAe]; exact hS.F ht⟩) (by rw [hAe]; exact hS.2.2) dX5_valueOf_123 hlocks
        · rw [if_pos c_5] at hm
          refine lv_aload_n hx hb dX5_valueOf_63 rfl (lv_at hl 0 rfl) ?_
          refine va_get (D := DG G) (ci := 5) (v := .ref (a.1 1)) (C := RX5) (T := TX5) (N := 12) hx hb hts inW_X5 hown hK hP 31 rfl rfl 0 (by decide) (hts _ wm246) (fun _ h9 => h9) rfl dX5_valueOf_64 ?_
          refine lv_iload_n hx hb dX5_valueOf_67 rfl (lv_at hl 1 rfl) ?_
          obtain ⟨q_14, hq_14, hm⟩ := bind_some hm
          have hFc := free_all hD hS hA
          refine va_calli (va_runV (As := [.int v3]) (rest := []) ⟨hx, hb, hml, hown, hts⟩ (K_X9_kindOf l hfl G a T8 F U S D R M8 N P v3  q_14 hq_14 H.size) (cwV 1 hts (gV wm1168 wm435 wm436 wm2 wm437) rfl rfl rfl (by decide +kernel) ⟨Nat.le_of_ble_eq_true rfl, Nat.le_of_ble_eq_true rfl⟩) (pre_v (pre_w hK hP hD hS hE hFc) (va_recv hK hP (ci := 8) (q0 := 1) rfl rfl)) rfl rfl hl.1 rfl (lv_room (Nat.le_of_ble_eq_true rfl)) dX5_valueOf_68 ⟨Nat.le_of_ble_eq_true rfl, Nat.le_of_ble_eq_true rfl⟩) hS (fun q _ h => hFc q h) hFc (fun r u t H locs ht hvm hw hB hz1 hk1 hS => ?_)
          rw [show r = q_14 from hw]
          have hP : va_P (DG G) clP3 (wC G a T8 F U S D R M8 N P) H := by rw [← ht]; exact hB.1
          have hD : va_D A (wC G a T8 F U S D R M8 N P) := hB.2.weaken (fun _ p _ h => hFc p.1 h)
          clear hB hFc hw hk1
          refine W.widen (k := 0) (n := 0) (Nat.le_of_ble_eq_true rfl) (Nat.le_of_ble_eq_true rfl) ?_
          refine lv_bipush (v := 7) hx hb dX5_valueOf_71 (by decide) ?_
          refine lv_icmp_ne (tgt := 115) hx hb dX5_valueOf_73 (by decide) (fun c_15 => ?_) (fun c_15 => ?_)
          · rw [if_neg c_15] at hm
            refine lv_aload_n hx hb dX5_valueOf_115 rfl (lv_at hl 0 rfl) ?_
            refine va_get (D := DG G) (ci := 5) (v := .int M8.2.2.2.2.2.1) (C := RX5) (T := TX5) (N := 12) hx hb hts inW_X5 hown hK hP 31 rfl rfl 8 (by decide) (hts _ wm254) (fun _ h9 => h9) rfl dX5_valueOf_116 ?_
            refine lv_if_ne (tgt := 124) hx hb dX5_valueOf_119 (by decide) (fun c_16 => ?_) (fun c_16 => ?_)
            · rw [if_neg c_16] at hm
              refine lv_aload_n hx hb dX5_valueOf_124 rfl (lv_at hl 0 rfl) ?_
              refine va_get (D := DG G) (ci := 5) (v := .ref (a.1 33)) (C := RX5) (T := TX5) (N := 12) hx hb hts inW_X5 hown hK hP 31 rfl rfl 4 (by decide) (hts _ wm250) (fun _ h9 => h9) rfl dX5_valueOf_125 ?_
              refine lv_aload_n hx hb dX5_valueOf_128 rfl (lv_at hl 0 rfl) ?_
              refine va_get (D := DG G) (ci := 5) (v := .int M8.2.2.2.2.2.1) (C := RX5) (T := TX5) (N := 12) hx hb hts inW_X5 hown hK hP 31 rfl rfl 8 (by decide) (hts _ wm254) (fun _ h9 => h9) rfl dX5_valueOf_129 ?_
              refine lv_iconst (v := 1) hx hb dX5_valueOf_132 (by decide) ?_
              refine lv_isub hx hb dX5_valueOf_133 ?_
              obtain ⟨b_17, hm⟩ := ite_some hm
              refine va_zald hx hb hK hP 33 1 rfl rfl (inb_vp b_17) dX5_valueOf_134 ?_
              refine lv_if_eq (tgt := 180) hx hb dX5_valueOf_135 (by decide) (fun c_18 => ?_) (fun c_18 => ?_)
              · rw [if_pos c_18] at hm
                refine lv_aload_n hx hb dX5_valueOf_180 rfl (lv_at hl 0 rfl) ?_
                refine va_get (D := DG G) (ci := 5) (v := .ref (a.1 32)) (C := RX5) (T := TX5) (N := 12) hx hb hts inW_X5 hown hK hP 31 rfl rfl 3 (by decide) (hts _ wm249) (fun _ h9 => h9) rfl dX5_valueOf_181 ?_
                refine lv_aload_n hx hb dX5_valueOf_184 rfl (lv_at hl 0 rfl) ?_
                refine va_get (D := DG G) (ci := 5) (v := .int M8.2.2.2.2.2.1) (C := RX5) (T := TX5) (N := 12) hx hb hts inW_X5 hown hK hP 31 rfl rfl 8 (by decide) (hts _ wm254) (fun _ h9 => h9) rfl dX5_valueOf_185 ?_
                refine lv_iconst (v := 1) hx hb dX5_valueOf_188 (by decide) ?_
                refine lv_isub hx hb dX5_valueOf_189 ?_
                obtain ⟨b_19, hm⟩ := ite_some hm
                refine va_iald hx hb hK hP 32 0 rfl rfl (inb_vp b_19) dX5_valueOf_190 ?_
                refine lv_istore (lv' := [(6, .int (M8.1 (Int32.toNatClampNeg (M8.2.2.2.2.2.1 - (1 : Int32))))), (0, .ref (a.1 31)), (3, .int v3), (4, .int v4), (5, .int v5)]) hx hb dX5_valueOf_191 hl (by decide) rfl (fun ls hl => ?_)
                refine lv_aload_n hx hb dX5_valueOf_193 rfl (lv_at hl 1 rfl) ?_
                refine lv_dup hx hb dX5_valueOf_194 rfl ?_
                refine va_get (D := DG G) (ci := 5) (v := .int M8.2.2.2.2.2.1) (C := RX5) (T := TX5) (N := 12) hx hb hts inW_X5 hown hK hP 31 rfl rfl 8 (by decide) (hts _ wm254) (fun _ h9 => h9) rfl dX5_valueOf_195 ?_
                refine lv_iconst (v := 1) hx hb dX5_valueOf_198 (by decide) ?_
                refine lv_isub hx hb dX5_valueOf_199 ?_
                refine va_put (D := DG G) (ci := 5) (v := .int (M8.2.2.2.2.2.1 - (1 : Int32))) (ty := tyX5 8) (C := RX5) (T := TX5) (N := 12) hx hb hts inW_X5 tyX5 tyX5_ok nmX5 hown hK hP hD hS 31 rfl rfl 8 (by decide) (hts _ wm254) (fun _ h9 => h9) rfl (by decide +kernel) rfl rfl (Nat.le_of_ble_eq_true rfl) dX5_valueOf_200 (fun H locs hP hD hS => ?_)
                have hP : va_P (DG G) clP3 (wC G a T8 F U S D R (M8.1, M8.2.1, M8.2.2.1, M8.2.2.2.1, M8.2.2.2.2.1, (M8.2.2.2.2.2.1 - (1 : Int32)), M8.2.2.2.2.2.2.1, M8.2.2.2.2.2.2.2.1, M8.2.2.2.2.2.2.2.2) N P) H := hP
                have hD : va_D A (wC G a T8 F U S D R (M8.1, M8.2.1, M8.2.2.1, M8.2.2.2.1, M8.2.2.2.2.1, (M8.2.2.2.2.2.1 - (1 : Int32)), M8.2.2.2.2.2.2.1, M8.2.2.2.2.2.2.2.1, M8.2.2.2.2.2.2.2.2) N P) := hD
                refine lv_aload_n hx hb dX5_valueOf_203 rfl (lv_at hl 1 rfl) ?_
                refine lv_iload_n hx hb dX5_valueOf_204 rfl (lv_at hl 2 rfl) ?_
                refine lv_iconst (v := 1) hx hb dX5_valueOf_205 (by decide) ?_
                obtain ⟨q_20, hq_20, hm⟩ := bind_some hm
                have hFc := free_all hD hS hA
                refine va_callv (va_runV (As := [.int v3, .int 1]) (rest := []) ⟨hx, hb, hml, hown, hts⟩ (K_X5_push l hfl G a T8 F U S D R (M8.1, M8.2.1, M8.2.2.1, M8.2.2.2.1, M8.2.2.2.2.1, (M8.2.2.2.2.2.1 - (1 : Int32)), M8.2.2.2.2.2.2.1, M8.2.2.2.2.2.2.2.1, M8.2.2.2.2.2.2.2.2) N P v3 1  q_20 hq_20 H.size) (cwV 2 hts (gV wm1170 wm1172 ws_p21 wm10 wm1173) rfl rfl rfl (by decide +kernel) ⟨Nat.le_of_ble_eq_true rfl, Nat.le_of_ble_eq_true rfl⟩) (pre_v (pre_w hK hP hD hS hE hFc) (va_recv hK hP (ci := 5) (q0 := 31) rfl rfl)) rfl rfl hl.1 rfl (lv_room (Nat.le_of_ble_eq_true rfl)) dX5_valueOf_206 ⟨Nat.le_of_ble_eq_true rfl, Nat.le_of_ble_eq_true rfl⟩) hS (fun q _ h => hFc q h) hFc (fun u t H locs ht hvm hw hB hz1 hk1 hS => ?_)
                have hP : va_P (DG G) clP3 (wC G a T8 F U S D R q_20 N P) H := by rw [← ht]; exact hB.1
                have hD : va_D A (wC G a T8 F U S D R q_20 N P) := hB.2.weaken (fun _ p _ h => hFc p.1 h)
                clear hB hFc hk1
                refine W.widen (k := 0) (n := 0) (Nat.le_of_ble_eq_true rfl) (Nat.le_of_ble_eq_true rfl) ?_
                refine lv_iload hx hb dX5_valueOf_209 (lv_at hl 0 rfl) ?_
                refine lv_istore_n (lv' := [(3, .int (M8.1 (Int32.toNatClampNeg (M8.2.2.2.2.2.1 - (1 : Int32))))), (6, .int (M8.1 (Int32.toNatClampNeg (M8.2.2.2.2.2.1 - (1 : Int32))))), (0, .ref (a.1 31)), (4, .int v4), (5, .int v5)]) hx hb dX5_valueOf_211 rfl hl (by decide) rfl (fun ls hl => ?_)
                refine lv_iconst (v := 0) hx hb dX5_valueOf_212 (by decide) ?_
                refine lv_istore (lv' := [(4, .int 0), (3, .int (M8.1 (Int32.toNatClampNeg (M8.2.2.2.2.2.1 - (1 : Int32))))), (6, .int (M8.1 (Int32.toNatClampNeg (M8.2.2.2.2.2.1 - (1 : Int32))))), (0, .ref (a.1 31)), (5, .int v5)]) hx hb dX5_valueOf_213 hl (by decide) rfl (fun ls hl => ?_)
                refine lv_iinc (v := (v5 + 1)) (lv' := [(5, .int (v5 + 1)), (4, .int 0), (3, .int (M8.1 (Int32.toNatClampNeg (M8.2.2.2.2.2.1 - (1 : Int32))))), (6, .int (M8.1 (Int32.toNatClampNeg (M8.2.2.2.2.2.1 - (1 : Int32))))), (0, .ref (a.1 31))]) hx hb dX5_valueOf_215 hl (k := 4) rfl rfl (by decide) rfl (fun ls hl => ?_)
                refine lv_goto (tgt := 46) hx hb dX5_valueOf_218 (by decide) ?_
                refine W.widen (k := 0) (n := 0) (Nat.le_of_ble_eq_true rfl) (Nat.le_of_ble_eq_true rfl) ?_
                exact ih T8 q_20 (M8.1 (Int32.toNatClampNeg (M8.2.2.2.2.2.1 - (1 : Int32)))) 0 (v5 + 1)  _ _ hP hD hS _ (lv_sub hl [4, 2, 1, 0] rfl) hm
              · rw [if_neg c_18] at hm
                refine lv_aload_n hx hb dX5_valueOf_138 rfl (lv_at hl 0 rfl) ?_
                refine lv_dup hx hb dX5_valueOf_139 rfl ?_
                refine va_get (D := DG G) (ci := 5) (v := .int M8.2.2.2.2.2.1) (C := RX5) (T := TX5) (N := 12) hx hb hts inW_X5 hown hK hP 31 rfl rfl 8 (by decide) (hts _ wm254) (fun _ h9 => h9) rfl dX5_valueOf_140 ?_
                refine lv_iconst (v := 1) hx hb dX5_valueOf_143 (by decide) ?_
                refine lv_isub hx hb dX5_valueOf_144 ?_
                refine va_put (D := DG G) (ci := 5) (v := .int (M8.2.2.2.2.2.1 - (1 : Int32))) (ty := tyX5 8) (C := RX5) (T := TX5) (N := 12) hx hb hts inW_X5 tyX5 tyX5_ok nmX5 hown hK hP hD hS 31 rfl rfl 8 (by decide) (hts _ wm254) (fun _ h9 => h9) rfl (by decide +kernel) rfl rfl (Nat.le_of_ble_eq_true rfl) dX5_valueOf_145 (fun H locs hP hD hS => ?_)
                have hP : va_P (DG G) clP3 (wC G a T8 F U S D R (M8.1, M8.2.1, M8.2.2.1, M8.2.2.2.1, M8.2.2.2.2.1, (M8.2.2.2.2.2.1 - (1 : Int32)), M8.2.2.2.2.2.2.1, M8.2.2.2.2.2.2.2.1, M8.2.2.2.2.2.2.2.2) N P) H := hP
                have hD : va_D A (wC G a T8 F U S D R (M8.1, M8.2.1, M8.2.2.1, M8.2.2.2.1, M8.2.2.2.2.1, (M8.2.2.2.2.2.1 - (1 : Int32)), M8.2.2.2.2.2.2.1, M8.2.2.2.2.2.2.2.1, M8.2.2.2.2.2.2.2.2) N P) := hD
                refine lv_aload_n hx hb dX5_valueOf_148 rfl (lv_at hl 0 rfl) ?_
                refine lv_aload_n hx hb dX5_valueOf_149 rfl (lv_at hl 0 rfl) ?_
                refine va_get (D := DG G) (ci := 5) (v := .ref (a.1 32)) (C := RX5) (T := TX5) (N := 12) hx hb hts inW_X5 hown hK hP 31 rfl rfl 3 (by decide) (hts _ wm249) (fun _ h9 => h9) rfl dX5_valueOf_150 ?_
                refine lv_aload_n hx hb dX5_valueOf_153 rfl (lv_at hl 0 rfl) ?_
                refine va_get (D := DG G) (ci := 5) (v := .int (M8.2.2.2.2.2.1 - (1 : Int32))) (C := RX5) (T := TX5) (N := 12) hx hb hts inW_X5 hown hK hP 31 rfl rfl 8 (by decide) (hts _ wm254) (fun _ h9 => h9) rfl dX5_valueOf_154 ?_
                obtain ⟨b_21, hm⟩ := ite_some hm
                refine va_iald hx hb hK hP 32 0 rfl rfl (inb_vp b_21) dX5_valueOf_157 ?_
                refine lv_iload_n hx hb dX5_valueOf_158 rfl (lv_at hl 1 rfl) ?_
                obtain ⟨q_22, hq_22, hm⟩ := bind_some hm
                have hFc := free_all hD hS hA
                refine va_calli (va_runV (As := [.int (M8.1 (Int32.toNatClampNeg (M8.2.2.2.2.2.1 - (1 : Int32)))), .int v3]) (rest := []) ⟨hx, hb, hml, hown, hts⟩ (k_X5_applied l hfl G a T8 F U S D R (M8.1, M8.2.1, M8.2.2.1, M8.2.2.2.1, M8.2.2.2.2.1, (M8.2.2.2.2.2.1 - (1 : Int32)), M8.2.2.2.2.2.2.1, M8.2.2.2.2.2.2.2.1, M8.2.2.2.2.2.2.2.2) N P hlk (M8.1 (Int32.toNatClampNeg (M8.2.2.2.2.2.1 - (1 : Int32)))) v3  q_22.1 q_22.2.1 q_22.2.2 hq_22 H.size) (cwV 2 hts (gV wm1175 wm1177 ws_p22 wm10 wm1178) rfl rfl rfl (by decide +kernel) ⟨Nat.le_of_ble_eq_true rfl, Nat.le_of_ble_eq_true rfl⟩) (pre_v (pre_w hK hP hD hS hE hFc) (va_recv hK hP (ci := 5) (q0 := 31) rfl rfl)) rfl rfl hl.1 rfl (lv_room (Nat.le_of_ble_eq_true rfl)) dX5_valueOf_159 ⟨Nat.le_of_ble_eq_true rfl, Nat.le_of_ble_eq_true rfl⟩) hS (fun q _ h => hFc q h) hFc (fun r u t H locs ht hvm hw hB hz1 hk1 hS => ?_)
                rw [show r = q_22.1 from hw]
                have hP : va_P (DG G) clP3 (wC G a q_22.2.1 F U S D R q_22.2.2 N P) H := by rw [← ht]; exact hB.1
                have hD : va_D A (wC G a q_22.2.1 F U S D R q_22.2.2 N P) := hB.2.weaken (fun _ p _ h => hFc p.1 h)
                clear hB hFc hw hk1
                refine W.widen (k := 0) (n := 0) (Nat.le_of_ble_eq_true rfl) (Nat.le_of_ble_eq_true rfl) ?_
                refine lv_istore_n (lv' := [(3, .int q_22.1), (0, .ref (a.1 31)), (4, .int v4), (5, .int v5)]) hx hb dX5_valueOf_162 rfl hl (by decide) rfl (fun ls hl => ?_)
                refine lv_aload_n hx hb dX5_valueOf_163 rfl (lv_at hl 1 rfl) ?_
                refine va_get (D := DG G) (ci := 5) (v := .int q_22.2.2.2.2.2.2.2.2.2.1) (C := RX5) (T := TX5) (N := 12) hx hb hts inW_X5 hown hK hP 31 rfl rfl 10 (by decide) (hts _ wm257) (fun _ h9 => h9) rfl dX5_valueOf_164 ?_
                refine lv_if_ne (tgt := 174) hx hb dX5_valueOf_167 (by decide) (fun c_23 => ?_) (fun c_23 => ?_)
                · rw [if_neg c_23] at hm
                  refine lv_iconst (v := 0) hx hb dX5_valueOf_174 (by decide) ?_
                  refine lv_istore (lv' := [(4, .int 0), (3, .int q_22.1), (0, .ref (a.1 31)), (5, .int v5)]) hx hb dX5_valueOf_175 hl (by decide) rfl (fun ls hl => ?_)
                  refine lv_goto (tgt := 215) hx hb dX5_valueOf_177 (by decide) ?_
                  refine lv_iinc (v := (v5 + 1)) (lv' := [(5, .int (v5 + 1)), (4, .int 0), (3, .int q_22.1), (0, .ref (a.1 31))]) hx hb dX5_valueOf_215 hl (k := 3) rfl rfl (by decide) rfl (fun ls hl => ?_)
                  refine lv_goto (tgt := 46) hx hb dX5_valueOf_218 (by decide) ?_
                  refine W.widen (k := 0) (n := 0) (Nat.le_of_ble_eq_true rfl) (Nat.le_of_ble_eq_true rfl) ?_
                  exact ih q_22.2.1 q_22.2.2 q_22.1 0 (v5 + 1)  _ _ hP hD hS _ (lv_sub hl [3, 2, 1, 0] rfl) hm
                · rw [if_pos c_23] at hm
                  refine lv_iconst (v := 1) hx hb dX5_valueOf_170 (by decide) ?_
                  refine lv_goto (tgt := 175) hx hb dX5_valueOf_171 (by decide) ?_
                  refine lv_istore (lv' := [(4, .int 1), (3, .int q_22.1), (0, .ref (a.1 31)), (5, .int v5)]) hx hb dX5_valueOf_175 hl (by decide) rfl (fun ls hl => ?_)
                  refine lv_goto (tgt := 215) hx hb dX5_valueOf_177 (by decide) ?_
                  refine lv_iinc (v := (v5 + 1)) (lv' := [(5, .int (v5 + 1)), (4, .int 1), (3, .int q_22.1), (0, .ref (a.1 31))]) hx hb dX5_valueOf_215 hl (k := 3) rfl rfl (by decide) rfl (fun ls hl => ?_)
                  refine lv_goto (tgt := 46) hx hb dX5_valueOf_218 (by decide) ?_
                  refine W.widen (k := 0) (n := 0) (Nat.le_of_ble_eq_true rfl) (Nat.le_of_ble_eq_true rfl) ?_
                  exact ih q_22.2.1 q_22.2.2 q_22.1 1 (v5 + 1)  _ _ hP hD hS _ (lv_sub hl [3, 2, 1, 0] rfl) hm
            · rw [if_pos c_16] at hm
              refine lv_iload_n hx hb dX5_valueOf_122 rfl (lv_at hl 1 rfl) ?_
              simp only [Option.some.injEq, Prod.mk.injEq] at hm
              obtain ⟨rfl, rfl, rfl⟩ := hm
              refine W.widen (k := 0) (n := 0) (Nat.le_of_ble_eq_true rfl) (Nat.le_of_ble_eq_true rfl) ?_
              exact W.iret (v := v3) hx hb hr (fun t ht hW => ⟨⟨v3, (), rfl, rfl, ⟨by rw [ht]; exact hP, by rw [hAe]; exact hD⟩⟩, by rw [hAe]; exact hS.F ht⟩) (by rw [hAe]; exact hS.2.2) dX5_valueOf_123 hlocks
          · rw [if_pos c_15] at hm
            refine lv_aload_n hx hb dX5_valueOf_76 rfl (lv_at hl 0 rfl) ?_
            refine lv_aload_n hx hb dX5_valueOf_77 rfl (lv_at hl 0 rfl) ?_
            refine va_get (D := DG G) (ci := 5) (v := .ref (a.1 1)) (C := RX5) (T := TX5) (N := 12) hx hb hts inW_X5 hown hK hP 31 rfl rfl 0 (by decide) (hts _ wm246) (fun _ h9 => h9) rfl dX5_valueOf_78 ?_
            refine lv_iload_n hx hb dX5_valueOf_81 rfl (lv_at hl 1 rfl) ?_
            obtain ⟨q_24, hq_24, hm⟩ := bind_some hm
            have hFc := free_all hD hS hA
            refine va_calli (va_runV (As := [.int v3]) (rest := [.ref (a.1 31)]) ⟨hx, hb, hml, hown, hts⟩ (K_X9_secondOf l hfl G a T8 F U S D R M8 N P v3  q_24 hq_24 H.size) (cwV 1 hts (gV wm1169 wm460 wm461 wm2 wm462) rfl rfl rfl (by decide +kernel) ⟨Nat.le_of_ble_eq_true rfl, Nat.le_of_ble_eq_true rfl⟩) (pre_v (pre_w hK hP hD hS hE hFc) (va_recv hK hP (ci := 8) (q0 := 1) rfl rfl)) rfl rfl hl.1 rfl (lv_room (Nat.le_of_ble_eq_true rfl)) dX5_valueOf_82 ⟨Nat.le_of_ble_eq_true rfl, Nat.le_of_ble_eq_true rfl⟩) hS (fun q _ h => hFc q h) hFc (fun r u t H locs ht hvm hw hB hz1 hk1 hS => ?_)
            rw [show r = q_24 from hw]
            have hP : va_P (DG G) clP3 (wC G a T8 F U S D R M8 N P) H := by rw [← ht]; exact hB.1
            have hD : va_D A (wC G a T8 F U S D R M8 N P) := hB.2.weaken (fun _ p _ h => hFc p.1 h)
            clear hB hFc hw hk1
            refine W.widen (k := 0) (n := 0) (Nat.le_of_ble_eq_true rfl) (Nat.le_of_ble_eq_true rfl) ?_
            refine lv_iconst (v := 0) hx hb dX5_valueOf_85 (by decide) ?_
            obtain ⟨q_25, hq_25, hm⟩ := bind_some hm
            have hFc := free_all hD hS hA
            refine va_callv (va_runV (As := [.int q_24, .int 0]) (rest := []) ⟨hx, hb, hml, hown, hts⟩ (K_X5_push l hfl G a T8 F U S D R M8 N P q_24 0  q_25 hq_25 H.size) (cwV 2 hts (gV wm1170 wm1172 ws_p21 wm10 wm1173) rfl rfl rfl (by decide +kernel) ⟨Nat.le_of_ble_eq_true rfl, Nat.le_of_ble_eq_true rfl⟩) (pre_v (pre_w hK hP hD hS hE hFc) (va_recv hK hP (ci := 5) (q0 := 31) rfl rfl)) rfl rfl hl.1 rfl (lv_room (Nat.le_of_ble_eq_true rfl)) dX5_valueOf_86 ⟨Nat.le_of_ble_eq_true rfl, Nat.le_of_ble_eq_true rfl⟩) hS (fun q _ h => hFc q h) hFc (fun u t H locs ht hvm hw hB hz1 hk1 hS => ?_)
            have hP : va_P (DG G) clP3 (wC G a T8 F U S D R q_25 N P) H := by rw [← ht]; exact hB.1
            have hD : va_D A (wC G a T8 F U S D R q_25 N P) := hB.2.weaken (fun _ p _ h => hFc p.1 h)
            clear hB hFc hk1
            refine W.widen (k := 0) (n := 0) (Nat.le_of_ble_eq_true rfl) (Nat.le_of_ble_eq_true rfl) ?_
            refine lv_aload_n hx hb dX5_valueOf_89 rfl (lv_at hl 0 rfl) ?_
            refine va_get (D := DG G) (ci := 5) (v := .int q_25.2.2.2.2.2.1) (C := RX5) (T := TX5) (N := 12) hx hb hts inW_X5 hown hK hP 31 rfl rfl 8 (by decide) (hts _ wm254) (fun _ h9 => h9) rfl dX5_valueOf_90 ?_
            refine lv_sipush (v := 4200) hx hb dX5_valueOf_93 (by decide) ?_
            refine lv_icmp_ge (tgt := 110) hx hb dX5_valueOf_96 (by decide) (fun c_26 => ?_) (fun c_26 => ?_)
            · rw [if_pos c_26] at hm
              refine lv_iconst (v := (-1)) hx hb dX5_valueOf_110 (by decide) ?_
              refine lv_istore_n (lv' := [(3, .int (-1)), (0, .ref (a.1 31)), (4, .int v4), (5, .int v5)]) hx hb dX5_valueOf_111 rfl hl (by decide) rfl (fun ls hl => ?_)
              refine lv_goto (tgt := 215) hx hb dX5_valueOf_112 (by decide) ?_
              refine lv_iinc (v := (v5 + 1)) (lv' := [(5, .int (v5 + 1)), (3, .int (-1)), (0, .ref (a.1 31)), (4, .int v4)]) hx hb dX5_valueOf_215 hl (k := 3) rfl rfl (by decide) rfl (fun ls hl => ?_)
              refine lv_goto (tgt := 46) hx hb dX5_valueOf_218 (by decide) ?_
              refine W.widen (k := 0) (n := 0) (Nat.le_of_ble_eq_true rfl) (Nat.le_of_ble_eq_true rfl) ?_
              exact ih T8 q_25 (-1) v4 (v5 + 1)  _ _ hP hD hS _ (lv_sub hl [2, 1, 3, 0] rfl) hm
            · rw [if_neg c_26] at hm
              refine lv_aload_n hx hb dX5_valueOf_99 rfl (lv_at hl 0 rfl) ?_
              refine va_get (D := DG G) (ci := 5) (v := .ref (a.1 1)) (C := RX5) (T := TX5) (N := 12) hx hb hts inW_X5 hown hK hP 31 rfl rfl 0 (by decide) (hts _ wm246) (fun _ h9 => h9) rfl dX5_valueOf_100 ?_
              refine lv_iload_n hx hb dX5_valueOf_103 rfl (lv_at hl 1 rfl) ?_
              obtain ⟨q_27, hq_27, hm⟩ := bind_some hm
              have hFc := free_all hD hS hA
              refine va_calli (va_runV (As := [.int v3]) (rest := []) ⟨hx, hb, hml, hown, hts⟩ (K_X9_firstOf l hfl G a T8 F U S D R q_25 N P v3  q_27 hq_27 H.size) (cwV 1 hts (gV wm1174 wm431 wm432 wm2 wm433) rfl rfl rfl (by decide +kernel) ⟨Nat.le_of_ble_eq_true rfl, Nat.le_of_ble_eq_true rfl⟩) (pre_v (pre_w hK hP hD hS hE hFc) (va_recv hK hP (ci := 8) (q0 := 1) rfl rfl)) rfl rfl hl.1 rfl (lv_room (Nat.le_of_ble_eq_true rfl)) dX5_valueOf_104 ⟨Nat.le_of_ble_eq_true rfl, Nat.le_of_ble_eq_true rfl⟩) hS (fun q _ h => hFc q h) hFc (fun r u t H locs ht hvm hw hB hz1 hk1 hS => ?_)
              rw [show r = q_27 from hw]
              have hP : va_P (DG G) clP3 (wC G a T8 F U S D R q_25 N P) H := by rw [← ht]; exact hB.1
              have hD : va_D A (wC G a T8 F U S D R q_25 N P) := hB.2.weaken (fun _ p _ h => hFc p.1 h)
              clear hB hFc hw hk1
              refine W.widen (k := 0) (n := 0) (Nat.le_of_ble_eq_true rfl) (Nat.le_of_ble_eq_true rfl) ?_
              refine lv_goto (tgt := 111) hx hb dX5_valueOf_107 (by decide) ?_
              refine lv_istore_n (lv' := [(3, .int q_27), (0, .ref (a.1 31)), (4, .int v4), (5, .int v5)]) hx hb dX5_valueOf_111 rfl hl (by decide) rfl (fun ls hl => ?_)
              refine lv_goto (tgt := 215) hx hb dX5_valueOf_112 (by decide) ?_
              refine lv_iinc (v := (v5 + 1)) (lv' := [(5, .int (v5 + 1)), (3, .int q_27), (0, .ref (a.1 31)), (4, .int v4)]) hx hb dX5_valueOf_215 hl (k := 3) rfl rfl (by decide) rfl (fun ls hl => ?_)
              refine lv_goto (tgt := 46) hx hb dX5_valueOf_218 (by decide) ?_
              refine W.widen (k := 0) (n := 0) (Nat.le_of_ble_eq_true rfl) (Nat.le_of_ble_eq_true rfl) ?_
              exact ih T8 q_25 q_27 v4 (v5 + 1)  _ _ hP hD hS _ (lv_sub hl [2, 1, 3, 0] rfl) hm
set_option maxHeartbeats 2000000 in
set_option maxRecDepth 100000 in
theorem k_X5_valueOf0 (l : Launch) (hfl : l.stackTraces = false) (G : GC) (a : AS) (T : TS) (F : FS) (U : US) (S : SS) (D : DS) (R : RS) (M : MS) (N : NS) (P : PS) (hlk : lkA a D.1.toNatClampNeg D.2.1.toNatClampNeg) (p1 : Int32) (r9 : Int32) (T9 : TS) (M9 : MS) (hm : f_X5_valueOf0 T S D M P p1 = some (r9, T9, M9)) (sz : Nat) : Met l yX5_valueOf (Cond.code yX5_valueOf cX5_valueOf 7 (some .int) :: W0) ({ frames := 405, cells := 0, slots := 0, locals := 10518 }) (va_Pc [.ref (a.1 31), .int p1, .int 0] (WD G (wC G a T F U S D R M N P) sz)) (va_Qi (fun (r : Int32) (_ : Unit) => r = r9) (fun _ t => PW G (va_A (wC G a T F U S D R M N P) sz) (wC G a T9 F U S D R M9 N P) t) (va_A (wC G a T F U S D R M N P) sz)) 0 0 (va_A (wC G a T F U S D R M N P) sz) := by
  rw [f_X5_valueOf0] at hm
  refine Met.ofW (cc := cX5_valueOf) (maxL := 7) (ret := (some .int)) (by decide) rfl ?_
  intro p e s m args below meth c s₁ B hml hv
  obtain ⟨rfl, hsz, hP, hK, hD0, hE⟩ := hv
  have hx := B.exec
  have hb := B.bytes
  have hr := B.returns
  have hts := w0_tail B.pre
  have hown : s.vm.findClass RX5 = some m.cls := findClass_of_methodNamed B.named
  have hlocks := B.notSynchronized
  have hD := hD0.self (sz := sz)
  obtain ⟨A, hAe⟩ : ∃ A, (va_A (wC G a T F U S D R M N P) sz) = A := ⟨_, rfl⟩
  rw [hAe] at hD hE
  have hA : ∀ q : Nat, s.heap.size ≤ q → A q := fun q h => by rw [← hAe]; exact Or.inr (by rw [← hsz]; exact h)
  have hS : va_S A s.heap s.heap [] := va_S.rf
  obtain ⟨H, hHe⟩ : ∃ H : Heap, H = s.heap := ⟨_, rfl⟩
  have hP : va_P (DG G) clP3 (wC G a T F U S D R M N P) H := by rw [hHe]; exact hP
  have hS : va_S A s.heap H [] := by rw [hHe]; exact hS
  have hl := lv_entry ([.ref (a.1 31), .int p1, .int 0]) (n := 7) (Nat.le_of_ble_eq_true rfl)
  rw [lg_entry_eq, ← hHe]
  generalize (lg_sl ([.ref (a.1 31), .int p1, .int 0]) ++ List.replicate (7 - (lg_sl ([.ref (a.1 31), .int p1, .int 0])).length) Slot.unset).toArray = ls at hl ⊢
  have hl : lv_has ls 7 [(0, .ref (a.1 31)), (1, .int p1), (2, .int 0)] := hl
  refine lv_aload_n hx hb dX5_valueOf_0 rfl (lv_at hl 0 rfl) ?_
  refine va_get (D := DG G) (ci := 5) (v := .ref (a.1 1)) (C := RX5) (T := TX5) (N := 12) hx hb hts inW_X5 hown hK hP 31 rfl rfl 0 (by decide) (hts _ wm246) (fun _ h9 => h9) rfl dX5_valueOf_1 ?_
  refine lv_iload_n hx hb dX5_valueOf_4 rfl (lv_at hl 1 rfl) ?_
  obtain ⟨q_1, hq_1, hm⟩ := bind_some hm
  have hFc := free_all hD hS hA
  refine va_calli (va_runV (As := [.int p1]) (rest := []) ⟨hx, hb, hml, hown, hts⟩ (K_X9_callsOf l hfl G a T F U S D R M N P p1  q_1 hq_1 H.size) (cwV 1 hts (gV wm1166 wm1031 wm1032 wm2 wm1033) rfl rfl rfl (by decide +kernel) ⟨Nat.le_of_ble_eq_true rfl, Nat.le_of_ble_eq_true rfl⟩) (pre_v (pre_w hK hP hD hS hE hFc) (va_recv hK hP (ci := 8) (q0 := 1) rfl rfl)) rfl rfl hl.1 rfl (lv_room (Nat.le_of_ble_eq_true rfl)) dX5_valueOf_5 ⟨Nat.le_of_ble_eq_true rfl, Nat.le_of_ble_eq_true rfl⟩) hS (fun q _ h => hFc q h) hFc (fun r u t H locs ht hvm hw hB hz1 hk1 hS => ?_)
  rw [show r = q_1 from hw]
  have hP : va_P (DG G) clP3 (wC G a T F U S D R M N P) H := by rw [← ht]; exact hB.1
  have hD : va_D A (wC G a T F U S D R M N P) := hB.2.weaken (fun _ p _ h => hFc p.1 h)
  clear hB hFc hw hk1
  refine W.widen (k := 0) (n := 0) (Nat.le_of_ble_eq_true rfl) (Nat.le_of_ble_eq_true rfl) ?_
  refine lv_aload_n hx hb dX5_valueOf_8 rfl (lv_at hl 0 rfl) ?_
  refine va_get (D := DG G) (ci := 5) (v := .ref (a.1 21)) (C := RX5) (T := TX5) (N := 12) hx hb hts inW_X5 hown hK hP 31 rfl rfl 2 (by decide) (hts _ wm248) (fun _ h9 => h9) rfl dX5_valueOf_9 ?_
  refine va_getN (D := DG G) (ci := 0) (v := .int D.2.2) (C := RX0) (T := TX0) (N := 8) hx hb hts inW_X0 hown hK hP 21 rfl rfl 7 (by decide) (va_Nw.use rfl (hE.1 _ nw149)) (fun _ h9 => h9) rfl dX5_valueOf_12 ?_
  refine lv_iconst (v := (-1)) hx hb dX5_valueOf_15 (by decide) ?_
  refine lv_ixor hx hb dX5_valueOf_16 ?_
  refine lv_iand hx hb dX5_valueOf_17 ?_
  refine lv_if_eq (tgt := 23) hx hb dX5_valueOf_18 (by decide) (fun c_2 => ?_) (fun c_2 => ?_)
  · rw [if_pos c_2] at hm
    refine lv_aload_n hx hb dX5_valueOf_23 rfl (lv_at hl 0 rfl) ?_
    refine lv_iload_n hx hb dX5_valueOf_24 rfl (lv_at hl 2 rfl) ?_
    refine va_put (D := DG G) (ci := 5) (v := .int 0) (ty := tyX5 11) (C := RX5) (T := TX5) (N := 12) hx hb hts inW_X5 tyX5 tyX5_ok nmX5 hown hK hP hD hS 31 rfl rfl 11 (by decide) (hts _ wm258) (fun _ h9 => h9) rfl (by decide +kernel) rfl rfl (Nat.le_of_ble_eq_true rfl) dX5_valueOf_25 (fun H locs hP hD hS => ?_)
    have hP : va_P (DG G) clP3 (wC G a T F U S D R (M.1, M.2.1, M.2.2.1, M.2.2.2.1, M.2.2.2.2.1, M.2.2.2.2.2.1, M.2.2.2.2.2.2.1, M.2.2.2.2.2.2.2.1, 0) N P) H := hP
    have hD : va_D A (wC G a T F U S D R (M.1, M.2.1, M.2.2.1, M.2.2.2.1, M.2.2.2.2.1, M.2.2.2.2.2.1, M.2.2.2.2.2.2.1, M.2.2.2.2.2.2.2.1, 0) N P) := hD
    refine lv_aload_n hx hb dX5_valueOf_28 rfl (lv_at hl 0 rfl) ?_
    refine lv_iconst (v := 0) hx hb dX5_valueOf_29 (by decide) ?_
    refine va_put (D := DG G) (ci := 5) (v := .int 0) (ty := tyX5 8) (C := RX5) (T := TX5) (N := 12) hx hb hts inW_X5 tyX5 tyX5_ok nmX5 hown hK hP hD hS 31 rfl rfl 8 (by decide) (hts _ wm254) (fun _ h9 => h9) rfl (by decide +kernel) rfl rfl (Nat.le_of_ble_eq_true rfl) dX5_valueOf_30 (fun H locs hP hD hS => ?_)
    have hP : va_P (DG G) clP3 (wC G a T F U S D R (M.1, M.2.1, M.2.2.1, M.2.2.2.1, M.2.2.2.2.1, 0, M.2.2.2.2.2.2.1, M.2.2.2.2.2.2.2.1, 0) N P) H := hP
    have hD : va_D A (wC G a T F U S D R (M.1, M.2.1, M.2.2.1, M.2.2.2.1, M.2.2.2.2.1, 0, M.2.2.2.2.2.2.1, M.2.2.2.2.2.2.2.1, 0) N P) := hD
    refine lv_aload_n hx hb dX5_valueOf_33 rfl (lv_at hl 0 rfl) ?_
    refine lv_iconst (v := 0) hx hb dX5_valueOf_34 (by decide) ?_
    refine va_put (D := DG G) (ci := 5) (v := .int 0) (ty := tyX5 9) (C := RX5) (T := TX5) (N := 12) hx hb hts inW_X5 tyX5 tyX5_ok nmX5 hown hK hP hD hS 31 rfl rfl 9 (by decide) (hts _ wm255) (fun _ h9 => h9) rfl (by decide +kernel) rfl rfl (Nat.le_of_ble_eq_true rfl) dX5_valueOf_35 (fun H locs hP hD hS => ?_)
    have hP : va_P (DG G) clP3 (wC G a T F U S D R (M.1, M.2.1, M.2.2.1, M.2.2.2.1, M.2.2.2.2.1, 0, 0, M.2.2.2.2.2.2.2.1, 0) N P) H := hP
    have hD : va_D A (wC G a T F U S D R (M.1, M.2.1, M.2.2.1, M.2.2.2.1, M.2.2.2.2.1, 0, 0, M.2.2.2.2.2.2.2.1, 0) N P) := hD
    refine lv_iload_n hx hb dX5_valueOf_38 rfl (lv_at hl 1 rfl) ?_
    refine lv_istore_n (lv' := [(3, .int p1), (0, .ref (a.1 31)), (1, .int p1), (2, .int 0)]) hx hb dX5_valueOf_39 rfl hl (by decide) rfl (fun ls hl => ?_)
    refine lv_iconst (v := 0) hx hb dX5_valueOf_40 (by decide) ?_
    refine lv_istore (lv' := [(4, .int 0), (3, .int p1), (0, .ref (a.1 31)), (1, .int p1), (2, .int 0)]) hx hb dX5_valueOf_41 hl (by decide) rfl (fun ls hl => ?_)
    refine lv_iconst (v := 0) hx hb dX5_valueOf_43 (by decide) ?_
    refine lv_istore (lv' := [(5, .int 0), (4, .int 0), (3, .int p1), (0, .ref (a.1 31)), (1, .int p1), (2, .int 0)]) hx hb dX5_valueOf_44 hl (by decide) rfl (fun ls hl => ?_)
    refine W.widen (k := 0) (n := 0) (Nat.le_of_ble_eq_true rfl) (Nat.le_of_ble_eq_true rfl) ?_
    exact kl_X5_valueOf0_46 hfl hx hb hr hml hown hts hlocks hlk hAe hA hE hK r9 T9 M9 100000 T (M.1, M.2.1, M.2.2.1, M.2.2.2.1, M.2.2.2.2.1, 0, 0, M.2.2.2.2.2.2.2.1, 0) p1 0 0  _ _ hP hD hS _ (lv_sub hl [3, 2, 1, 0] rfl) hm
  · rw [if_neg c_2] at hm
    refine lv_iconst (v := (-1)) hx hb dX5_valueOf_21 (by decide) ?_
    simp only [Option.some.injEq, Prod.mk.injEq] at hm
    obtain ⟨rfl, rfl, rfl⟩ := hm
    refine W.widen (k := 0) (n := 0) (Nat.le_of_ble_eq_true rfl) (Nat.le_of_ble_eq_true rfl) ?_
    exact W.iret (v := (-1)) hx hb hr (fun t ht hW => ⟨⟨(-1), (), rfl, rfl, ⟨by rw [ht]; exact hP, by rw [hAe]; exact hD⟩⟩, by rw [hAe]; exact hS.F ht⟩) (by rw [hAe]; exact hS.2.2) dX5_valueOf_22 hlocks
def f_X5_valueOf1_L46 : Nat → TS → SS → DS → MS → PS → Int32 → Int32 → Int32 → Option (Int32 × TS × MS)
  | 0, _, _, _, _, _, _, _, _ => none
  | n + 1, T, S, D, M, P, v3, v4, v5 => (if 1000000 ≤ v5 then some ((-1), T, M) else (if v3 = (-1) then some ((-1), T, M) else (if v4 = 0 then (Option.bind (g_X9_kindOf T v3) (fun q_14 => (if q_14 = 7 then (Option.bind (g_X9_secondOf T v3) (fun q_24 => (Option.bind (g_X5_push M q_24 0) (fun q_25 => (if 4200 ≤ q_25.2.2.2.2.2.1 then (f_X5_valueOf1_L46 n T S D q_25 P (-1) v4 (v5 + 1)) else (Option.bind (g_X9_firstOf T v3) (fun q_27 => (f_X5_valueOf1_L46 n T S D q_25 P q_27 v4 (v5 + 1))))))))) else (if M.2.2.2.2.2.1 = 0 then some (v3, T, M) else (if inb (M.2.2.2.2.2.1 - (1 : Int32)) 4200 = true then (if (M.2.1 (Int32.toNatClampNeg (M.2.2.2.2.2.1 - (1 : Int32)))) = 0 then (if inb (M.2.2.2.2.2.1 - (1 : Int32)) 4200 = true then (Option.bind (g_X5_push (M.1, M.2.1, M.2.2.1, M.2.2.2.1, M.2.2.2.2.1, (M.2.2.2.2.2.1 - (1 : Int32)), M.2.2.2.2.2.2.1, M.2.2.2.2.2.2.2.1, M.2.2.2.2.2.2.2.2) v3 1) (fun q_20 => (f_X5_valueOf1_L46 n T S D q_20 P (M.1 (Int32.toNatClampNeg (M.2.2.2.2.2.1 - (1 : Int32)))) 0 (v5 + 1)))) else none) else (if inb (M.2.2.2.2.2.1 - (1 : Int32)) 4200 = true then (Option.bind (f_X5_applied T S D (M.1, M.2.1, M.2.2.1, M.2.2.2.1, M.2.2.2.2.1, (M.2.2.2.2.2.1 - (1 : Int32)), M.2.2.2.2.2.2.1, M.2.2.2.2.2.2.2.1, M.2.2.2.2.2.2.2.2) P (M.1 (Int32.toNatClampNeg (M.2.2.2.2.2.1 - (1 : Int32)))) v3) (fun q_22 => (if q_22.2.2.2.2.2.2.2.2.2.1 = 0 then (f_X5_valueOf1_L46 n q_22.2.1 S D q_22.2.2 P q_22.1 1 (v5 + 1)) else (f_X5_valueOf1_L46 n q_22.2.1 S D q_22.2.2 P q_22.1 0 (v5 + 1))))) else none)) else none))))) else (if M.2.2.2.2.2.1 = 0 then some (v3, T, M) else (if inb (M.2.2.2.2.2.1 - (1 : Int32)) 4200 = true then (if (M.2.1 (Int32.toNatClampNeg (M.2.2.2.2.2.1 - (1 : Int32)))) = 0 then (if inb (M.2.2.2.2.2.1 - (1 : Int32)) 4200 = true then (Option.bind (g_X5_push (M.1, M.2.1, M.2.2.1, M.2.2.2.1, M.2.2.2.2.1, (M.2.2.2.2.2.1 - (1 : Int32)), M.2.2.2.2.2.2.1, M.2.2.2.2.2.2.2.1, M.2.2.2.2.2.2.2.2) v3 1) (fun q_10 => (f_X5_valueOf1_L46 n T S D q_10 P (M.1 (Int32.toNatClampNeg (M.2.2.2.2.2.1 - (1 : Int32)))) 0 (v5 + 1)))) else none) else (if inb (M.2.2.2.2.2.1 - (1 : Int32)) 4200 = true then (Option.bind (f_X5_applied T S D (M.1, M.2.1, M.2.2.1, M.2.2.2.1, M.2.2.2.2.1, (M.2.2.2.2.2.1 - (1 : Int32)), M.2.2.2.2.2.2.1, M.2.2.2.2.2.2.2.1, M.2.2.2.2.2.2.2.2) P (M.1 (Int32.toNatClampNeg (M.2.2.2.2.2.1 - (1 : Int32)))) v3) (fun q_12 => (if q_12.2.2.2.2.2.2.2.2.2.1 = 0 then (f_X5_valueOf1_L46 n q_12.2.1 S D q_12.2.2 P q_12.1 1 (v5 + 1)) else (f_X5_valueOf1_L46 n q_12.2.1 S D q_12.2.2 P q_12.1 0 (v5 + 1))))) else none)) else none)))))
def f_X5_valueOf1 (T : TS) (S : SS) (D : DS) (M : MS) (P : PS) (p1 : Int32) : Option (Int32 × TS × MS) := (Option.bind (g_X9_callsOf T p1) (fun q_1 => (if (q_1 &&& (D.2.2 ^^^ ((-1) : Int32))) = 0 then (f_X5_valueOf1_L46 100000 T S D (M.1, M.2.1, M.2.2.1, M.2.2.2.1, M.2.2.2.2.1, 0, 0, M.2.2.2.2.2.2.2.1, 1) P p1 0 0) else some ((-1), T, M))))
set_option maxHeartbeats 2000000 in
set_option maxRecDepth 100000 in
theorem kl_X5_valueOf1_46 {l : Launch} (hfl : l.stackTraces = false) {G : GC} {a : AS} {T : TS} {F : FS} {U : US} {S : SS} {D : DS} {R : RS} {M : MS} {N : NS} {P : PS} {A : Nat → Prop} {sz : Nat} {p : Program} {e : Env} {s : State} {m : MethodId} {args : Array Value} {below : List Frame} {meth : Method} {c : Code} (hx : p.tables.exec = Jvm.exec) (hb : c.code = cX5_valueOf) (hr : meth.sig.returnType = (some .int)) (hml : c.maxLocals = 7) (hown : s.vm.findClass RX5 = some m.cls) (hts : ∀ w ∈ W0, w.before args s = true) (hlocks : meth.locks = false) (hlk : lkA a D.1.toNatClampNeg D.2.1.toNatClampNeg) (hAe : (va_A (wC G a T F U S D R M N P) sz) = A) (hA : ∀ q : Nat, s.heap.size ≤ q → A q) (hE : EV G A s s.heap) (hK : va_K (DG G) clP3 (TY G) s) (r9 : Int32) (T9 : TS) (M9 : MS) : ∀ (n : Nat), ∀ (T8 : TS) (M8 : MS) (v3 : Int32) (v4 : Int32) (v5 : Int32) (H : Heap) (locs : List Loc), va_P (DG G) clP3 (wC G a T8 F U S D R M8 N P) H → va_D A (wC G a T8 F U S D R M8 N P) → va_S A s.heap H locs → ∀ (ls : Array Slot), lv_has ls 7 [(0, .ref (a.1 31)), (3, .int v3), (4, .int v4), (5, .int v5)] → f_X5_valueOf1_L46 n T8 S D M8 P v3 v4 v5 = some (r9, T9, M9) → W p l e ({ frames := 405, cells := 0, slots := 0, locals := 10518 }) s m args below meth c H locs 0 0 (MQ below (va_Qi (fun (r : Int32) (_ : Unit) => r = r9) (fun _ t => PW G (va_A (wC G a T F U S D R M N P) sz) (wC G a T9 F U S D R M9 N P) t) (va_A (wC G a T F U S D R M N P) sz)) args s 0 0 (va_A (wC G a T F U S D R M N P) sz)) (F0 m 46 ls []) := by
  intro n
  induction n with
  | zero =>
    intro T8 M8 v3 v4 v5 H locs hP hD hS ls hl hm
    rw [f_X5_valueOf1_L46] at hm
    cases hm
  | succ n ih =>
    intro T8 M8 v3 v4 v5 H locs hP hD hS ls hl hm
    rw [f_X5_valueOf1_L46] at hm
    refine lv_iload hx hb dX5_valueOf_46 (lv_at hl 3 rfl) ?_
    refine lv_ldc (v := 1000000) hx hb hown (hts _ wm1167) dX5_valueOf_48 ?_
    refine lv_icmp_ge (tgt := 221) hx hb dX5_valueOf_50 (by decide) (fun c_3 => ?_) (fun c_3 => ?_)
    · rw [if_pos c_3] at hm
      refine lv_iconst (v := (-1)) hx hb dX5_valueOf_221 (by decide) ?_
      simp only [Option.some.injEq, Prod.mk.injEq] at hm
      obtain ⟨rfl, rfl, rfl⟩ := hm
      refine W.widen (k := 0) (n := 0) (Nat.le_of_ble_eq_true rfl) (Nat.le_of_ble_eq_true rfl) ?_
      exact W.iret (v := (-1)) hx hb hr (fun t ht hW => ⟨⟨(-1), (), rfl, rfl, ⟨by rw [ht]; exact hP, by rw [hAe]; exact hD⟩⟩, by rw [hAe]; exact hS.F ht⟩) (by rw [hAe]; exact hS.2.2) dX5_valueOf_222 hlocks
    · rw [if_neg c_3] at hm
      refine lv_iload_n hx hb dX5_valueOf_53 rfl (lv_at hl 1 rfl) ?_
      refine lv_iconst (v := (-1)) hx hb dX5_valueOf_54 (by decide) ?_
      refine lv_icmp_eq (tgt := 221) hx hb dX5_valueOf_55 (by decide) (fun c_4 => ?_) (fun c_4 => ?_)
      · rw [if_pos c_4] at hm
        refine lv_iconst (v := (-1)) hx hb dX5_valueOf_221 (by decide) ?_
        simp only [Option.some.injEq, Prod.mk.injEq] at hm
        obtain ⟨rfl, rfl, rfl⟩ := hm
        refine W.widen (k := 0) (n := 0) (Nat.le_of_ble_eq_true rfl) (Nat.le_of_ble_eq_true rfl) ?_
        exact W.iret (v := (-1)) hx hb hr (fun t ht hW => ⟨⟨(-1), (), rfl, rfl, ⟨by rw [ht]; exact hP, by rw [hAe]; exact hD⟩⟩, by rw [hAe]; exact hS.F ht⟩) (by rw [hAe]; exact hS.2.2) dX5_valueOf_222 hlocks
      · rw [if_neg c_4] at hm
        refine lv_iload hx hb dX5_valueOf_58 (lv_at hl 2 rfl) ?_
        refine lv_if_ne (tgt := 115) hx hb dX5_valueOf_60 (by decide) (fun c_5 => ?_) (fun c_5 => ?_)
        · rw [if_neg c_5] at hm
          refine lv_aload_n hx hb dX5_valueOf_115 rfl (lv_at hl 0 rfl) ?_
          refine va_get (D := DG G) (ci := 5) (v := .int M8.2.2.2.2.2.1) (C := RX5) (T := TX5) (N := 12) hx hb hts inW_X5 hown hK hP 31 rfl rfl 8 (by decide) (hts _ wm254) (fun _ h9 => h9) rfl dX5_valueOf_116 ?_
          refine lv_if_ne (tgt := 124) hx hb dX5_valueOf_119 (by decide) (fun c_6 => ?_) (fun c_6 => ?_)
          · rw [if_neg c_6] at hm
            refine lv_aload_n hx hb dX5_valueOf_124 rfl (lv_at hl 0 rfl) ?_
            refine va_get (D := DG G) (ci := 5) (v := .ref (a.1 33)) (C := RX5) (T := TX5) (N := 12) hx hb hts inW_X5 hown hK hP 31 rfl rfl 4 (by decide) (hts _ wm250) (fun _ h9 => h9) rfl dX5_valueOf_125 ?_
            refine lv_aload_n hx hb dX5_valueOf_128 rfl (lv_at hl 0 rfl) ?_
            refine va_get (D := DG G) (ci := 5) (v := .int M8.2.2.2.2.2.1) (C := RX5) (T := TX5) (N := 12) hx hb hts inW_X5 hown hK hP 31 rfl rfl 8 (by decide) (hts _ wm254) (fun _ h9 => h9) rfl dX5_valueOf_129 ?_
            refine lv_iconst (v := 1) hx hb dX5_valueOf_132 (by decide) ?_
            refine lv_isub hx hb dX5_valueOf_133 ?_
            obtain ⟨b_7, hm⟩ := ite_some hm
            refine va_zald hx hb hK hP 33 1 rfl rfl (inb_vp b_7) dX5_valueOf_134 ?_
            refine lv_if_eq (tgt := 180) hx hb dX5_valueOf_135 (by decide) (fun c_8 => ?_) (fun c_8 => ?_)
            · rw [if_pos c_8] at hm
              refine lv_aload_n hx hb dX5_valueOf_180 rfl (lv_at hl 0 rfl) ?_
              refine va_get (D := DG G) (ci := 5) (v := .ref (a.1 32)) (C := RX5) (T := TX5) (N := 12) hx hb hts inW_X5 hown hK hP 31 rfl rfl 3 (by decide) (hts _ wm249) (fun _ h9 => h9) rfl dX5_valueOf_181 ?_
              refine lv_aload_n hx hb dX5_valueOf_184 rfl (lv_at hl 0 rfl) ?_
              refine va_get (D := DG G) (ci := 5) (v := .int M8.2.2.2.2.2.1) (C := RX5) (T := TX5) (N := 12) hx hb hts inW_X5 hown hK hP 31 rfl rfl 8 (by decide) (hts _ wm254) (fun _ h9 => h9) rfl dX5_valueOf_185 ?_
              refine lv_iconst (v := 1) hx hb dX5_valueOf_188 (by decide) ?_
              refine lv_isub hx hb dX5_valueOf_189 ?_
              obtain ⟨b_9, hm⟩ := ite_some hm
              refine va_iald hx hb hK hP 32 0 rfl rfl (inb_vp b_9) dX5_valueOf_190 ?_
              refine lv_istore (lv' := [(6, .int (M8.1 (Int32.toNatClampNeg (M8.2.2.2.2.2.1 - (1 : Int32))))), (0, .ref (a.1 31)), (3, .int v3), (4, .int v4), (5, .int v5)]) hx hb dX5_valueOf_191 hl (by decide) rfl (fun ls hl => ?_)
              refine lv_aload_n hx hb dX5_valueOf_193 rfl (lv_at hl 1 rfl) ?_
              refine lv_dup hx hb dX5_valueOf_194 rfl ?_
              refine va_get (D := DG G) (ci := 5) (v := .int M8.2.2.2.2.2.1) (C := RX5) (T := TX5) (N := 12) hx hb hts inW_X5 hown hK hP 31 rfl rfl 8 (by decide) (hts _ wm254) (fun _ h9 => h9) rfl dX5_valueOf_195 ?_
              refine lv_iconst (v := 1) hx hb dX5_valueOf_198 (by decide) ?_
              refine lv_isub hx hb dX5_valueOf_199 ?_
              refine va_put (D := DG G) (ci := 5) (v := .int (M8.2.2.2.2.2.1 - (1 : Int32))) (ty := tyX5 8) (C := RX5) (T := TX5) (N := 12) hx hb hts inW_X5 tyX5 tyX5_ok nmX5 hown hK hP hD hS 31 rfl rfl 8 (by decide) (hts _ wm254) (fun _ h9 => h9) rfl (by decide +kernel) rfl rfl (Nat.le_of_ble_eq_true rfl) dX5_valueOf_200 (fun H locs hP hD hS => ?_)
              have hP : va_P (DG G) clP3 (wC G a T8 F U S D R (M8.1, M8.2.1, M8.2.2.1, M8.2.2.2.1, M8.2.2.2.2.1, (M8.2.2.2.2.2.1 - (1 : Int32)), M8.2.2.2.2.2.2.1, M8.2.2.2.2.2.2.2.1, M8.2.2.2.2.2.2.2.2) N P) H := hP
              have hD : va_D A (wC G a T8 F U S D R (M8.1, M8.2.1, M8.2.2.1, M8.2.2.2.1, M8.2.2.2.2.1, (M8.2.2.2.2.2.1 - (1 : Int32)), M8.2.2.2.2.2.2.1, M8.2.2.2.2.2.2.2.1, M8.2.2.2.2.2.2.2.2) N P) := hD
              refine lv_aload_n hx hb dX5_valueOf_203 rfl (lv_at hl 1 rfl) ?_
              refine lv_iload_n hx hb dX5_valueOf_204 rfl (lv_at hl 2 rfl) ?_
              refine lv_iconst (v := 1) hx hb dX5_valueOf_205 (by decide) ?_
              obtain ⟨q_10, hq_10, hm⟩ := bind_some hm
              have hFc := free_all hD hS hA
              refine va_callv (va_runV (As := [.int v3, .int 1]) (rest := []) ⟨hx, hb, hml, hown, hts⟩ (K_X5_push l hfl G a T8 F U S D R (M8.1, M8.2.1, M8.2.2.1, M8.2.2.2.1, M8.2.2.2.2.1, (M8.2.2.2.2.2.1 - (1 : Int32)), M8.2.2.2.2.2.2.1, M8.2.2.2.2.2.2.2.1, M8.2.2.2.2.2.2.2.2) N P v3 1  q_10 hq_10 H.size) (cwV 2 hts (gV wm1170 wm1172 ws_p21 wm10 wm1173) rfl rfl rfl (by decide +kernel) ⟨Nat.le_of_ble_eq_true rfl, Nat.le_of_ble_eq_true rfl⟩) (pre_v (pre_w hK hP hD hS hE hFc) (va_recv hK hP (ci := 5) (q0 := 31) rfl rfl)) rfl rfl hl.1 rfl (lv_room (Nat.le_of_ble_eq_true rfl)) dX5_valueOf_206 ⟨Nat.le_of_ble_eq_true rfl, Nat.le_of_ble_eq_true rfl⟩) hS (fun q _ h => hFc q h) hFc (fun u t H locs ht hvm hw hB hz1 hk1 hS => ?_)
              have hP : va_P (DG G) clP3 (wC G a T8 F U S D R q_10 N P) H := by rw [← ht]; exact hB.1
              have hD : va_D A (wC G a T8 F U S D R q_10 N P) := hB.2.weaken (fun _ p _ h => hFc p.1 h)
              clear hB hFc hk1
              refine W.widen (k := 0) (n := 0) (Nat.le_of_ble_eq_true rfl) (Nat.le_of_ble_eq_true rfl) ?_
              refine lv_iload hx hb dX5_valueOf_209 (lv_at hl 0 rfl) ?_
              refine lv_istore_n (lv' := [(3, .int (M8.1 (Int32.toNatClampNeg (M8.2.2.2.2.2.1 - (1 : Int32))))), (6, .int (M8.1 (Int32.toNatClampNeg (M8.2.2.2.2.2.1 - (1 : Int32))))), (0, .ref (a.1 31)), (4, .int v4), (5, .int v5)]) hx hb dX5_valueOf_211 rfl hl (by decide) rfl (fun ls hl => ?_)
              refine lv_iconst (v := 0) hx hb dX5_valueOf_212 (by decide) ?_
              refine lv_istore (lv' := [(4, .int 0), (3, .int (M8.1 (Int32.toNatClampNeg (M8.2.2.2.2.2.1 - (1 : Int32))))), (6, .int (M8.1 (Int32.toNatClampNeg (M8.2.2.2.2.2.1 - (1 : Int32))))), (0, .ref (a.1 31)), (5, .int v5)]) hx hb dX5_valueOf_213 hl (by decide) rfl (fun ls hl => ?_)
              refine lv_iinc (v := (v5 + 1)) (lv' := [(5, .int (v5 + 1)), (4, .int 0), (3, .int (M8.1 (Int32.toNatClampNeg (M8.2.2.2.2.2.1 - (1 : Int32))))), (6, .int (M8.1 (Int32.toNatClampNeg (M8.2.2.2.2.2.1 - (1 : Int32))))), (0, .ref (a.1 31))]) hx hb dX5_valueOf_215 hl (k := 4) rfl rfl (by decide) rfl (fun ls hl => ?_)
              refine lv_goto (tgt := 46) hx hb dX5_valueOf_218 (by decide) ?_
              refine W.widen (k := 0) (n := 0) (Nat.le_of_ble_eq_true rfl) (Nat.le_of_ble_eq_true rfl) ?_
              exact ih T8 q_10 (M8.1 (Int32.toNatClampNeg (M8.2.2.2.2.2.1 - (1 : Int32)))) 0 (v5 + 1)  _ _ hP hD hS _ (lv_sub hl [4, 2, 1, 0] rfl) hm
            · rw [if_neg c_8] at hm
              refine lv_aload_n hx hb dX5_valueOf_138 rfl (lv_at hl 0 rfl) ?_
              refine lv_dup hx hb dX5_valueOf_139 rfl ?_
              refine va_get (D := DG G) (ci := 5) (v := .int M8.2.2.2.2.2.1) (C := RX5) (T := TX5) (N := 12) hx hb hts inW_X5 hown hK hP 31 rfl rfl 8 (by decide) (hts _ wm254) (fun _ h9 => h9) rfl dX5_valueOf_140 ?_
              refine lv_iconst (v := 1) hx hb dX5_valueOf_143 (by decide) ?_
              refine lv_isub hx hb dX5_valueOf_144 ?_
              refine va_put (D := DG G) (ci := 5) (v := .int (M8.2.2.2.2.2.1 - (1 : Int32))) (ty := tyX5 8) (C := RX5) (T := TX5) (N := 12) hx hb hts inW_X5 tyX5 tyX5_ok nmX5 hown hK hP hD hS 31 rfl rfl 8 (by decide) (hts _ wm254) (fun _ h9 => h9) rfl (by decide +kernel) rfl rfl (Nat.le_of_ble_eq_true rfl) dX5_valueOf_145 (fun H locs hP hD hS => ?_)
              have hP : va_P (DG G) clP3 (wC G a T8 F U S D R (M8.1, M8.2.1, M8.2.2.1, M8.2.2.2.1, M8.2.2.2.2.1, (M8.2.2.2.2.2.1 - (1 : Int32)), M8.2.2.2.2.2.2.1, M8.2.2.2.2.2.2.2.1, M8.2.2.2.2.2.2.2.2) N P) H := hP
              have hD : va_D A (wC G a T8 F U S D R (M8.1, M8.2.1, M8.2.2.1, M8.2.2.2.1, M8.2.2.2.2.1, (M8.2.2.2.2.2.1 - (1 : Int32)), M8.2.2.2.2.2.2.1, M8.2.2.2.2.2.2.2.1, M8.2.2.2.2.2.2.2.2) N P) := hD
              refine lv_aload_n hx hb dX5_valueOf_148 rfl (lv_at hl 0 rfl) ?_
              refine lv_aload_n hx hb dX5_valueOf_149 rfl (lv_at hl 0 rfl) ?_
              refine va_get (D := DG G) (ci := 5) (v := .ref (a.1 32)) (C := RX5) (T := TX5) (N := 12) hx hb hts inW_X5 hown hK hP 31 rfl rfl 3 (by decide) (hts _ wm249) (fun _ h9 => h9) rfl dX5_valueOf_150 ?_
              refine lv_aload_n hx hb dX5_valueOf_153 rfl (lv_at hl 0 rfl) ?_
              refine va_get (D := DG G) (ci := 5) (v := .int (M8.2.2.2.2.2.1 - (1 : Int32))) (C := RX5) (T := TX5) (N := 12) hx hb hts inW_X5 hown hK hP 31 rfl rfl 8 (by decide) (hts _ wm254) (fun _ h9 => h9) rfl dX5_valueOf_154 ?_
              obtain ⟨b_11, hm⟩ := ite_some hm
              refine va_iald hx hb hK hP 32 0 rfl rfl (inb_vp b_11) dX5_valueOf_157 ?_
              refine lv_iload_n hx hb dX5_valueOf_158 rfl (lv_at hl 1 rfl) ?_
              obtain ⟨q_12, hq_12, hm⟩ := bind_some hm
              have hFc := free_all hD hS hA
              refine va_calli (va_runV (As := [.int (M8.1 (Int32.toNatClampNeg (M8.2.2.2.2.2.1 - (1 : Int32)))), .int v3]) (rest := []) ⟨hx, hb, hml, hown, hts⟩ (k_X5_applied l hfl G a T8 F U S D R (M8.1, M8.2.1, M8.2.2.1, M8.2.2.2.1, M8.2.2.2.2.1, (M8.2.2.2.2.2.1 - (1 : Int32)), M8.2.2.2.2.2.2.1, M8.2.2.2.2.2.2.2.1, M8.2.2.2.2.2.2.2.2) N P hlk (M8.1 (Int32.toNatClampNeg (M8.2.2.2.2.2.1 - (1 : Int32)))) v3  q_12.1 q_12.2.1 q_12.2.2 hq_12 H.size) (cwV 2 hts (gV wm1175 wm1177 ws_p22 wm10 wm1178) rfl rfl rfl (by decide +kernel) ⟨Nat.le_of_ble_eq_true rfl, Nat.le_of_ble_eq_true rfl⟩) (pre_v (pre_w hK hP hD hS hE hFc) (va_recv hK hP (ci := 5) (q0 := 31) rfl rfl)) rfl rfl hl.1 rfl (lv_room (Nat.le_of_ble_eq_true rfl)) dX5_valueOf_159 ⟨Nat.le_of_ble_eq_true rfl, Nat.le_of_ble_eq_true rfl⟩) hS (fun q _ h => hFc q h) hFc (fun r u t H locs ht hvm hw hB hz1 hk1 hS => ?_)
              rw [show r = q_12.1 from hw]
              have hP : va_P (DG G) clP3 (wC G a q_12.2.1 F U S D R q_12.2.2 N P) H := by rw [← ht]; exact hB.1
              have hD : va_D A (wC G a q_12.2.1 F U S D R q_12.2.2 N P) := hB.2.weaken (fun _ p _ h => hFc p.1 h)
              clear hB hFc hw hk1
              refine W.widen (k := 0) (n := 0) (Nat.le_of_ble_eq_true rfl) (Nat.le_of_ble_eq_true rfl) ?_
              refine lv_istore_n (lv' := [(3, .int q_12.1), (0, .ref (a.1 31)), (4, .int v4), (5, .int v5)]) hx hb dX5_valueOf_162 rfl hl (by decide) rfl (fun ls hl => ?_)
              refine lv_aload_n hx hb dX5_valueOf_163 rfl (lv_at hl 1 rfl) ?_
              refine va_get (D := DG G) (ci := 5) (v := .int q_12.2.2.2.2.2.2.2.2.2.1) (C := RX5) (T := TX5) (N := 12) hx hb hts inW_X5 hown hK hP 31 rfl rfl 10 (by decide) (hts _ wm257) (fun _ h9 => h9) rfl dX5_valueOf_164 ?_
              refine lv_if_ne (tgt := 174) hx hb dX5_valueOf_167 (by decide) (fun c_13 => ?_) (fun c_13 => ?_)
              · rw [if_neg c_13] at hm
                refine lv_iconst (v := 0) hx hb dX5_valueOf_174 (by decide) ?_
                refine lv_istore (lv' := [(4, .int 0), (3, .int q_12.1), (0, .ref (a.1 31)), (5, .int v5)]) hx hb dX5_valueOf_175 hl (by decide) rfl (fun ls hl => ?_)
                refine lv_goto (tgt := 215) hx hb dX5_valueOf_177 (by decide) ?_
                refine lv_iinc (v := (v5 + 1)) (lv' := [(5, .int (v5 + 1)), (4, .int 0), (3, .int q_12.1), (0, .ref (a.1 31))]) hx hb dX5_valueOf_215 hl (k := 3) rfl rfl (by decide) rfl (fun ls hl => ?_)
                refine lv_goto (tgt := 46) hx hb dX5_valueOf_218 (by decide) ?_
                refine W.widen (k := 0) (n := 0) (Nat.le_of_ble_eq_true rfl) (Nat.le_of_ble_eq_true rfl) ?_
                exact ih q_12.2.1 q_12.2.2 q_12.1 0 (v5 + 1)  _ _ hP hD hS _ (lv_sub hl [3, 2, 1, 0] rfl) hm
              · rw [if_pos c_13] at hm
                refine lv_iconst (v := 1) hx hb dX5_valueOf_170 (by decide) ?_
                refine lv_goto (tgt := 175) hx hb dX5_valueOf_171 (by decide) ?_
                refine lv_istore (lv' := [(4, .int 1), (3, .int q_12.1), (0, .ref (a.1 31)), (5, .int v5)]) hx hb dX5_valueOf_175 hl (by decide) rfl (fun ls hl => ?_)
                refine lv_goto (tgt := 215) hx hb dX5_valueOf_177 (by decide) ?_
                refine lv_iinc (v := (v5 + 1)) (lv' := [(5, .int (v5 + 1)), (4, .int 1), (3, .int q_12.1), (0, .ref (a.1 31))]) hx hb dX5_valueOf_215 hl (k := 3) rfl rfl (by decide) rfl (fun ls hl => ?_)
                refine lv_goto (tgt := 46) hx hb dX5_valueOf_218 (by decide) ?_
                refine W.widen (k := 0) (n := 0) (Nat.le_of_ble_eq_true rfl) (Nat.le_of_ble_eq_true rfl) ?_
                exact ih q_12.2.1 q_12.2.2 q_12.1 1 (v5 + 1)  _ _ hP hD hS _ (lv_sub hl [3, 2, 1, 0] rfl) hm
          · rw [if_pos c_6] at hm
            refine lv_iload_n hx hb dX5_valueOf_122 rfl (lv_at hl 1 rfl) ?_
            simp only [Option.some.injEq, Prod.mk.injEq] at hm
            obtain ⟨rfl, rfl, rfl⟩ := hm
            refine W.widen (k := 0) (n := 0) (Nat.le_of_ble_eq_true rfl) (Nat.le_of_ble_eq_true rfl) ?_
            exact W.iret (v := v3) hx hb hr (fun t ht hW => ⟨⟨v3, (), rfl, rfl, ⟨by rw [ht]; exact hP, by rw [hAe]; exact hD⟩⟩, by rw [hAe]; exact hS.F ht⟩) (by rw [hAe]; exact hS.2.2) dX5_valueOf_123 hlocks
        · rw [if_pos c_5] at hm
          refine lv_aload_n hx hb dX5_valueOf_63 rfl (lv_at hl 0 rfl) ?_
          refine va_get (D := DG G) (ci := 5) (v := .ref (a.1 1)) (C := RX5) (T := TX5) (N := 12) hx hb hts inW_X5 hown hK hP 31 rfl rfl 0 (by decide) (hts _ wm246) (fun _ h9 => h9) rfl dX5_valueOf_64 ?_
          refine lv_iload_n hx hb dX5_valueOf_67 rfl (lv_at hl 1 rfl) ?_
          obtain ⟨q_14, hq_14, hm⟩ := bind_some hm
          have hFc := free_all hD hS hA
          refine va_calli (va_runV (As := [.int v3]) (rest := []) ⟨hx, hb, hml, hown, hts⟩ (K_X9_kindOf l hfl G a T8 F U S D R M8 N P v3  q_14 hq_14 H.size) (cwV 1 hts (gV wm1168 wm435 wm436 wm2 wm437) rfl rfl rfl (by decide +kernel) ⟨Nat.le_of_ble_eq_true rfl, Nat.le_of_ble_eq_true rfl⟩) (pre_v (pre_w hK hP hD hS hE hFc) (va_recv hK hP (ci := 8) (q0 := 1) rfl rfl)) rfl rfl hl.1 rfl (lv_room (Nat.le_of_ble_eq_true rfl)) dX5_valueOf_68 ⟨Nat.le_of_ble_eq_true rfl, Nat.le_of_ble_eq_true rfl⟩) hS (fun q _ h => hFc q h) hFc (fun r u t H locs ht hvm hw hB hz1 hk1 hS => ?_)
          rw [show r = q_14 from hw]
          have hP : va_P (DG G) clP3 (wC G a T8 F U S D R M8 N P) H := by rw [← ht]; exact hB.1
          have hD : va_D A (wC G a T8 F U S D R M8 N P) := hB.2.weaken (fun _ p _ h => hFc p.1 h)
          clear hB hFc hw hk1
          refine W.widen (k := 0) (n := 0) (Nat.le_of_ble_eq_true rfl) (Nat.le_of_ble_eq_true rfl) ?_
          refine lv_bipush (v := 7) hx hb dX5_valueOf_71 (by decide) ?_
          refine lv_icmp_ne (tgt := 115) hx hb dX5_valueOf_73 (by decide) (fun c_15 => ?_) (fun c_15 => ?_)
          · rw [if_neg c_15] at hm
            refine lv_aload_n hx hb dX5_valueOf_115 rfl (lv_at hl 0 rfl) ?_
            refine va_get (D := DG G) (ci := 5) (v := .int M8.2.2.2.2.2.1) (C := RX5) (T := TX5) (N := 12) hx hb hts inW_X5 hown hK hP 31 rfl rfl 8 (by decide) (hts _ wm254) (fun _ h9 => h9) rfl dX5_valueOf_116 ?_
            refine lv_if_ne (tgt := 124) hx hb dX5_valueOf_119 (by decide) (fun c_16 => ?_) (fun c_16 => ?_)
            · rw [if_neg c_16] at hm
              refine lv_aload_n hx hb dX5_valueOf_124 rfl (lv_at hl 0 rfl) ?_
              refine va_get (D := DG G) (ci := 5) (v := .ref (a.1 33)) (C := RX5) (T := TX5) (N := 12) hx hb hts inW_X5 hown hK hP 31 rfl rfl 4 (by decide) (hts _ wm250) (fun _ h9 => h9) rfl dX5_valueOf_125 ?_
              refine lv_aload_n hx hb dX5_valueOf_128 rfl (lv_at hl 0 rfl) ?_
              refine va_get (D := DG G) (ci := 5) (v := .int M8.2.2.2.2.2.1) (C := RX5) (T := TX5) (N := 12) hx hb hts inW_X5 hown hK hP 31 rfl rfl 8 (by decide) (hts _ wm254) (fun _ h9 => h9) rfl dX5_valueOf_129 ?_
              refine lv_iconst (v := 1) hx hb dX5_valueOf_132 (by decide) ?_
              refine lv_isub hx hb dX5_valueOf_133 ?_
              obtain ⟨b_17, hm⟩ := ite_some hm
              refine va_zald hx hb hK hP 33 1 rfl rfl (inb_vp b_17) dX5_valueOf_134 ?_
              refine lv_if_eq (tgt := 180) hx hb dX5_valueOf_135 (by decide) (fun c_18 => ?_) (fun c_18 => ?_)
              · rw [if_pos c_18] at hm
                refine lv_aload_n hx hb dX5_valueOf_180 rfl (lv_at hl 0 rfl) ?_
                refine va_get (D := DG G) (ci := 5) (v := .ref (a.1 32)) (C := RX5) (T := TX5) (N := 12) hx hb hts inW_X5 hown hK hP 31 rfl rfl 3 (by decide) (hts _ wm249) (fun _ h9 => h9) rfl dX5_valueOf_181 ?_
                refine lv_aload_n hx hb dX5_valueOf_184 rfl (lv_at hl 0 rfl) ?_
                refine va_get (D := DG G) (ci := 5) (v := .int M8.2.2.2.2.2.1) (C := RX5) (T := TX5) (N := 12) hx hb hts inW_X5 hown hK hP 31 rfl rfl 8 (by decide) (hts _ wm254) (fun _ h9 => h9) rfl dX5_valueOf_185 ?_
                refine lv_iconst (v := 1) hx hb dX5_valueOf_188 (by decide) ?_
                refine lv_isub hx hb dX5_valueOf_189 ?_
                obtain ⟨b_19, hm⟩ := ite_some hm
                refine va_iald hx hb hK hP 32 0 rfl rfl (inb_vp b_19) dX5_valueOf_190 ?_
                refine lv_istore (lv' := [(6, .int (M8.1 (Int32.toNatClampNeg (M8.2.2.2.2.2.1 - (1 : Int32))))), (0, .ref (a.1 31)), (3, .int v3), (4, .int v4), (5, .int v5)]) hx hb dX5_valueOf_191 hl (by decide) rfl (fun ls hl => ?_)
                refine lv_aload_n hx hb dX5_valueOf_193 rfl (lv_at hl 1 rfl) ?_
                refine lv_dup hx hb dX5_valueOf_194 rfl ?_
                refine va_get (D := DG G) (ci := 5) (v := .int M8.2.2.2.2.2.1) (C := RX5) (T := TX5) (N := 12) hx hb hts inW_X5 hown hK hP 31 rfl rfl 8 (by decide) (hts _ wm254) (fun _ h9 => h9) rfl dX5_valueOf_195 ?_
                refine lv_iconst (v := 1) hx hb dX5_valueOf_198 (by decide) ?_
                refine lv_isub hx hb dX5_valueOf_199 ?_
                refine va_put (D := DG G) (ci := 5) (v := .int (M8.2.2.2.2.2.1 - (1 : Int32))) (ty := tyX5 8) (C := RX5) (T := TX5) (N := 12) hx hb hts inW_X5 tyX5 tyX5_ok nmX5 hown hK hP hD hS 31 rfl rfl 8 (by decide) (hts _ wm254) (fun _ h9 => h9) rfl (by decide +kernel) rfl rfl (Nat.le_of_ble_eq_true rfl) dX5_valueOf_200 (fun H locs hP hD hS => ?_)
                have hP : va_P (DG G) clP3 (wC G a T8 F U S D R (M8.1, M8.2.1, M8.2.2.1, M8.2.2.2.1, M8.2.2.2.2.1, (M8.2.2.2.2.2.1 - (1 : Int32)), M8.2.2.2.2.2.2.1, M8.2.2.2.2.2.2.2.1, M8.2.2.2.2.2.2.2.2) N P) H := hP
                have hD : va_D A (wC G a T8 F U S D R (M8.1, M8.2.1, M8.2.2.1, M8.2.2.2.1, M8.2.2.2.2.1, (M8.2.2.2.2.2.1 - (1 : Int32)), M8.2.2.2.2.2.2.1, M8.2.2.2.2.2.2.2.1, M8.2.2.2.2.2.2.2.2) N P) := hD
                refine lv_aload_n hx hb dX5_valueOf_203 rfl (lv_at hl 1 rfl) ?_
                refine lv_iload_n hx hb dX5_valueOf_204 rfl (lv_at hl 2 rfl) ?_
                refine lv_iconst (v := 1) hx hb dX5_valueOf_205 (by decide) ?_
                obtain ⟨q_20, hq_20, hm⟩ := bind_some hm
                have hFc := free_all hD hS hA
                refine va_callv (va_runV (As := [.int v3, .int 1]) (rest := []) ⟨hx, hb, hml, hown, hts⟩ (K_X5_push l hfl G a T8 F U S D R (M8.1, M8.2.1, M8.2.2.1, M8.2.2.2.1, M8.2.2.2.2.1, (M8.2.2.2.2.2.1 - (1 : Int32)), M8.2.2.2.2.2.2.1, M8.2.2.2.2.2.2.2.1, M8.2.2.2.2.2.2.2.2) N P v3 1  q_20 hq_20 H.size) (cwV 2 hts (gV wm1170 wm1172 ws_p21 wm10 wm1173) rfl rfl rfl (by decide +kernel) ⟨Nat.le_of_ble_eq_true rfl, Nat.le_of_ble_eq_true rfl⟩) (pre_v (pre_w hK hP hD hS hE hFc) (va_recv hK hP (ci := 5) (q0 := 31) rfl rfl)) rfl rfl hl.1 rfl (lv_room (Nat.le_of_ble_eq_true rfl)) dX5_valueOf_206 ⟨Nat.le_of_ble_eq_true rfl, Nat.le_of_ble_eq_true rfl⟩) hS (fun q _ h => hFc q h) hFc (fun u t H locs ht hvm hw hB hz1 hk1 hS => ?_)
                have hP : va_P (DG G) clP3 (wC G a T8 F U S D R q_20 N P) H := by rw [← ht]; exact hB.1
                have hD : va_D A (wC G a T8 F U S D R q_20 N P) := hB.2.weaken (fun _ p _ h => hFc p.1 h)
                clear hB hFc hk1
                refine W.widen (k := 0) (n := 0) (Nat.le_of_ble_eq_true rfl) (Nat.le_of_ble_eq_true rfl) ?_
                refine lv_iload hx hb dX5_valueOf_209 (lv_at hl 0 rfl) ?_
                refine lv_istore_n (lv' := [(3, .int (M8.1 (Int32.toNatClampNeg (M8.2.2.2.2.2.1 - (1 : Int32))))), (6, .int (M8.1 (Int32.toNatClampNeg (M8.2.2.2.2.2.1 - (1 : Int32))))), (0, .ref (a.1 31)), (4, .int v4), (5, .int v5)]) hx hb dX5_valueOf_211 rfl hl (by decide) rfl (fun ls hl => ?_)
                refine lv_iconst (v := 0) hx hb dX5_valueOf_212 (by decide) ?_
                refine lv_istore (lv' := [(4, .int 0), (3, .int (M8.1 (Int32.toNatClampNeg (M8.2.2.2.2.2.1 - (1 : Int32))))), (6, .int (M8.1 (Int32.toNatClampNeg (M8.2.2.2.2.2.1 - (1 : Int32))))), (0, .ref (a.1 31)), (5, .int v5)]) hx hb dX5_valueOf_213 hl (by decide) rfl (fun ls hl => ?_)
                refine lv_iinc (v := (v5 + 1)) (lv' := [(5, .int (v5 + 1)), (4, .int 0), (3, .int (M8.1 (Int32.toNatClampNeg (M8.2.2.2.2.2.1 - (1 : Int32))))), (6, .int (M8.1 (Int32.toNatClampNeg (M8.2.2.2.2.2.1 - (1 : Int32))))), (0, .ref (a.1 31))]) hx hb dX5_valueOf_215 hl (k := 4) rfl rfl (by decide) rfl (fun ls hl => ?_)
                refine lv_goto (tgt := 46) hx hb dX5_valueOf_218 (by decide) ?_
                refine W.widen (k := 0) (n := 0) (Nat.le_of_ble_eq_true rfl) (Nat.le_of_ble_eq_true rfl) ?_
                exact ih T8 q_20 (M8.1 (Int32.toNatClampNeg (M8.2.2.2.2.2.1 - (1 : Int32)))) 0 (v5 + 1)  _ _ hP hD hS _ (lv_sub hl [4, 2, 1, 0] rfl) hm
              · rw [if_neg c_18] at hm
                refine lv_aload_n hx hb dX5_valueOf_138 rfl (lv_at hl 0 rfl) ?_
                refine lv_dup hx hb dX5_valueOf_139 rfl ?_
                refine va_get (D := DG G) (ci := 5) (v := .int M8.2.2.2.2.2.1) (C := RX5) (T := TX5) (N := 12) hx hb hts inW_X5 hown hK hP 31 rfl rfl 8 (by decide) (hts _ wm254) (fun _ h9 => h9) rfl dX5_valueOf_140 ?_
                refine lv_iconst (v := 1) hx hb dX5_valueOf_143 (by decide) ?_
                refine lv_isub hx hb dX5_valueOf_144 ?_
                refine va_put (D := DG G) (ci := 5) (v := .int (M8.2.2.2.2.2.1 - (1 : Int32))) (ty := tyX5 8) (C := RX5) (T := TX5) (N := 12) hx hb hts inW_X5 tyX5 tyX5_ok nmX5 hown hK hP hD hS 31 rfl rfl 8 (by decide) (hts _ wm254) (fun _ h9 => h9) rfl (by decide +kernel) rfl rfl (Nat.le_of_ble_eq_true rfl) dX5_valueOf_145 (fun H locs hP hD hS => ?_)
                have hP : va_P (DG G) clP3 (wC G a T8 F U S D R (M8.1, M8.2.1, M8.2.2.1, M8.2.2.2.1, M8.2.2.2.2.1, (M8.2.2.2.2.2.1 - (1 : Int32)), M8.2.2.2.2.2.2.1, M8.2.2.2.2.2.2.2.1, M8.2.2.2.2.2.2.2.2) N P) H := hP
                have hD : va_D A (wC G a T8 F U S D R (M8.1, M8.2.1, M8.2.2.1, M8.2.2.2.1, M8.2.2.2.2.1, (M8.2.2.2.2.2.1 - (1 : Int32)), M8.2.2.2.2.2.2.1, M8.2.2.2.2.2.2.2.1, M8.2.2.2.2.2.2.2.2) N P) := hD
                refine lv_aload_n hx hb dX5_valueOf_148 rfl (lv_at hl 0 rfl) ?_
                refine lv_aload_n hx hb dX5_valueOf_149 rfl (lv_at hl 0 rfl) ?_
                refine va_get (D := DG G) (ci := 5) (v := .ref (a.1 32)) (C := RX5) (T := TX5) (N := 12) hx hb hts inW_X5 hown hK hP 31 rfl rfl 3 (by decide) (hts _ wm249) (fun _ h9 => h9) rfl dX5_valueOf_150 ?_
                refine lv_aload_n hx hb dX5_valueOf_153 rfl (lv_at hl 0 rfl) ?_
                refine va_get (D := DG G) (ci := 5) (v := .int (M8.2.2.2.2.2.1 - (1 : Int32))) (C := RX5) (T := TX5) (N := 12) hx hb hts inW_X5 hown hK hP 31 rfl rfl 8 (by decide) (hts _ wm254) (fun _ h9 => h9) rfl dX5_valueOf_154 ?_
                obtain ⟨b_21, hm⟩ := ite_some hm
                refine va_iald hx hb hK hP 32 0 rfl rfl (inb_vp b_21) dX5_valueOf_157 ?_
                refine lv_iload_n hx hb dX5_valueOf_158 rfl (lv_at hl 1 rfl) ?_
                obtain ⟨q_22, hq_22, hm⟩ := bind_some hm
                have hFc := free_all hD hS hA
                refine va_calli (va_runV (As := [.int (M8.1 (Int32.toNatClampNeg (M8.2.2.2.2.2.1 - (1 : Int32)))), .int v3]) (rest := []) ⟨hx, hb, hml, hown, hts⟩ (k_X5_applied l hfl G a T8 F U S D R (M8.1, M8.2.1, M8.2.2.1, M8.2.2.2.1, M8.2.2.2.2.1, (M8.2.2.2.2.2.1 - (1 : Int32)), M8.2.2.2.2.2.2.1, M8.2.2.2.2.2.2.2.1, M8.2.2.2.2.2.2.2.2) N P hlk (M8.1 (Int32.toNatClampNeg (M8.2.2.2.2.2.1 - (1 : Int32)))) v3  q_22.1 q_22.2.1 q_22.2.2 hq_22 H.size) (cwV 2 hts (gV wm1175 wm1177 ws_p22 wm10 wm1178) rfl rfl rfl (by decide +kernel) ⟨Nat.le_of_ble_eq_true rfl, Nat.le_of_ble_eq_true rfl⟩) (pre_v (pre_w hK hP hD hS hE hFc) (va_recv hK hP (ci := 5) (q0 := 31) rfl rfl)) rfl rfl hl.1 rfl (lv_room (Nat.le_of_ble_eq_true rfl)) dX5_valueOf_159 ⟨Nat.le_of_ble_eq_true rfl, Nat.le_of_ble_eq_true rfl⟩) hS (fun q _ h => hFc q h) hFc (fun r u t H locs ht hvm hw hB hz1 hk1 hS => ?_)
                rw [show r = q_22.1 from hw]
                have hP : va_P (DG G) clP3 (wC G a q_22.2.1 F U S D R q_22.2.2 N P) H := by rw [← ht]; exact hB.1
                have hD : va_D A (wC G a q_22.2.1 F U S D R q_22.2.2 N P) := hB.2.weaken (fun _ p _ h => hFc p.1 h)
                clear hB hFc hw hk1
                refine W.widen (k := 0) (n := 0) (Nat.le_of_ble_eq_true rfl) (Nat.le_of_ble_eq_true rfl) ?_
                refine lv_istore_n (lv' := [(3, .int q_22.1), (0, .ref (a.1 31)), (4, .int v4), (5, .int v5)]) hx hb dX5_valueOf_162 rfl hl (by decide) rfl (fun ls hl => ?_)
                refine lv_aload_n hx hb dX5_valueOf_163 rfl (lv_at hl 1 rfl) ?_
                refine va_get (D := DG G) (ci := 5) (v := .int q_22.2.2.2.2.2.2.2.2.2.1) (C := RX5) (T := TX5) (N := 12) hx hb hts inW_X5 hown hK hP 31 rfl rfl 10 (by decide) (hts _ wm257) (fun _ h9 => h9) rfl dX5_valueOf_164 ?_
                refine lv_if_ne (tgt := 174) hx hb dX5_valueOf_167 (by decide) (fun c_23 => ?_) (fun c_23 => ?_)
                · rw [if_neg c_23] at hm
                  refine lv_iconst (v := 0) hx hb dX5_valueOf_174 (by decide) ?_
                  refine lv_istore (lv' := [(4, .int 0), (3, .int q_22.1), (0, .ref (a.1 31)), (5, .int v5)]) hx hb dX5_valueOf_175 hl (by decide) rfl (fun ls hl => ?_)
                  refine lv_goto (tgt := 215) hx hb dX5_valueOf_177 (by decide) ?_
                  refine lv_iinc (v := (v5 + 1)) (lv' := [(5, .int (v5 + 1)), (4, .int 0), (3, .int q_22.1), (0, .ref (a.1 31))]) hx hb dX5_valueOf_215 hl (k := 3) rfl rfl (by decide) rfl (fun ls hl => ?_)
                  refine lv_goto (tgt := 46) hx hb dX5_valueOf_218 (by decide) ?_
                  refine W.widen (k := 0) (n := 0) (Nat.le_of_ble_eq_true rfl) (Nat.le_of_ble_eq_true rfl) ?_
                  exact ih q_22.2.1 q_22.2.2 q_22.1 0 (v5 + 1)  _ _ hP hD hS _ (lv_sub hl [3, 2, 1, 0] rfl) hm
                · rw [if_pos c_23] at hm
                  refine lv_iconst (v := 1) hx hb dX5_valueOf_170 (by decide) ?_
                  refine lv_goto (tgt := 175) hx hb dX5_valueOf_171 (by decide) ?_
                  refine lv_istore (lv' := [(4, .int 1), (3, .int q_22.1), (0, .ref (a.1 31)), (5, .int v5)]) hx hb dX5_valueOf_175 hl (by decide) rfl (fun ls hl => ?_)
                  refine lv_goto (tgt := 215) hx hb dX5_valueOf_177 (by decide) ?_
                  refine lv_iinc (v := (v5 + 1)) (lv' := [(5, .int (v5 + 1)), (4, .int 1), (3, .int q_22.1), (0, .ref (a.1 31))]) hx hb dX5_valueOf_215 hl (k := 3) rfl rfl (by decide) rfl (fun ls hl => ?_)
                  refine lv_goto (tgt := 46) hx hb dX5_valueOf_218 (by decide) ?_
                  refine W.widen (k := 0) (n := 0) (Nat.le_of_ble_eq_true rfl) (Nat.le_of_ble_eq_true rfl) ?_
                  exact ih q_22.2.1 q_22.2.2 q_22.1 1 (v5 + 1)  _ _ hP hD hS _ (lv_sub hl [3, 2, 1, 0] rfl) hm
            · rw [if_pos c_16] at hm
              refine lv_iload_n hx hb dX5_valueOf_122 rfl (lv_at hl 1 rfl) ?_
              simp only [Option.some.injEq, Prod.mk.injEq] at hm
              obtain ⟨rfl, rfl, rfl⟩ := hm
              refine W.widen (k := 0) (n := 0) (Nat.le_of_ble_eq_true rfl) (Nat.le_of_ble_eq_true rfl) ?_
              exact W.iret (v := v3) hx hb hr (fun t ht hW => ⟨⟨v3, (), rfl, rfl, ⟨by rw [ht]; exact hP, by rw [hAe]; exact hD⟩⟩, by rw [hAe]; exact hS.F ht⟩) (by rw [hAe]; exact hS.2.2) dX5_valueOf_123 hlocks
          · rw [if_pos c_15] at hm
            refine lv_aload_n hx hb dX5_valueOf_76 rfl (lv_at hl 0 rfl) ?_
            refine lv_aload_n hx hb dX5_valueOf_77 rfl (lv_at hl 0 rfl) ?_
            refine va_get (D := DG G) (ci := 5) (v := .ref (a.1 1)) (C := RX5) (T := TX5) (N := 12) hx hb hts inW_X5 hown hK hP 31 rfl rfl 0 (by decide) (hts _ wm246) (fun _ h9 => h9) rfl dX5_valueOf_78 ?_
            refine lv_iload_n hx hb dX5_valueOf_81 rfl (lv_at hl 1 rfl) ?_
            obtain ⟨q_24, hq_24, hm⟩ := bind_some hm
            have hFc := free_all hD hS hA
            refine va_calli (va_runV (As := [.int v3]) (rest := [.ref (a.1 31)]) ⟨hx, hb, hml, hown, hts⟩ (K_X9_secondOf l hfl G a T8 F U S D R M8 N P v3  q_24 hq_24 H.size) (cwV 1 hts (gV wm1169 wm460 wm461 wm2 wm462) rfl rfl rfl (by decide +kernel) ⟨Nat.le_of_ble_eq_true rfl, Nat.le_of_ble_eq_true rfl⟩) (pre_v (pre_w hK hP hD hS hE hFc) (va_recv hK hP (ci := 8) (q0 := 1) rfl rfl)) rfl rfl hl.1 rfl (lv_room (Nat.le_of_ble_eq_true rfl)) dX5_valueOf_82 ⟨Nat.le_of_ble_eq_true rfl, Nat.le_of_ble_eq_true rfl⟩) hS (fun q _ h => hFc q h) hFc (fun r u t H locs ht hvm hw hB hz1 hk1 hS => ?_)
            rw [show r = q_24 from hw]
            have hP : va_P (DG G) clP3 (wC G a T8 F U S D R M8 N P) H := by rw [← ht]; exact hB.1
            have hD : va_D A (wC G a T8 F U S D R M8 N P) := hB.2.weaken (fun _ p _ h => hFc p.1 h)
            clear hB hFc hw hk1
            refine W.widen (k := 0) (n := 0) (Nat.le_of_ble_eq_true rfl) (Nat.le_of_ble_eq_true rfl) ?_
            refine lv_iconst (v := 0) hx hb dX5_valueOf_85 (by decide) ?_
            obtain ⟨q_25, hq_25, hm⟩ := bind_some hm
            have hFc := free_all hD hS hA
            refine va_callv (va_runV (As := [.int q_24, .int 0]) (rest := []) ⟨hx, hb, hml, hown, hts⟩ (K_X5_push l hfl G a T8 F U S D R M8 N P q_24 0  q_25 hq_25 H.size) (cwV 2 hts (gV wm1170 wm1172 ws_p21 wm10 wm1173) rfl rfl rfl (by decide +kernel) ⟨Nat.le_of_ble_eq_true rfl, Nat.le_of_ble_eq_true rfl⟩) (pre_v (pre_w hK hP hD hS hE hFc) (va_recv hK hP (ci := 5) (q0 := 31) rfl rfl)) rfl rfl hl.1 rfl (lv_room (Nat.le_of_ble_eq_true rfl)) dX5_valueOf_86 ⟨Nat.le_of_ble_eq_true rfl, Nat.le_of_ble_eq_true rfl⟩) hS (fun q _ h => hFc q h) hFc (fun u t H locs ht hvm hw hB hz1 hk1 hS => ?_)
            have hP : va_P (DG G) clP3 (wC G a T8 F U S D R q_25 N P) H := by rw [← ht]; exact hB.1
            have hD : va_D A (wC G a T8 F U S D R q_25 N P) := hB.2.weaken (fun _ p _ h => hFc p.1 h)
            clear hB hFc hk1
            refine W.widen (k := 0) (n := 0) (Nat.le_of_ble_eq_true rfl) (Nat.le_of_ble_eq_true rfl) ?_
            refine lv_aload_n hx hb dX5_valueOf_89 rfl (lv_at hl 0 rfl) ?_
            refine va_get (D := DG G) (ci := 5) (v := .int q_25.2.2.2.2.2.1) (C := RX5) (T := TX5) (N := 12) hx hb hts inW_X5 hown hK hP 31 rfl rfl 8 (by decide) (hts _ wm254) (fun _ h9 => h9) rfl dX5_valueOf_90 ?_
            refine lv_sipush (v := 4200) hx hb dX5_valueOf_93 (by decide) ?_
            refine lv_icmp_ge (tgt := 110) hx hb dX5_valueOf_96 (by decide) (fun c_26 => ?_) (fun c_26 => ?_)
            · rw [if_pos c_26] at hm
              refine lv_iconst (v := (-1)) hx hb dX5_valueOf_110 (by decide) ?_
              refine lv_istore_n (lv' := [(3, .int (-1)), (0, .ref (a.1 31)), (4, .int v4), (5, .int v5)]) hx hb dX5_valueOf_111 rfl hl (by decide) rfl (fun ls hl => ?_)
              refine lv_goto (tgt := 215) hx hb dX5_valueOf_112 (by decide) ?_
              refine lv_iinc (v := (v5 + 1)) (lv' := [(5, .int (v5 + 1)), (3, .int (-1)), (0, .ref (a.1 31)), (4, .int v4)]) hx hb dX5_valueOf_215 hl (k := 3) rfl rfl (by decide) rfl (fun ls hl => ?_)
              refine lv_goto (tgt := 46) hx hb dX5_valueOf_218 (by decide) ?_
              refine W.widen (k := 0) (n := 0) (Nat.le_of_ble_eq_true rfl) (Nat.le_of_ble_eq_true rfl) ?_
              exact ih T8 q_25 (-1) v4 (v5 + 1)  _ _ hP hD hS _ (lv_sub hl [2, 1, 3, 0] rfl) hm
            · rw [if_neg c_26] at hm
              refine lv_aload_n hx hb dX5_valueOf_99 rfl (lv_at hl 0 rfl) ?_
              refine va_get (D := DG G) (ci := 5) (v := .ref (a.1 1)) (C := RX5) (T := TX5) (N := 12) hx hb hts inW_X5 hown hK hP 31 rfl rfl 0 (by decide) (hts _ wm246) (fun _ h9 => h9) rfl dX5_valueOf_100 ?_
              refine lv_iload_n hx hb dX5_valueOf_103 rfl (lv_at hl 1 rfl) ?_
              obtain ⟨q_27, hq_27, hm⟩ := bind_some hm
              have hFc := free_all hD hS hA
              refine va_calli (va_runV (As := [.int v3]) (rest := []) ⟨hx, hb, hml, hown, hts⟩ (K_X9_firstOf l hfl G a T8 F U S D R q_25 N P v3  q_27 hq_27 H.size) (cwV 1 hts (gV wm1174 wm431 wm432 wm2 wm433) rfl rfl rfl (by decide +kernel) ⟨Nat.le_of_ble_eq_true rfl, Nat.le_of_ble_eq_true rfl⟩) (pre_v (pre_w hK hP hD hS hE hFc) (va_recv hK hP (ci := 8) (q0 := 1) rfl rfl)) rfl rfl hl.1 rfl (lv_room (Nat.le_of_ble_eq_true rfl)) dX5_valueOf_104 ⟨Nat.le_of_ble_eq_true rfl, Nat.le_of_ble_eq_true rfl⟩) hS (fun q _ h => hFc q h) hFc (fun r u t H locs ht hvm hw hB hz1 hk1 hS => ?_)
              rw [show r = q_27 from hw]
              have hP : va_P (DG G) clP3 (wC G a T8 F U S D R q_25 N P) H := by rw [← ht]; exact hB.1
              have hD : va_D A (wC G a T8 F U S D R q_25 N P) := hB.2.weaken (fun _ p _ h => hFc p.1 h)
              clear hB hFc hw hk1
              refine W.widen (k := 0) (n := 0) (Nat.le_of_ble_eq_true rfl) (Nat.le_of_ble_eq_true rfl) ?_
              refine lv_goto (tgt := 111) hx hb dX5_valueOf_107 (by decide) ?_
              refine lv_istore_n (lv' := [(3, .int q_27), (0, .ref (a.1 31)), (4, .int v4), (5, .int v5)]) hx hb dX5_valueOf_111 rfl hl (by decide) rfl (fun ls hl => ?_)
              refine lv_goto (tgt := 215) hx hb dX5_valueOf_112 (by decide) ?_
              refine lv_iinc (v := (v5 + 1)) (lv' := [(5, .int (v5 + 1)), (3, .int q_27), (0, .ref (a.1 31)), (4, .int v4)]) hx hb dX5_valueOf_215 hl (k := 3) rfl rfl (by decide) rfl (fun ls hl => ?_)
              refine lv_goto (tgt := 46) hx hb dX5_valueOf_218 (by decide) ?_
              refine W.widen (k := 0) (n := 0) (Nat.le_of_ble_eq_true rfl) (Nat.le_of_ble_eq_true rfl) ?_
              exact ih T8 q_25 q_27 v4 (v5 + 1)  _ _ hP hD hS _ (lv_sub hl [2, 1, 3, 0] rfl) hm
set_option maxHeartbeats 2000000 in
set_option maxRecDepth 100000 in
theorem k_X5_valueOf1 (l : Launch) (hfl : l.stackTraces = false) (G : GC) (a : AS) (T : TS) (F : FS) (U : US) (S : SS) (D : DS) (R : RS) (M : MS) (N : NS) (P : PS) (hlk : lkA a D.1.toNatClampNeg D.2.1.toNatClampNeg) (p1 : Int32) (r9 : Int32) (T9 : TS) (M9 : MS) (hm : f_X5_valueOf1 T S D M P p1 = some (r9, T9, M9)) (sz : Nat) : Met l yX5_valueOf (Cond.code yX5_valueOf cX5_valueOf 7 (some .int) :: W0) ({ frames := 405, cells := 0, slots := 0, locals := 10518 }) (va_Pc [.ref (a.1 31), .int p1, .int 1] (WD G (wC G a T F U S D R M N P) sz)) (va_Qi (fun (r : Int32) (_ : Unit) => r = r9) (fun _ t => PW G (va_A (wC G a T F U S D R M N P) sz) (wC G a T9 F U S D R M9 N P) t) (va_A (wC G a T F U S D R M N P) sz)) 0 0 (va_A (wC G a T F U S D R M N P) sz) := by
  rw [f_X5_valueOf1] at hm
  refine Met.ofW (cc := cX5_valueOf) (maxL := 7) (ret := (some .int)) (by decide) rfl ?_
  intro p e s m args below meth c s₁ B hml hv
  obtain ⟨rfl, hsz, hP, hK, hD0, hE⟩ := hv
  have hx := B.exec
  have hb := B.bytes
  have hr := B.returns
  have hts := w0_tail B.pre
  have hown : s.vm.findClass RX5 = some m.cls := findClass_of_methodNamed B.named
  have hlocks := B.notSynchronized
  have hD := hD0.self (sz := sz)
  obtain ⟨A, hAe⟩ : ∃ A, (va_A (wC G a T F U S D R M N P) sz) = A := ⟨_, rfl⟩
  rw [hAe] at hD hE
  have hA : ∀ q : Nat, s.heap.size ≤ q → A q := fun q h => by rw [← hAe]; exact Or.inr (by rw [← hsz]; exact h)
  have hS : va_S A s.heap s.heap [] := va_S.rf
  obtain ⟨H, hHe⟩ : ∃ H : Heap, H = s.heap := ⟨_, rfl⟩
  have hP : va_P (DG G) clP3 (wC G a T F U S D R M N P) H := by rw [hHe]; exact hP
  have hS : va_S A s.heap H [] := by rw [hHe]; exact hS
  have hl := lv_entry ([.ref (a.1 31), .int p1, .int 1]) (n := 7) (Nat.le_of_ble_eq_true rfl)
  rw [lg_entry_eq, ← hHe]
  generalize (lg_sl ([.ref (a.1 31), .int p1, .int 1]) ++ List.replicate (7 - (lg_sl ([.ref (a.1 31), .int p1, .int 1])).length) Slot.unset).toArray = ls at hl ⊢
  have hl : lv_has ls 7 [(0, .ref (a.1 31)), (1, .int p1), (2, .int 1)] := hl
  refine lv_aload_n hx hb dX5_valueOf_0 rfl (lv_at hl 0 rfl) ?_
  refine va_get (D := DG G) (ci := 5) (v := .ref (a.1 1)) (C := RX5) (T := TX5) (N := 12) hx hb hts inW_X5 hown hK hP 31 rfl rfl 0 (by decide) (hts _ wm246) (fun _ h9 => h9) rfl dX5_valueOf_1 ?_
  refine lv_iload_n hx hb dX5_valueOf_4 rfl (lv_at hl 1 rfl) ?_
  obtain ⟨q_1, hq_1, hm⟩ := bind_some hm
  have hFc := free_all hD hS hA
  refine va_calli (va_runV (As := [.int p1]) (rest := []) ⟨hx, hb, hml, hown, hts⟩ (K_X9_callsOf l hfl G a T F U S D R M N P p1  q_1 hq_1 H.size) (cwV 1 hts (gV wm1166 wm1031 wm1032 wm2 wm1033) rfl rfl rfl (by decide +kernel) ⟨Nat.le_of_ble_eq_true rfl, Nat.le_of_ble_eq_true rfl⟩) (pre_v (pre_w hK hP hD hS hE hFc) (va_recv hK hP (ci := 8) (q0 := 1) rfl rfl)) rfl rfl hl.1 rfl (lv_room (Nat.le_of_ble_eq_true rfl)) dX5_valueOf_5 ⟨Nat.le_of_ble_eq_true rfl, Nat.le_of_ble_eq_true rfl⟩) hS (fun q _ h => hFc q h) hFc (fun r u t H locs ht hvm hw hB hz1 hk1 hS => ?_)
  rw [show r = q_1 from hw]
  have hP : va_P (DG G) clP3 (wC G a T F U S D R M N P) H := by rw [← ht]; exact hB.1
  have hD : va_D A (wC G a T F U S D R M N P) := hB.2.weaken (fun _ p _ h => hFc p.1 h)
  clear hB hFc hw hk1
  refine W.widen (k := 0) (n := 0) (Nat.le_of_ble_eq_true rfl) (Nat.le_of_ble_eq_true rfl) ?_
  refine lv_aload_n hx hb dX5_valueOf_8 rfl (lv_at hl 0 rfl) ?_
  refine va_get (D := DG G) (ci := 5) (v := .ref (a.1 21)) (C := RX5) (T := TX5) (N := 12) hx hb hts inW_X5 hown hK hP 31 rfl rfl 2 (by decide) (hts _ wm248) (fun _ h9 => h9) rfl dX5_valueOf_9 ?_
  refine va_getN (D := DG G) (ci := 0) (v := .int D.2.2) (C := RX0) (T := TX0) (N := 8) hx hb hts inW_X0 hown hK hP 21 rfl rfl 7 (by decide) (va_Nw.use rfl (hE.1 _ nw149)) (fun _ h9 => h9) rfl dX5_valueOf_12 ?_
  refine lv_iconst (v := (-1)) hx hb dX5_valueOf_15 (by decide) ?_
  refine lv_ixor hx hb dX5_valueOf_16 ?_
  refine lv_iand hx hb dX5_valueOf_17 ?_
  refine lv_if_eq (tgt := 23) hx hb dX5_valueOf_18 (by decide) (fun c_2 => ?_) (fun c_2 => ?_)
  · rw [if_pos c_2] at hm
    refine lv_aload_n hx hb dX5_valueOf_23 rfl (lv_at hl 0 rfl) ?_
    refine lv_iload_n hx hb dX5_valueOf_24 rfl (lv_at hl 2 rfl) ?_
    refine va_put (D := DG G) (ci := 5) (v := .int 1) (ty := tyX5 11) (C := RX5) (T := TX5) (N := 12) hx hb hts inW_X5 tyX5 tyX5_ok nmX5 hown hK hP hD hS 31 rfl rfl 11 (by decide) (hts _ wm258) (fun _ h9 => h9) rfl (by decide +kernel) rfl rfl (Nat.le_of_ble_eq_true rfl) dX5_valueOf_25 (fun H locs hP hD hS => ?_)
    have hP : va_P (DG G) clP3 (wC G a T F U S D R (M.1, M.2.1, M.2.2.1, M.2.2.2.1, M.2.2.2.2.1, M.2.2.2.2.2.1, M.2.2.2.2.2.2.1, M.2.2.2.2.2.2.2.1, 1) N P) H := hP
    have hD : va_D A (wC G a T F U S D R (M.1, M.2.1, M.2.2.1, M.2.2.2.1, M.2.2.2.2.1, M.2.2.2.2.2.1, M.2.2.2.2.2.2.1, M.2.2.2.2.2.2.2.1, 1) N P) := hD
    refine lv_aload_n hx hb dX5_valueOf_28 rfl (lv_at hl 0 rfl) ?_
    refine lv_iconst (v := 0) hx hb dX5_valueOf_29 (by decide) ?_
    refine va_put (D := DG G) (ci := 5) (v := .int 0) (ty := tyX5 8) (C := RX5) (T := TX5) (N := 12) hx hb hts inW_X5 tyX5 tyX5_ok nmX5 hown hK hP hD hS 31 rfl rfl 8 (by decide) (hts _ wm254) (fun _ h9 => h9) rfl (by decide +kernel) rfl rfl (Nat.le_of_ble_eq_true rfl) dX5_valueOf_30 (fun H locs hP hD hS => ?_)
    have hP : va_P (DG G) clP3 (wC G a T F U S D R (M.1, M.2.1, M.2.2.1, M.2.2.2.1, M.2.2.2.2.1, 0, M.2.2.2.2.2.2.1, M.2.2.2.2.2.2.2.1, 1) N P) H := hP
    have hD : va_D A (wC G a T F U S D R (M.1, M.2.1, M.2.2.1, M.2.2.2.1, M.2.2.2.2.1, 0, M.2.2.2.2.2.2.1, M.2.2.2.2.2.2.2.1, 1) N P) := hD
    refine lv_aload_n hx hb dX5_valueOf_33 rfl (lv_at hl 0 rfl) ?_
    refine lv_iconst (v := 0) hx hb dX5_valueOf_34 (by decide) ?_
    refine va_put (D := DG G) (ci := 5) (v := .int 0) (ty := tyX5 9) (C := RX5) (T := TX5) (N := 12) hx hb hts inW_X5 tyX5 tyX5_ok nmX5 hown hK hP hD hS 31 rfl rfl 9 (by decide) (hts _ wm255) (fun _ h9 => h9) rfl (by decide +kernel) rfl rfl (Nat.le_of_ble_eq_true rfl) dX5_valueOf_35 (fun H locs hP hD hS => ?_)
    have hP : va_P (DG G) clP3 (wC G a T F U S D R (M.1, M.2.1, M.2.2.1, M.2.2.2.1, M.2.2.2.2.1, 0, 0, M.2.2.2.2.2.2.2.1, 1) N P) H := hP
    have hD : va_D A (wC G a T F U S D R (M.1, M.2.1, M.2.2.1, M.2.2.2.1, M.2.2.2.2.1, 0, 0, M.2.2.2.2.2.2.2.1, 1) N P) := hD
    refine lv_iload_n hx hb dX5_valueOf_38 rfl (lv_at hl 1 rfl) ?_
    refine lv_istore_n (lv' := [(3, .int p1), (0, .ref (a.1 31)), (1, .int p1), (2, .int 1)]) hx hb dX5_valueOf_39 rfl hl (by decide) rfl (fun ls hl => ?_)
    refine lv_iconst (v := 0) hx hb dX5_valueOf_40 (by decide) ?_
    refine lv_istore (lv' := [(4, .int 0), (3, .int p1), (0, .ref (a.1 31)), (1, .int p1), (2, .int 1)]) hx hb dX5_valueOf_41 hl (by decide) rfl (fun ls hl => ?_)
    refine lv_iconst (v := 0) hx hb dX5_valueOf_43 (by decide) ?_
    refine lv_istore (lv' := [(5, .int 0), (4, .int 0), (3, .int p1), (0, .ref (a.1 31)), (1, .int p1), (2, .int 1)]) hx hb dX5_valueOf_44 hl (by decide) rfl (fun ls hl => ?_)
    refine W.widen (k := 0) (n := 0) (Nat.le_of_ble_eq_true rfl) (Nat.le_of_ble_eq_true rfl) ?_
    exact kl_X5_valueOf1_46 hfl hx hb hr hml hown hts hlocks hlk hAe hA hE hK r9 T9 M9 100000 T (M.1, M.2.1, M.2.2.1, M.2.2.2.1, M.2.2.2.2.1, 0, 0, M.2.2.2.2.2.2.2.1, 1) p1 0 0  _ _ hP hD hS _ (lv_sub hl [3, 2, 1, 0] rfl) hm
  · rw [if_neg c_2] at hm
    refine lv_iconst (v := (-1)) hx hb dX5_valueOf_21 (by decide) ?_
    simp only [Option.some.injEq, Prod.mk.injEq] at hm
    obtain ⟨rfl, rfl, rfl⟩ := hm
    refine W.widen (k := 0) (n := 0) (Nat.le_of_ble_eq_true rfl) (Nat.le_of_ble_eq_true rfl) ?_
    exact W.iret (v := (-1)) hx hb hr (fun t ht hW => ⟨⟨(-1), (), rfl, rfl, ⟨by rw [ht]; exact hP, by rw [hAe]; exact hD⟩⟩, by rw [hAe]; exact hS.F ht⟩) (by rw [hAe]; exact hS.2.2) dX5_valueOf_22 hlocks
