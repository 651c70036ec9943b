def f_X4_signsOfG_L6 : Nat → TS → DS → RS → PS → Int32 → Int32 → Int32 → Int32 → Int32 → Option (Int32)
  | 0, _, _, _, _, _, _, _, _, _ => none
  | n + 1, T, D, R, P, v1, v2, v3, v4, v5 => (if R.2.1 ≤ v5 then some v4 else (if (Int32.ofNat (P.2.2.2.2.2.2.2.2.2.2.2.2.1 (Int32.toNatClampNeg v1))) ≤ v5 then some v4 else (if v2 < 0 then (f_X4_signsOfG_L6 n T D R P v1 v2 v3 v4 (v5 + 1)) else (if inb v5 (P.2.2.2.2.2.2.2.2.2.2.2.2.1 (Int32.toNatClampNeg v1)) = true then (Option.bind (g_X6_holds T ((P.2.2.2.2.2.2.2.2.2.2.2.2.2 (Int32.toNatClampNeg v1)) (Int32.toNatClampNeg v5)) v2) (fun q_5 => (if q_5 = 0 then (f_X4_signsOfG_L6 n T D R P v1 v2 v3 v4 (v5 + 1)) else (if inb v5 (P.2.2.2.2.2.2.2.2.2.2.2.2.1 (Int32.toNatClampNeg v1)) = true then (Option.bind (g_X9_kindOf T ((P.2.2.2.2.2.2.2.2.2.2.2.2.2 (Int32.toNatClampNeg v1)) (Int32.toNatClampNeg v5))) (fun q_8 => (if q_8 = 1 then (Option.bind (some (v4 ||| ((1 : Int32) <<< ((((4 : Int32) * v5) + v3) &&& 31)))) (fun yz_11 => (f_X4_signsOfG_L6 n T D R P v1 v2 v3 yz_11 (v5 + 1)))) else (Option.bind (some (v4 ||| ((65537 : Int32) <<< ((((4 : Int32) * v5) + v3) &&& 31)))) (fun yz_10 => (f_X4_signsOfG_L6 n T D R P v1 v2 v3 yz_10 (v5 + 1))))))) else none)))) else none))))
def f_X4_signsOfG (T : TS) (D : DS) (R : RS) (P : PS) (p1 : Int32) (p2 : Int32) (p3 : Int32) : Option (Int32) := (f_X4_signsOfG_L6 100000 T D R P p1 p2 p3 0 0)
set_option maxHeartbeats 2000000 in
set_option maxRecDepth 100000 in
theorem kl_X4_signsOfG_6 {l : Launch} (hfl : l.stackTraces = false) {G : GC} {a : AS} {T : TS} {F : FS} {U : US} {S : SS} {D : DS} {R : RS} {M : MS} {N : NS} {P : PS} {A : Nat → Prop} {sz : Nat} {p : Program} {e : Env} {s : State} {m : MethodId} {args : Array Value} {below : List Frame} {meth : Method} {c : Code} (hx : p.tables.exec = Jvm.exec) (hb : c.code = cX4_signsOf) (hr : meth.sig.returnType = (some .int)) (hml : c.maxLocals = 7) (hown : s.vm.findClass RX4 = some m.cls) (hts : ∀ w ∈ W0, w.before args s = true) (hlocks : meth.locks = false) (hlk : lkA a D.1.toNatClampNeg D.2.1.toNatClampNeg) (hAe : (va_A (wC G a T F U S D R M N P) sz) = A) (hA : ∀ q : Nat, s.heap.size ≤ q → A q) (hE : EV G A s s.heap) (hK : va_K (DG G) clP3 (TY G) s) (r9 : Int32) : ∀ (n : Nat), ∀ (v1 : Int32) (v2 : Int32) (v3 : Int32) (v4 : Int32) (v5 : Int32) (hv1 : gix D v1 = true) (H : Heap) (locs : List Loc), va_P (DG G) clP3 (wC G a T F U S D R M N P) H → va_D A (wC G a T F U S D R M N P) → va_S A s.heap H locs → ∀ (ls : Array Slot), lv_has ls 7 [(0, .ref (a.1 29)), (1, .ref (a.2.2.1 (Int32.toNatClampNeg v1) 0)), (2, .int v2), (3, .int v3), (4, .int v4), (5, .int v5)] → f_X4_signsOfG_L6 n T D R P v1 v2 v3 v4 v5 = some r9 → W p l e ({ frames := 202, cells := 0, slots := 0, locals := 4644 }) s m args below meth c H locs 0 0 (MQ below (va_Qi (fun (r : Int32) (_ : Unit) => r = r9) (fun _ t => PW G (va_A (wC G a T F U S D R M N P) sz) (wC G a T F U S D R M N P) t) (va_A (wC G a T F U S D R M N P) sz)) args s 0 0 (va_A (wC G a T F U S D R M N P) sz)) (F0 m 6 ls []) := by
  intro n
  induction n with
  | zero =>
    intro v1 v2 v3 v4 v5 hv1 H locs hP hD hS ls hl hm
    rw [f_X4_signsOfG_L6] at hm
    cases hm
  | succ n ih =>
    intro v1 v2 v3 v4 v5 hv1 H locs hP hD hS ls hl hm
    rw [f_X4_signsOfG_L6] at hm
    refine lv_iload hx hb dX4_signsOf_6 (lv_at hl 5 rfl) ?_
    refine lv_aload_n hx hb dX4_signsOf_8 rfl (lv_at hl 0 rfl) ?_
    refine va_get (D := DG G) (ci := 4) (v := .int R.2.1) (C := RX4) (T := TX4) (N := 6) hx hb hts inW_X4 hown hK hP 29 rfl rfl 3 (by decide) (hts _ wm223) (fun _ h9 => h9) rfl dX4_signsOf_9 ?_
    refine lv_icmp_ge (tgt := 101) hx hb dX4_signsOf_12 (by decide) (fun c_1 => ?_) (fun c_1 => ?_)
    · rw [if_pos c_1] at hm
      refine lv_iload hx hb dX4_signsOf_101 (lv_at hl 4 rfl) ?_
      obtain rfl := Option.some.inj hm
      refine W.widen (k := 0) (n := 0) (Nat.le_of_ble_eq_true rfl) (Nat.le_of_ble_eq_true rfl) ?_
      exact W.iret (v := v4) hx hb hr (fun t ht hW => ⟨⟨v4, (), rfl, rfl, ⟨by rw [ht]; exact hP, by rw [hAe]; exact hD⟩⟩, by rw [hAe]; exact hS.F ht⟩) (by rw [hAe]; exact hS.2.2) dX4_signsOf_103 hlocks
    · rw [if_neg c_1] at hm
      refine lv_iload hx hb dX4_signsOf_15 (lv_at hl 5 rfl) ?_
      refine lv_aload_n hx hb dX4_signsOf_17 rfl (lv_at hl 1 rfl) ?_
      refine va_getN (D := DG G) (ci := 3) (v := .ref (a.2.2.1 (Int32.toNatClampNeg v1) 3)) (C := RX3) (T := TX3) (N := 8) hx hb hts inW_X3 hown hK hP _ ((at_goalC (c := 0) (gix_lt hv1) (by decide)).trans rfl) rfl 3 (by decide) (va_Nw.use rfl (hE.1 _ nw916)) (fun _ h9 => h9) rfl dX4_signsOf_18 ?_
      refine va_alen (v := Int32.ofNat (P.2.2.2.2.2.2.2.2.2.2.2.2.1 (Int32.toNatClampNeg v1))) hx hb hK hP _ 0 ((at_goalC (c := 3) (gix_lt hv1) (by decide)).trans rfl) rfl rfl dX4_signsOf_21 ?_
      refine lv_icmp_ge (tgt := 101) hx hb dX4_signsOf_22 (by decide) (fun c_2 => ?_) (fun c_2 => ?_)
      · rw [if_pos c_2] at hm
        refine lv_iload hx hb dX4_signsOf_101 (lv_at hl 4 rfl) ?_
        obtain rfl := Option.some.inj hm
        refine W.widen (k := 0) (n := 0) (Nat.le_of_ble_eq_true rfl) (Nat.le_of_ble_eq_true rfl) ?_
        exact W.iret (v := v4) hx hb hr (fun t ht hW => ⟨⟨v4, (), rfl, rfl, ⟨by rw [ht]; exact hP, by rw [hAe]; exact hD⟩⟩, by rw [hAe]; exact hS.F ht⟩) (by rw [hAe]; exact hS.2.2) dX4_signsOf_103 hlocks
      · rw [if_neg c_2] at hm
        refine lv_iload_n hx hb dX4_signsOf_25 rfl (lv_at hl 2 rfl) ?_
        refine lv_if_lt (tgt := 95) hx hb dX4_signsOf_26 (by decide) (fun c_3 => ?_) (fun c_3 => ?_)
        · rw [if_pos c_3] at hm
          refine lv_iinc (v := (v5 + 1)) (lv' := [(5, .int (v5 + 1)), (0, .ref (a.1 29)), (1, .ref (a.2.2.1 (Int32.toNatClampNeg v1) 0)), (2, .int v2), (3, .int v3), (4, .int v4)]) hx hb dX4_signsOf_95 hl (k := 5) rfl rfl (by decide) rfl (fun ls hl => ?_)
          refine lv_goto (tgt := 6) hx hb dX4_signsOf_98 (by decide) ?_
          refine W.widen (k := 0) (n := 0) (Nat.le_of_ble_eq_true rfl) (Nat.le_of_ble_eq_true rfl) ?_
          exact ih  v1 v2 v3 v4 (v5 + 1) hv1 _ _ hP hD hS _ (lv_sub hl [1, 2, 3, 4, 5, 0] rfl) hm
        · rw [if_neg c_3] at hm
          refine lv_aload_n hx hb dX4_signsOf_29 rfl (lv_at hl 0 rfl) ?_
          refine va_get (D := DG G) (ci := 4) (v := .ref (a.1 1)) (C := RX4) (T := TX4) (N := 6) hx hb hts inW_X4 hown hK hP 29 rfl rfl 0 (by decide) (hts _ wm220) (fun _ h9 => h9) rfl dX4_signsOf_30 ?_
          refine lv_aload_n hx hb dX4_signsOf_33 rfl (lv_at hl 1 rfl) ?_
          refine va_getN (D := DG G) (ci := 3) (v := .ref (a.2.2.1 (Int32.toNatClampNeg v1) 3)) (C := RX3) (T := TX3) (N := 8) hx hb hts inW_X3 hown hK hP _ ((at_goalC (c := 0) (gix_lt hv1) (by decide)).trans rfl) rfl 3 (by decide) (va_Nw.use rfl (hE.1 _ nw916)) (fun _ h9 => h9) rfl dX4_signsOf_34 ?_
          refine lv_iload hx hb dX4_signsOf_37 (lv_at hl 5 rfl) ?_
          obtain ⟨b_4, hm⟩ := ite_some hm
          refine va_iald hx hb hK hP _ 0 ((at_goalC (c := 3) (gix_lt hv1) (by decide)).trans rfl) rfl (inb_vp b_4) dX4_signsOf_39 ?_
          refine lv_iload_n hx hb dX4_signsOf_40 rfl (lv_at hl 2 rfl) ?_
          obtain ⟨q_5, hq_5, hm⟩ := bind_some hm
          have hFc := free_all hD hS hA
          refine va_calli (va_runSN (As := [.ref (a.1 1), .int ((P.2.2.2.2.2.2.2.2.2.2.2.2.2 (Int32.toNatClampNeg v1)) (Int32.toNatClampNeg v5)), .int v2]) (rest := []) ⟨hx, hb, hml, hown, hts⟩ (K_X6_holds l hfl G a T F U S D R M N P ((P.2.2.2.2.2.2.2.2.2.2.2.2.2 (Int32.toNatClampNeg v1)) (Int32.toNatClampNeg v5)) v2  q_5 hq_5 H.size) ⟨va_cnB 3 hts (gC wm1131) rfl rfl rfl (hE.1 _ nw1129) (hts _ wm20) (by decide +kernel) ⟨Nat.le_of_ble_eq_true rfl, Nat.le_of_ble_eq_true rfl⟩, hts _ wm1130, trivial⟩ (pre_w hK hP hD hS hE hFc) rfl rfl hl.1 rfl (lv_room (Nat.le_of_ble_eq_true rfl)) dX4_signsOf_41 ⟨Nat.le_of_ble_eq_true rfl, Nat.le_of_ble_eq_true rfl⟩) hS (fun q _ h => hFc q h) hFc (fun r u t H locs ht hvm hw hB hz1 hk1 hS => ?_)
          rw [show r = q_5 from hw]
          have hP : va_P (DG G) clP3 (wC G a T F U S D R M N P) H := by rw [← ht]; exact hB.1
          have hD : va_D A (wC G a T F U S D R M N P) := hB.2.weaken (fun _ p _ h => hFc p.1 h)
          clear hB hFc hw hk1
          refine W.widen (k := 0) (n := 0) (Nat.le_of_ble_eq_true rfl) (Nat.le_of_ble_eq_true rfl) ?_
          refine lv_if_eq (tgt := 95) hx hb dX4_signsOf_44 (by decide) (fun c_6 => ?_) (fun c_6 => ?_)
          · rw [if_pos c_6] at hm
            refine lv_iinc (v := (v5 + 1)) (lv' := [(5, .int (v5 + 1)), (0, .ref (a.1 29)), (1, .ref (a.2.2.1 (Int32.toNatClampNeg v1) 0)), (2, .int v2), (3, .int v3), (4, .int v4)]) hx hb dX4_signsOf_95 hl (k := 5) rfl rfl (by decide) rfl (fun ls hl => ?_)
            refine lv_goto (tgt := 6) hx hb dX4_signsOf_98 (by decide) ?_
            refine W.widen (k := 0) (n := 0) (Nat.le_of_ble_eq_true rfl) (Nat.le_of_ble_eq_true rfl) ?_
            exact ih  v1 v2 v3 v4 (v5 + 1) hv1 _ _ hP hD hS _ (lv_sub hl [1, 2, 3, 4, 5, 0] rfl) hm
          · rw [if_neg c_6] at hm
            refine lv_aload_n hx hb dX4_signsOf_47 rfl (lv_at hl 0 rfl) ?_
            refine va_get (D := DG G) (ci := 4) (v := .ref (a.1 1)) (C := RX4) (T := TX4) (N := 6) hx hb hts inW_X4 hown hK hP 29 rfl rfl 0 (by decide) (hts _ wm220) (fun _ h9 => h9) rfl dX4_signsOf_48 ?_
            refine lv_aload_n hx hb dX4_signsOf_51 rfl (lv_at hl 1 rfl) ?_
            refine va_getN (D := DG G) (ci := 3) (v := .ref (a.2.2.1 (Int32.toNatClampNeg v1) 3)) (C := RX3) (T := TX3) (N := 8) hx hb hts inW_X3 hown hK hP _ ((at_goalC (c := 0) (gix_lt hv1) (by decide)).trans rfl) rfl 3 (by decide) (va_Nw.use rfl (hE.1 _ nw916)) (fun _ h9 => h9) rfl dX4_signsOf_52 ?_
            refine lv_iload hx hb dX4_signsOf_55 (lv_at hl 5 rfl) ?_
            obtain ⟨b_7, hm⟩ := ite_some hm
            refine va_iald hx hb hK hP _ 0 ((at_goalC (c := 3) (gix_lt hv1) (by decide)).trans rfl) rfl (inb_vp b_7) dX4_signsOf_57 ?_
            obtain ⟨q_8, hq_8, hm⟩ := bind_some hm
            have hFc := free_all hD hS hA
            refine va_calli (va_runV (As := [.int ((P.2.2.2.2.2.2.2.2.2.2.2.2.2 (Int32.toNatClampNeg v1)) (Int32.toNatClampNeg v5))]) (rest := []) ⟨hx, hb, hml, hown, hts⟩ (K_X9_kindOf l hfl G a T F U S D R M N P ((P.2.2.2.2.2.2.2.2.2.2.2.2.2 (Int32.toNatClampNeg v1)) (Int32.toNatClampNeg v5))  q_8 hq_8 H.size) (cwV 1 hts (gV wm1120 wm435 wm436 wm2 wm437) rfl rfl rfl (by decide +kernel) ⟨Nat.le_of_ble_eq_true rfl, Nat.le_of_ble_eq_true rfl⟩) (pre_v (pre_w hK hP hD hS hE hFc) (va_recv hK hP (ci := 8) (q0 := 1) rfl rfl)) rfl rfl hl.1 rfl (lv_room (Nat.le_of_ble_eq_true rfl)) dX4_signsOf_58 ⟨Nat.le_of_ble_eq_true rfl, Nat.le_of_ble_eq_true rfl⟩) hS (fun q _ h => hFc q h) hFc (fun r u t H locs ht hvm hw hB hz1 hk1 hS => ?_)
            rw [show r = q_8 from hw]
            have hP : va_P (DG G) clP3 (wC G a T F U S D R M N P) H := by rw [← ht]; exact hB.1
            have hD : va_D A (wC G a T F U S D R M N P) := hB.2.weaken (fun _ p _ h => hFc p.1 h)
            clear hB hFc hw hk1
            refine W.widen (k := 0) (n := 0) (Nat.le_of_ble_eq_true rfl) (Nat.le_of_ble_eq_true rfl) ?_
            refine lv_iconst (v := 1) hx hb dX4_signsOf_61 (by decide) ?_
            refine lv_icmp_ne (tgt := 69) hx hb dX4_signsOf_62 (by decide) (fun c_9 => ?_) (fun c_9 => ?_)
            · rw [if_neg c_9] at hm
              refine lv_iconst (v := 0) hx hb dX4_signsOf_69 (by decide) ?_
              refine lv_istore (lv' := [(6, .int 0), (0, .ref (a.1 29)), (1, .ref (a.2.2.1 (Int32.toNatClampNeg v1) 0)), (2, .int v2), (3, .int v3), (4, .int v4), (5, .int v5)]) hx hb dX4_signsOf_70 hl (by decide) rfl (fun ls hl => ?_)
              refine lv_iload hx hb dX4_signsOf_72 (lv_at hl 5 rfl) ?_
              refine lv_iload hx hb dX4_signsOf_74 (lv_at hl 0 rfl) ?_
              refine lv_if_eq (tgt := 83) hx hb dX4_signsOf_76 (by decide) (fun _ => ?_) (fun c => absurd (by decide) c)
              refine lv_ldc (v := 65537) hx hb hown (hts _ wm1133) dX4_signsOf_83 ?_
              refine lv_iconst (v := 4) hx hb dX4_signsOf_85 (by decide) ?_
              refine lv_iload hx hb dX4_signsOf_86 (lv_at hl 6 rfl) ?_
              refine lv_imul hx hb dX4_signsOf_88 ?_
              refine lv_iload_n hx hb dX4_signsOf_89 rfl (lv_at hl 4 rfl) ?_
              refine lv_iadd hx hb dX4_signsOf_90 ?_
              refine lv_ishl hx hb dX4_signsOf_91 ?_
              refine lv_ior hx hb dX4_signsOf_92 ?_
              refine lv_topi (fun yz_10 eyz_10 => ?_)
              obtain ⟨z_10, hz_10, hm⟩ := bind_some hm
              obtain rfl : yz_10 = z_10 := eyz_10.trans (Option.some.inj hz_10)
              refine lv_istore (lv' := [(4, .int yz_10), (6, .int 0), (0, .ref (a.1 29)), (1, .ref (a.2.2.1 (Int32.toNatClampNeg v1) 0)), (2, .int v2), (3, .int v3), (5, .int v5)]) hx hb dX4_signsOf_93 hl (by decide) rfl (fun ls hl => ?_)
              refine lv_iinc (v := (v5 + 1)) (lv' := [(5, .int (v5 + 1)), (4, .int yz_10), (6, .int 0), (0, .ref (a.1 29)), (1, .ref (a.2.2.1 (Int32.toNatClampNeg v1) 0)), (2, .int v2), (3, .int v3)]) hx hb dX4_signsOf_95 hl (k := 6) rfl rfl (by decide) rfl (fun ls hl => ?_)
              refine lv_goto (tgt := 6) hx hb dX4_signsOf_98 (by decide) ?_
              refine W.widen (k := 0) (n := 0) (Nat.le_of_ble_eq_true rfl) (Nat.le_of_ble_eq_true rfl) ?_
              exact ih  v1 v2 v3 yz_10 (v5 + 1) hv1 _ _ hP hD hS _ (lv_sub hl [3, 4, 5, 6, 1, 0] rfl) hm
            · rw [if_pos c_9] at hm
              refine lv_iconst (v := 1) hx hb dX4_signsOf_65 (by decide) ?_
              refine lv_goto (tgt := 70) hx hb dX4_signsOf_66 (by decide) ?_
              refine lv_istore (lv' := [(6, .int 1), (0, .ref (a.1 29)), (1, .ref (a.2.2.1 (Int32.toNatClampNeg v1) 0)), (2, .int v2), (3, .int v3), (4, .int v4), (5, .int v5)]) hx hb dX4_signsOf_70 hl (by decide) rfl (fun ls hl => ?_)
              refine lv_iload hx hb dX4_signsOf_72 (lv_at hl 5 rfl) ?_
              refine lv_iload hx hb dX4_signsOf_74 (lv_at hl 0 rfl) ?_
              refine lv_if_eq (tgt := 83) hx hb dX4_signsOf_76 (by decide) (fun c => absurd c (by decide)) (fun _ => ?_)
              refine lv_iconst (v := 1) hx hb dX4_signsOf_79 (by decide) ?_
              refine lv_goto (tgt := 85) hx hb dX4_signsOf_80 (by decide) ?_
              refine lv_iconst (v := 4) hx hb dX4_signsOf_85 (by decide) ?_
              refine lv_iload hx hb dX4_signsOf_86 (lv_at hl 6 rfl) ?_
              refine lv_imul hx hb dX4_signsOf_88 ?_
              refine lv_iload_n hx hb dX4_signsOf_89 rfl (lv_at hl 4 rfl) ?_
              refine lv_iadd hx hb dX4_signsOf_90 ?_
              refine lv_ishl hx hb dX4_signsOf_91 ?_
              refine lv_ior hx hb dX4_signsOf_92 ?_
              refine lv_topi (fun yz_11 eyz_11 => ?_)
              obtain ⟨z_11, hz_11, hm⟩ := bind_some hm
              obtain rfl : yz_11 = z_11 := eyz_11.trans (Option.some.inj hz_11)
              refine lv_istore (lv' := [(4, .int yz_11), (6, .int 1), (0, .ref (a.1 29)), (1, .ref (a.2.2.1 (Int32.toNatClampNeg v1) 0)), (2, .int v2), (3, .int v3), (5, .int v5)]) hx hb dX4_signsOf_93 hl (by decide) rfl (fun ls hl => ?_)
              refine lv_iinc (v := (v5 + 1)) (lv' := [(5, .int (v5 + 1)), (4, .int yz_11), (6, .int 1), (0, .ref (a.1 29)), (1, .ref (a.2.2.1 (Int32.toNatClampNeg v1) 0)), (2, .int v2), (3, .int v3)]) hx hb dX4_signsOf_95 hl (k := 6) rfl rfl (by decide) rfl (fun ls hl => ?_)
              refine lv_goto (tgt := 6) hx hb dX4_signsOf_98 (by decide) ?_
              refine W.widen (k := 0) (n := 0) (Nat.le_of_ble_eq_true rfl) (Nat.le_of_ble_eq_true rfl) ?_
              exact ih  v1 v2 v3 yz_11 (v5 + 1) hv1 _ _ hP hD hS _ (lv_sub hl [3, 4, 5, 6, 1, 0] rfl) hm
set_option maxHeartbeats 2000000 in
set_option maxRecDepth 100000 in
theorem k_X4_signsOfG (l : Launch) (hfl : l.stackTraces = false) (G : GC) (a : AS) (T : TS) (F : FS) (U : US) (S : SS) (D : DS) (R : RS) (M : MS) (N : NS) (P : PS) (hlk : lkA a D.1.toNatClampNeg D.2.1.toNatClampNeg) (p1 : Int32) (p2 : Int32) (p3 : Int32) (hg_p1 : gix D p1 = true) (r9 : Int32) (hm : f_X4_signsOfG T D R P p1 p2 p3 = some r9) (sz : Nat) : Met l yX4_signsOf (Cond.code yX4_signsOf cX4_signsOf 7 (some .int) :: W0) ({ frames := 202, cells := 0, slots := 0, locals := 4644 }) (va_Pc [.ref (a.1 29), .ref (a.2.2.1 (Int32.toNatClampNeg p1) 0), .int p2, .int p3] (WD G (wC G a T F U S D R M N P) sz)) (va_Qi (fun (r : Int32) (_ : Unit) => r = r9) (fun _ t => PW G (va_A (wC G a T F U S D R M N P) sz) (wC G a T F U S D R M N P) t) (va_A (wC G a T F U S D R M N P) sz)) 0 0 (va_A (wC G a T F U S D R M N P) sz) := by
  rw [f_X4_signsOfG] at hm
  refine Met.ofW (cc := cX4_signsOf) (maxL := 7) (ret := (some .int)) (by decide) rfl ?_
  intro p e s m args below meth c s₁ B hml hv
  obtain ⟨rfl, hsz, hP, hK, hD0, hE⟩ := hv
  have hx := B.exec
  have hb := B.bytes
  have hr := B.returns
  have hts := w0_tail B.pre
  have hown : s.vm.findClass RX4 = some m.cls := findClass_of_methodNamed B.named
  have hlocks := B.notSynchronized
  have hD := hD0.self (sz := sz)
  obtain ⟨A, hAe⟩ : ∃ A, (va_A (wC G a T F U S D R M N P) sz) = A := ⟨_, rfl⟩
  rw [hAe] at hD hE
  have hA : ∀ q : Nat, s.heap.size ≤ q → A q := fun q h => by rw [← hAe]; exact Or.inr (by rw [← hsz]; exact h)
  have hS : va_S A s.heap s.heap [] := va_S.rf
  obtain ⟨H, hHe⟩ : ∃ H : Heap, H = s.heap := ⟨_, rfl⟩
  have hP : va_P (DG G) clP3 (wC G a T F U S D R M N P) H := by rw [hHe]; exact hP
  have hS : va_S A s.heap H [] := by rw [hHe]; exact hS
  have hl := lv_entry ([.ref (a.1 29), .ref (a.2.2.1 (Int32.toNatClampNeg p1) 0), .int p2, .int p3]) (n := 7) (Nat.le_of_ble_eq_true rfl)
  rw [lg_entry_eq, ← hHe]
  generalize (lg_sl ([.ref (a.1 29), .ref (a.2.2.1 (Int32.toNatClampNeg p1) 0), .int p2, .int p3]) ++ List.replicate (7 - (lg_sl ([.ref (a.1 29), .ref (a.2.2.1 (Int32.toNatClampNeg p1) 0), .int p2, .int p3])).length) Slot.unset).toArray = ls at hl ⊢
  have hl : lv_has ls 7 [(0, .ref (a.1 29)), (1, .ref (a.2.2.1 (Int32.toNatClampNeg p1) 0)), (2, .int p2), (3, .int p3)] := hl
  refine lv_iconst (v := 0) hx hb dX4_signsOf_0 (by decide) ?_
  refine lv_istore (lv' := [(4, .int 0), (0, .ref (a.1 29)), (1, .ref (a.2.2.1 (Int32.toNatClampNeg p1) 0)), (2, .int p2), (3, .int p3)]) hx hb dX4_signsOf_1 hl (by decide) rfl (fun ls hl => ?_)
  refine lv_iconst (v := 0) hx hb dX4_signsOf_3 (by decide) ?_
  refine lv_istore (lv' := [(5, .int 0), (4, .int 0), (0, .ref (a.1 29)), (1, .ref (a.2.2.1 (Int32.toNatClampNeg p1) 0)), (2, .int p2), (3, .int p3)]) hx hb dX4_signsOf_4 hl (by decide) rfl (fun ls hl => ?_)
  refine W.widen (k := 0) (n := 0) (Nat.le_of_ble_eq_true rfl) (Nat.le_of_ble_eq_true rfl) ?_
  exact kl_X4_signsOfG_6 hfl hx hb hr hml hown hts hlocks hlk hAe hA hE hK r9 100000  p1 p2 p3 0 0 hg_p1 _ _ hP hD hS _ (lv_sub hl [2, 3, 4, 5, 1, 0] rfl) hm
def f_X4_graphOfG_L18 : Nat → TS → DS → RS → PS → Int32 → Int32 → Int32 → Int32 → Int32 → Option (Int32)
  | 0, _, _, _, _, _, _, _, _, _ => none
  | n + 1, T, D, R, P, v1, v3, v4, v5, v6 => (if v6 < 0 then some v4 else (Option.bind (g_X9_secondOf T v5) (fun q_3 => (if R.2.1 ≤ v6 then (Option.bind (g_X9_firstOf T v5) (fun q_5 => (f_X4_graphOfG_L18 n T D R P v1 v3 v4 q_5 (v6 + (-1))))) else (Option.bind (g_X9_kindOf T q_3) (fun q_6 => (if q_6 = 1 then (Option.bind (g_X9_firstOf T q_3) (fun q_9 => (Option.bind (f_X4_signsOfG T D R P v1 (q_9 - v3) v6) (fun q_10 => (Option.bind (g_X9_firstOf T v5) (fun q_11 => (f_X4_graphOfG_L18 n T D R P v1 v3 (v4 ||| q_10) q_11 (v6 + (-1))))))))) else (Option.bind (g_X9_firstOf T v5) (fun q_8 => (f_X4_graphOfG_L18 n T D R P v1 v3 v4 q_8 (v6 + (-1))))))))))))
def f_X4_graphOfG (T : TS) (D : DS) (R : RS) (P : PS) (p1 : Int32) (p2 : Int32) (p3 : Int32) : Option (Int32) := (Option.bind (g_X9_argumentsOf T p2) (fun q_1 => (f_X4_graphOfG_L18 100000 T D R P p1 p3 0 p2 (q_1 - (1 : Int32)))))
set_option maxHeartbeats 2000000 in
set_option maxRecDepth 100000 in
theorem kl_X4_graphOfG_18 {l : Launch} (hfl : l.stackTraces = false) {G : GC} {a : AS} {T : TS} {F : FS} {U : US} {S : SS} {D : DS} {R : RS} {M : MS} {N : NS} {P : PS} {A : Nat → Prop} {sz : Nat} {p : Program} {e : Env} {s : State} {m : MethodId} {args : Array Value} {below : List Frame} {meth : Method} {c : Code} (hx : p.tables.exec = Jvm.exec) (hb : c.code = cX4_graphOf) (hr : meth.sig.returnType = (some .int)) (hml : c.maxLocals = 8) (hown : s.vm.findClass RX4 = some m.cls) (hts : ∀ w ∈ W0, w.before args s = true) (hlocks : meth.locks = false) (hlk : lkA a D.1.toNatClampNeg D.2.1.toNatClampNeg) (hAe : (va_A (wC G a T F U S D R M N P) sz) = A) (hA : ∀ q : Nat, s.heap.size ≤ q → A q) (hE : EV G A s s.heap) (hK : va_K (DG G) clP3 (TY G) s) (r9 : Int32) : ∀ (n : Nat), ∀ (v1 : Int32) (v3 : Int32) (v4 : Int32) (v5 : Int32) (v6 : Int32) (hv1 : gix D v1 = true) (H : Heap) (locs : List Loc), va_P (DG G) clP3 (wC G a T F U S D R M N P) H → va_D A (wC G a T F U S D R M N P) → va_S A s.heap H locs → ∀ (ls : Array Slot), lv_has ls 8 [(0, .ref (a.1 29)), (1, .ref (a.2.2.1 (Int32.toNatClampNeg v1) 0)), (3, .int v3), (4, .int v4), (5, .int v5), (6, .int v6)] → f_X4_graphOfG_L18 n T D R P v1 v3 v4 v5 v6 = some r9 → W p l e ({ frames := 203, cells := 0, slots := 0, locals := 4670 }) s m args below meth c H locs 0 0 (MQ below (va_Qi (fun (r : Int32) (_ : Unit) => r = r9) (fun _ t => PW G (va_A (wC G a T F U S D R M N P) sz) (wC G a T F U S D R M N P) t) (va_A (wC G a T F U S D R M N P) sz)) args s 0 0 (va_A (wC G a T F U S D R M N P) sz)) (F0 m 18 ls []) := by
  intro n
  induction n with
  | zero =>
    intro v1 v3 v4 v5 v6 hv1 H locs hP hD hS ls hl hm
    rw [f_X4_graphOfG_L18] at hm
    cases hm
  | succ n ih =>
    intro v1 v3 v4 v5 v6 hv1 H locs hP hD hS ls hl hm
    rw [f_X4_graphOfG_L18] at hm
    refine lv_iload hx hb dX4_graphOf_18 (lv_at hl 5 rfl) ?_
    refine lv_if_lt (tgt := 96) hx hb dX4_graphOf_20 (by decide) (fun c_2 => ?_) (fun c_2 => ?_)
    · rw [if_pos c_2] at hm
      refine lv_iload hx hb dX4_graphOf_96 (lv_at hl 3 rfl) ?_
      obtain rfl := Option.some.inj hm
      refine W.widen (k := 0) (n := 0) (Nat.le_of_ble_eq_true rfl) (Nat.le_of_ble_eq_true rfl) ?_
      exact W.iret (v := v4) hx hb hr (fun t ht hW => ⟨⟨v4, (), rfl, rfl, ⟨by rw [ht]; exact hP, by rw [hAe]; exact hD⟩⟩, by rw [hAe]; exact hS.F ht⟩) (by rw [hAe]; exact hS.2.2) dX4_graphOf_98 hlocks
    · rw [if_neg c_2] at hm
      refine lv_aload_n hx hb dX4_graphOf_23 rfl (lv_at hl 0 rfl) ?_
      refine va_get (D := DG G) (ci := 4) (v := .ref (a.1 1)) (C := RX4) (T := TX4) (N := 6) hx hb hts inW_X4 hown hK hP 29 rfl rfl 0 (by decide) (hts _ wm220) (fun _ h9 => h9) rfl dX4_graphOf_24 ?_
      refine lv_iload hx hb dX4_graphOf_27 (lv_at hl 4 rfl) ?_
      obtain ⟨q_3, hq_3, hm⟩ := bind_some hm
      have hFc := free_all hD hS hA
      refine va_calli (va_runV (As := [.int v5]) (rest := []) ⟨hx, hb, hml, hown, hts⟩ (K_X9_secondOf l hfl G a T F U S D R M N P v5  q_3 hq_3 H.size) (cwV 1 hts (gV wm1118 wm460 wm461 wm2 wm462) rfl rfl rfl (by decide +kernel) ⟨Nat.le_of_ble_eq_true rfl, Nat.le_of_ble_eq_true rfl⟩) (pre_v (pre_w hK hP hD hS hE hFc) (va_recv hK hP (ci := 8) (q0 := 1) rfl rfl)) rfl rfl hl.1 rfl (lv_room (Nat.le_of_ble_eq_true rfl)) dX4_graphOf_29 ⟨Nat.le_of_ble_eq_true rfl, Nat.le_of_ble_eq_true rfl⟩) hS (fun q _ h => hFc q h) hFc (fun r u t H locs ht hvm hw hB hz1 hk1 hS => ?_)
      rw [show r = q_3 from hw]
      have hP : va_P (DG G) clP3 (wC G a T F U S D R M N P) H := by rw [← ht]; exact hB.1
      have hD : va_D A (wC G a T F U S D R M N P) := hB.2.weaken (fun _ p _ h => hFc p.1 h)
      clear hB hFc hw hk1
      refine W.widen (k := 0) (n := 0) (Nat.le_of_ble_eq_true rfl) (Nat.le_of_ble_eq_true rfl) ?_
      refine lv_istore (lv' := [(7, .int q_3), (0, .ref (a.1 29)), (1, .ref (a.2.2.1 (Int32.toNatClampNeg v1) 0)), (3, .int v3), (4, .int v4), (5, .int v5), (6, .int v6)]) hx hb dX4_graphOf_32 hl (by decide) rfl (fun ls hl => ?_)
      refine lv_iload hx hb dX4_graphOf_34 (lv_at hl 6 rfl) ?_
      refine lv_aload_n hx hb dX4_graphOf_36 rfl (lv_at hl 1 rfl) ?_
      refine va_get (D := DG G) (ci := 4) (v := .int R.2.1) (C := RX4) (T := TX4) (N := 6) hx hb hts inW_X4 hown hK hP 29 rfl rfl 3 (by decide) (hts _ wm223) (fun _ h9 => h9) rfl dX4_graphOf_37 ?_
      refine lv_icmp_ge (tgt := 79) hx hb dX4_graphOf_40 (by decide) (fun c_4 => ?_) (fun c_4 => ?_)
      · rw [if_pos c_4] at hm
        refine lv_aload_n hx hb dX4_graphOf_79 rfl (lv_at hl 1 rfl) ?_
        refine va_get (D := DG G) (ci := 4) (v := .ref (a.1 1)) (C := RX4) (T := TX4) (N := 6) hx hb hts inW_X4 hown hK hP 29 rfl rfl 0 (by decide) (hts _ wm220) (fun _ h9 => h9) rfl dX4_graphOf_80 ?_
        refine lv_iload hx hb dX4_graphOf_83 (lv_at hl 5 rfl) ?_
        obtain ⟨q_5, hq_5, hm⟩ := bind_some hm
        have hFc := free_all hD hS hA
        refine va_calli (va_runV (As := [.int v5]) (rest := []) ⟨hx, hb, hml, hown, hts⟩ (K_X9_firstOf l hfl G a T F U S D R M N P v5  q_5 hq_5 H.size) (cwV 1 hts (gV wm1119 wm431 wm432 wm2 wm433) rfl rfl rfl (by decide +kernel) ⟨Nat.le_of_ble_eq_true rfl, Nat.le_of_ble_eq_true rfl⟩) (pre_v (pre_w hK hP hD hS hE hFc) (va_recv hK hP (ci := 8) (q0 := 1) rfl rfl)) rfl rfl hl.1 rfl (lv_room (Nat.le_of_ble_eq_true rfl)) dX4_graphOf_85 ⟨Nat.le_of_ble_eq_true rfl, Nat.le_of_ble_eq_true rfl⟩) hS (fun q _ h => hFc q h) hFc (fun r u t H locs ht hvm hw hB hz1 hk1 hS => ?_)
        rw [show r = q_5 from hw]
        have hP : va_P (DG G) clP3 (wC G a T F U S D R M N P) H := by rw [← ht]; exact hB.1
        have hD : va_D A (wC G a T F U S D R M N P) := hB.2.weaken (fun _ p _ h => hFc p.1 h)
        clear hB hFc hw hk1
        refine W.widen (k := 0) (n := 0) (Nat.le_of_ble_eq_true rfl) (Nat.le_of_ble_eq_true rfl) ?_
        refine lv_istore (lv' := [(5, .int q_5), (7, .int q_3), (0, .ref (a.1 29)), (1, .ref (a.2.2.1 (Int32.toNatClampNeg v1) 0)), (3, .int v3), (4, .int v4), (6, .int v6)]) hx hb dX4_graphOf_88 hl (by decide) rfl (fun ls hl => ?_)
        refine lv_iinc (v := (v6 + (-1))) (lv' := [(6, .int (v6 + (-1))), (5, .int q_5), (7, .int q_3), (0, .ref (a.1 29)), (1, .ref (a.2.2.1 (Int32.toNatClampNeg v1) 0)), (3, .int v3), (4, .int v4)]) hx hb dX4_graphOf_90 hl (k := 6) rfl rfl (by decide) rfl (fun ls hl => ?_)
        refine lv_goto (tgt := 18) hx hb dX4_graphOf_93 (by decide) ?_
        refine W.widen (k := 0) (n := 0) (Nat.le_of_ble_eq_true rfl) (Nat.le_of_ble_eq_true rfl) ?_
        exact ih  v1 v3 v4 q_5 (v6 + (-1)) hv1 _ _ hP hD hS _ (lv_sub hl [3, 4, 5, 6, 1, 0] rfl) hm
      · rw [if_neg c_4] at hm
        refine lv_aload_n hx hb dX4_graphOf_43 rfl (lv_at hl 1 rfl) ?_
        refine va_get (D := DG G) (ci := 4) (v := .ref (a.1 1)) (C := RX4) (T := TX4) (N := 6) hx hb hts inW_X4 hown hK hP 29 rfl rfl 0 (by decide) (hts _ wm220) (fun _ h9 => h9) rfl dX4_graphOf_44 ?_
        refine lv_iload hx hb dX4_graphOf_47 (lv_at hl 0 rfl) ?_
        obtain ⟨q_6, hq_6, hm⟩ := bind_some hm
        have hFc := free_all hD hS hA
        refine va_calli (va_runV (As := [.int q_3]) (rest := []) ⟨hx, hb, hml, hown, hts⟩ (K_X9_kindOf l hfl G a T F U S D R M N P q_3  q_6 hq_6 H.size) (cwV 1 hts (gV wm1120 wm435 wm436 wm2 wm437) rfl rfl rfl (by decide +kernel) ⟨Nat.le_of_ble_eq_true rfl, Nat.le_of_ble_eq_true rfl⟩) (pre_v (pre_w hK hP hD hS hE hFc) (va_recv hK hP (ci := 8) (q0 := 1) rfl rfl)) rfl rfl hl.1 rfl (lv_room (Nat.le_of_ble_eq_true rfl)) dX4_graphOf_49 ⟨Nat.le_of_ble_eq_true rfl, Nat.le_of_ble_eq_true rfl⟩) hS (fun q _ h => hFc q h) hFc (fun r u t H locs ht hvm hw hB hz1 hk1 hS => ?_)
        rw [show r = q_6 from hw]
        have hP : va_P (DG G) clP3 (wC G a T F U S D R M N P) H := by rw [← ht]; exact hB.1
        have hD : va_D A (wC G a T F U S D R M N P) := hB.2.weaken (fun _ p _ h => hFc p.1 h)
        clear hB hFc hw hk1
        refine W.widen (k := 0) (n := 0) (Nat.le_of_ble_eq_true rfl) (Nat.le_of_ble_eq_true rfl) ?_
        refine lv_iconst (v := 1) hx hb dX4_graphOf_52 (by decide) ?_
        refine lv_icmp_ne (tgt := 79) hx hb dX4_graphOf_53 (by decide) (fun c_7 => ?_) (fun c_7 => ?_)
        · rw [if_neg c_7] at hm
          refine lv_aload_n hx hb dX4_graphOf_79 rfl (lv_at hl 1 rfl) ?_
          refine va_get (D := DG G) (ci := 4) (v := .ref (a.1 1)) (C := RX4) (T := TX4) (N := 6) hx hb hts inW_X4 hown hK hP 29 rfl rfl 0 (by decide) (hts _ wm220) (fun _ h9 => h9) rfl dX4_graphOf_80 ?_
          refine lv_iload hx hb dX4_graphOf_83 (lv_at hl 5 rfl) ?_
          obtain ⟨q_8, hq_8, hm⟩ := bind_some hm
          have hFc := free_all hD hS hA
          refine va_calli (va_runV (As := [.int v5]) (rest := []) ⟨hx, hb, hml, hown, hts⟩ (K_X9_firstOf l hfl G a T F U S D R M N P v5  q_8 hq_8 H.size) (cwV 1 hts (gV wm1119 wm431 wm432 wm2 wm433) rfl rfl rfl (by decide +kernel) ⟨Nat.le_of_ble_eq_true rfl, Nat.le_of_ble_eq_true rfl⟩) (pre_v (pre_w hK hP hD hS hE hFc) (va_recv hK hP (ci := 8) (q0 := 1) rfl rfl)) rfl rfl hl.1 rfl (lv_room (Nat.le_of_ble_eq_true rfl)) dX4_graphOf_85 ⟨Nat.le_of_ble_eq_true rfl, Nat.le_of_ble_eq_true rfl⟩) hS (fun q _ h => hFc q h) hFc (fun r u t H locs ht hvm hw hB hz1 hk1 hS => ?_)
          rw [show r = q_8 from hw]
          have hP : va_P (DG G) clP3 (wC G a T F U S D R M N P) H := by rw [← ht]; exact hB.1
          have hD : va_D A (wC G a T F U S D R M N P) := hB.2.weaken (fun _ p _ h => hFc p.1 h)
          clear hB hFc hw hk1
          refine W.widen (k := 0) (n := 0) (Nat.le_of_ble_eq_true rfl) (Nat.le_of_ble_eq_true rfl) ?_
          refine lv_istore (lv' := [(5, .int q_8), (7, .int q_3), (0, .ref (a.1 29)), (1, .ref (a.2.2.1 (Int32.toNatClampNeg v1) 0)), (3, .int v3), (4, .int v4), (6, .int v6)]) hx hb dX4_graphOf_88 hl (by decide) rfl (fun ls hl => ?_)
          refine lv_iinc (v := (v6 + (-1))) (lv' := [(6, .int (v6 + (-1))), (5, .int q_8), (7, .int q_3), (0, .ref (a.1 29)), (1, .ref (a.2.2.1 (Int32.toNatClampNeg v1) 0)), (3, .int v3), (4, .int v4)]) hx hb dX4_graphOf_90 hl (k := 6) rfl rfl (by decide) rfl (fun ls hl => ?_)
          refine lv_goto (tgt := 18) hx hb dX4_graphOf_93 (by decide) ?_
          refine W.widen (k := 0) (n := 0) (Nat.le_of_ble_eq_true rfl) (Nat.le_of_ble_eq_true rfl) ?_
          exact ih  v1 v3 v4 q_8 (v6 + (-1)) hv1 _ _ hP hD hS _ (lv_sub hl [3, 4, 5, 6, 1, 0] rfl) hm
        · rw [if_pos c_7] at hm
          refine lv_iload hx hb dX4_graphOf_56 (lv_at hl 4 rfl) ?_
          refine lv_aload_n hx hb dX4_graphOf_58 rfl (lv_at hl 1 rfl) ?_
          refine lv_aload_n hx hb dX4_graphOf_59 rfl (lv_at hl 2 rfl) ?_
          refine lv_aload_n hx hb dX4_graphOf_60 rfl (lv_at hl 1 rfl) ?_
          refine va_get (D := DG G) (ci := 4) (v := .ref (a.1 1)) (C := RX4) (T := TX4) (N := 6) hx hb hts inW_X4 hown hK hP 29 rfl rfl 0 (by decide) (hts _ wm220) (fun _ h9 => h9) rfl dX4_graphOf_61 ?_
          refine lv_iload hx hb dX4_graphOf_64 (lv_at hl 0 rfl) ?_
          obtain ⟨q_9, hq_9, hm⟩ := bind_some hm
          have hFc := free_all hD hS hA
          refine va_calli (va_runV (As := [.int q_3]) (rest := [.ref (a.2.2.1 (Int32.toNatClampNeg v1) 0), .ref (a.1 29), .int v4]) ⟨hx, hb, hml, hown, hts⟩ (K_X9_firstOf l hfl G a T F U S D R M N P q_3  q_9 hq_9 H.size) (cwV 1 hts (gV wm1119 wm431 wm432 wm2 wm433) rfl rfl rfl (by decide +kernel) ⟨Nat.le_of_ble_eq_true rfl, Nat.le_of_ble_eq_true rfl⟩) (pre_v (pre_w hK hP hD hS hE hFc) (va_recv hK hP (ci := 8) (q0 := 1) rfl rfl)) rfl rfl hl.1 rfl (lv_room (Nat.le_of_ble_eq_true rfl)) dX4_graphOf_66 ⟨Nat.le_of_ble_eq_true rfl, Nat.le_of_ble_eq_true rfl⟩) hS (fun q _ h => hFc q h) hFc (fun r u t H locs ht hvm hw hB hz1 hk1 hS => ?_)
          rw [show r = q_9 from hw]
          have hP : va_P (DG G) clP3 (wC G a T F U S D R M N P) H := by rw [← ht]; exact hB.1
          have hD : va_D A (wC G a T F U S D R M N P) := hB.2.weaken (fun _ p _ h => hFc p.1 h)
          clear hB hFc hw hk1
          refine W.widen (k := 0) (n := 0) (Nat.le_of_ble_eq_true rfl) (Nat.le_of_ble_eq_true rfl) ?_
          refine lv_iload_n hx hb dX4_graphOf_69 rfl (lv_at hl 3 rfl) ?_
          refine lv_isub hx hb dX4_graphOf_70 ?_
          refine lv_iload hx hb dX4_graphOf_71 (lv_at hl 6 rfl) ?_
          obtain ⟨q_10, hq_10, hm⟩ := bind_some hm
          have hFc := free_all hD hS hA
          refine va_calli (va_runV (As := [.ref (a.2.2.1 (Int32.toNatClampNeg v1) 0), .int (q_9 - v3), .int v6]) (rest := [.int v4]) ⟨hx, hb, hml, hown, hts⟩ (k_X4_signsOfG l hfl G a T F U S D R M N P hlk v1 (q_9 - v3) v6 hv1 q_10 hq_10 H.size) (cwV 3 hts (gV wm1125 wm1127 ws_p17 wm9 wm1128) rfl rfl rfl (by decide +kernel) ⟨Nat.le_of_ble_eq_true rfl, Nat.le_of_ble_eq_true rfl⟩) (pre_v (pre_w hK hP hD hS hE hFc) (va_recv hK hP (ci := 4) (q0 := 29) rfl rfl)) rfl rfl hl.1 rfl (lv_room (Nat.le_of_ble_eq_true rfl)) dX4_graphOf_73 ⟨Nat.le_of_ble_eq_true rfl, Nat.le_of_ble_eq_true rfl⟩) hS (fun q _ h => hFc q h) hFc (fun r u t H locs ht hvm hw hB hz1 hk1 hS => ?_)
          rw [show r = q_10 from hw]
          have hP : va_P (DG G) clP3 (wC G a T F U S D R M N P) H := by rw [← ht]; exact hB.1
          have hD : va_D A (wC G a T F U S D R M N P) := hB.2.weaken (fun _ p _ h => hFc p.1 h)
          clear hB hFc hw hk1
          refine W.widen (k := 0) (n := 0) (Nat.le_of_ble_eq_true rfl) (Nat.le_of_ble_eq_true rfl) ?_
          refine lv_ior hx hb dX4_graphOf_76 ?_
          refine lv_istore (lv' := [(4, .int (v4 ||| q_10)), (7, .int q_3), (0, .ref (a.1 29)), (1, .ref (a.2.2.1 (Int32.toNatClampNeg v1) 0)), (3, .int v3), (5, .int v5), (6, .int v6)]) hx hb dX4_graphOf_77 hl (by decide) rfl (fun ls hl => ?_)
          refine lv_aload_n hx hb dX4_graphOf_79 rfl (lv_at hl 2 rfl) ?_
          refine va_get (D := DG G) (ci := 4) (v := .ref (a.1 1)) (C := RX4) (T := TX4) (N := 6) hx hb hts inW_X4 hown hK hP 29 rfl rfl 0 (by decide) (hts _ wm220) (fun _ h9 => h9) rfl dX4_graphOf_80 ?_
          refine lv_iload hx hb dX4_graphOf_83 (lv_at hl 5 rfl) ?_
          obtain ⟨q_11, hq_11, hm⟩ := bind_some hm
          have hFc := free_all hD hS hA
          refine va_calli (va_runV (As := [.int v5]) (rest := []) ⟨hx, hb, hml, hown, hts⟩ (K_X9_firstOf l hfl G a T F U S D R M N P v5  q_11 hq_11 H.size) (cwV 1 hts (gV wm1119 wm431 wm432 wm2 wm433) rfl rfl rfl (by decide +kernel) ⟨Nat.le_of_ble_eq_true rfl, Nat.le_of_ble_eq_true rfl⟩) (pre_v (pre_w hK hP hD hS hE hFc) (va_recv hK hP (ci := 8) (q0 := 1) rfl rfl)) rfl rfl hl.1 rfl (lv_room (Nat.le_of_ble_eq_true rfl)) dX4_graphOf_85 ⟨Nat.le_of_ble_eq_true rfl, Nat.le_of_ble_eq_true rfl⟩) hS (fun q _ h => hFc q h) hFc (fun r u t H locs ht hvm hw hB hz1 hk1 hS => ?_)
          rw [show r = q_11 from hw]
          have hP : va_P (DG G) clP3 (wC G a T F U S D R M N P) H := by rw [← ht]; exact hB.1
          have hD : va_D A (wC G a T F U S D R M N P) := hB.2.weaken (fun _ p _ h => hFc p.1 h)
          clear hB hFc hw hk1
          refine W.widen (k := 0) (n := 0) (Nat.le_of_ble_eq_true rfl) (Nat.le_of_ble_eq_true rfl) ?_
          refine lv_istore (lv' := [(5, .int q_11), (4, .int (v4 ||| q_10)), (7, .int q_3), (0, .ref (a.1 29)), (1, .ref (a.2.2.1 (Int32.toNatClampNeg v1) 0)), (3, .int v3), (6, .int v6)]) hx hb dX4_graphOf_88 hl (by decide) rfl (fun ls hl => ?_)
          refine lv_iinc (v := (v6 + (-1))) (lv' := [(6, .int (v6 + (-1))), (5, .int q_11), (4, .int (v4 ||| q_10)), (7, .int q_3), (0, .ref (a.1 29)), (1, .ref (a.2.2.1 (Int32.toNatClampNeg v1) 0)), (3, .int v3)]) hx hb dX4_graphOf_90 hl (k := 6) rfl rfl (by decide) rfl (fun ls hl => ?_)
          refine lv_goto (tgt := 18) hx hb dX4_graphOf_93 (by decide) ?_
          refine W.widen (k := 0) (n := 0) (Nat.le_of_ble_eq_true rfl) (Nat.le_of_ble_eq_true rfl) ?_
          exact ih  v1 v3 (v4 ||| q_10) q_11 (v6 + (-1)) hv1 _ _ hP hD hS _ (lv_sub hl [4, 5, 6, 2, 1, 0] rfl) hm
set_option maxHeartbeats 2000000 in
set_option maxRecDepth 100000 in
theorem k_X4_graphOfG (l : Launch) (hfl : l.stackTraces = false) (G : GC) (a : AS) (T : TS) (F : FS) (U : US) (S : SS) (D : DS) (R : RS) (M : MS) (N : NS) (P : PS) (hlk : lkA a D.1.toNatClampNeg D.2.1.toNatClampNeg) (p1 : Int32) (p2 : Int32) (p3 : Int32) (hg_p1 : gix D p1 = true) (r9 : Int32) (hm : f_X4_graphOfG T D R P p1 p2 p3 = some r9) (sz : Nat) : Met l yX4_graphOf (Cond.code yX4_graphOf cX4_graphOf 8 (some .int) :: W0) ({ frames := 203, cells := 0, slots := 0, locals := 4670 }) (va_Pc [.ref (a.1 29), .ref (a.2.2.1 (Int32.toNatClampNeg p1) 0), .int p2, .int p3] (WD G (wC G a T F U S D R M N P) sz)) (va_Qi (fun (r : Int32) (_ : Unit) => r = r9) (fun _ t => PW G (va_A (wC G a T F U S D R M N P) sz) (wC G a T F U S D R M N P) t) (va_A (wC G a T F U S D R M N P) sz)) 0 0 (va_A (wC G a T F U S D R M N P) sz) := by
  rw [f_X4_graphOfG] at hm
  refine Met.ofW (cc := cX4_graphOf) (maxL := 8) (ret := (some .int)) (by decide) rfl ?_
  intro p e s m args below meth c s₁ B hml hv
  obtain ⟨rfl, hsz, hP, hK, hD0, hE⟩ := hv
  have hx := B.exec
  have hb := B.bytes
  have hr := B.returns
  have hts := w0_tail B.pre
  have hown : s.vm.findClass RX4 = some m.cls := findClass_of_methodNamed B.named
  have hlocks := B.notSynchronized
  have hD := hD0.self (sz := sz)
  obtain ⟨A, hAe⟩ : ∃ A, (va_A (wC G a T F U S D R M N P) sz) = A := ⟨_, rfl⟩
  rw [hAe] at hD hE
  have hA : ∀ q : Nat, s.heap.size ≤ q → A q := fun q h => by rw [← hAe]; exact Or.inr (by rw [← hsz]; exact h)
  have hS : va_S A s.heap s.heap [] := va_S.rf
  obtain ⟨H, hHe⟩ : ∃ H : Heap, H = s.heap := ⟨_, rfl⟩
  have hP : va_P (DG G) clP3 (wC G a T F U S D R M N P) H := by rw [hHe]; exact hP
  have hS : va_S A s.heap H [] := by rw [hHe]; exact hS
  have hl := lv_entry ([.ref (a.1 29), .ref (a.2.2.1 (Int32.toNatClampNeg p1) 0), .int p2, .int p3]) (n := 8) (Nat.le_of_ble_eq_true rfl)
  rw [lg_entry_eq, ← hHe]
  generalize (lg_sl ([.ref (a.1 29), .ref (a.2.2.1 (Int32.toNatClampNeg p1) 0), .int p2, .int p3]) ++ List.replicate (8 - (lg_sl ([.ref (a.1 29), .ref (a.2.2.1 (Int32.toNatClampNeg p1) 0), .int p2, .int p3])).length) Slot.unset).toArray = ls at hl ⊢
  have hl : lv_has ls 8 [(0, .ref (a.1 29)), (1, .ref (a.2.2.1 (Int32.toNatClampNeg p1) 0)), (2, .int p2), (3, .int p3)] := hl
  refine lv_iconst (v := 0) hx hb dX4_graphOf_0 (by decide) ?_
  refine lv_istore (lv' := [(4, .int 0), (0, .ref (a.1 29)), (1, .ref (a.2.2.1 (Int32.toNatClampNeg p1) 0)), (2, .int p2), (3, .int p3)]) hx hb dX4_graphOf_1 hl (by decide) rfl (fun ls hl => ?_)
  refine lv_iload_n hx hb dX4_graphOf_3 rfl (lv_at hl 3 rfl) ?_
  refine lv_istore (lv' := [(5, .int p2), (4, .int 0), (0, .ref (a.1 29)), (1, .ref (a.2.2.1 (Int32.toNatClampNeg p1) 0)), (2, .int p2), (3, .int p3)]) hx hb dX4_graphOf_4 hl (by decide) rfl (fun ls hl => ?_)
  refine lv_aload_n hx hb dX4_graphOf_6 rfl (lv_at hl 2 rfl) ?_
  refine va_get (D := DG G) (ci := 4) (v := .ref (a.1 1)) (C := RX4) (T := TX4) (N := 6) hx hb hts inW_X4 hown hK hP 29 rfl rfl 0 (by decide) (hts _ wm220) (fun _ h9 => h9) rfl dX4_graphOf_7 ?_
  refine lv_iload_n hx hb dX4_graphOf_10 rfl (lv_at hl 4 rfl) ?_
  obtain ⟨q_1, hq_1, hm⟩ := bind_some hm
  have hFc := free_all hD hS hA
  refine va_calli (va_runV (As := [.int p2]) (rest := []) ⟨hx, hb, hml, hown, hts⟩ (K_X9_argumentsOf l hfl G a T F U S D R M N P p2  q_1 hq_1 H.size) (cwV 1 hts (gV wm1114 wm1115 wm1116 wm2 wm1117) rfl rfl rfl (by decide +kernel) ⟨Nat.le_of_ble_eq_true rfl, Nat.le_of_ble_eq_true rfl⟩) (pre_v (pre_w hK hP hD hS hE hFc) (va_recv hK hP (ci := 8) (q0 := 1) rfl rfl)) rfl rfl hl.1 rfl (lv_room (Nat.le_of_ble_eq_true rfl)) dX4_graphOf_11 ⟨Nat.le_of_ble_eq_true rfl, Nat.le_of_ble_eq_true rfl⟩) hS (fun q _ h => hFc q h) hFc (fun r u t H locs ht hvm hw hB hz1 hk1 hS => ?_)
  rw [show r = q_1 from hw]
  have hP : va_P (DG G) clP3 (wC G a T F U S D R M N P) H := by rw [← ht]; exact hB.1
  have hD : va_D A (wC G a T F U S D R M N P) := hB.2.weaken (fun _ p _ h => hFc p.1 h)
  clear hB hFc hw hk1
  refine W.widen (k := 0) (n := 0) (Nat.le_of_ble_eq_true rfl) (Nat.le_of_ble_eq_true rfl) ?_
  refine lv_iconst (v := 1) hx hb dX4_graphOf_14 (by decide) ?_
  refine lv_isub hx hb dX4_graphOf_15 ?_
  refine lv_istore (lv' := [(6, .int (q_1 - (1 : Int32))), (5, .int p2), (4, .int 0), (0, .ref (a.1 29)), (1, .ref (a.2.2.1 (Int32.toNatClampNeg p1) 0)), (2, .int p2), (3, .int p3)]) hx hb dX4_graphOf_16 hl (by decide) rfl (fun ls hl => ?_)
  refine W.widen (k := 0) (n := 0) (Nat.le_of_ble_eq_true rfl) (Nat.le_of_ble_eq_true rfl) ?_
  exact kl_X4_graphOfG_18 hfl hx hb hr hml hown hts hlocks hlk hAe hA hE hK r9 100000  p1 p3 0 p2 (q_1 - (1 : Int32)) hg_p1 _ _ hP hD hS _ (lv_sub hl [3, 4, 6, 2, 1, 0] rfl) hm
def f_X4_visit_L37 (fi : TS → DS → RS → PS → Int32 → Int32 → Int32 → Option (RS)) : Nat → TS → DS → RS → PS → Int32 → Int32 → Int32 → Int32 → Int32 → Int32 → Option (RS)
  | 0, _, _, _, _, _, _, _, _, _, _ => none
  | n + 1, T, D, R, P, v1, v2, v3, v5, v6, v7 => (if v5 ≤ v7 then (Option.bind (g_X9_kindOf T v6) (fun q_5 => (if q_5 < 5 then (Option.bind (g_X9_kindOf T v6) (fun q_7 => (if q_7 = 4 then (Option.bind (g_X9_firstOf T v6) (fun q_9 => (if q_9 = R.1 then (Option.bind (f_X4_graphOfG T D R P v1 v2 v3) (fun q_11 => (Option.bind (g_X4_add R q_11) (fun q_12 => some q_12)))) else some R))) else some R))) else (Option.bind (g_X9_firstOf T v6) (fun q_13 => (Option.bind (fi T D R P v1 q_13 v3) (fun q_14 => (Option.bind (g_X9_secondOf T v6) (fun q_15 => (Option.bind (fi T D q_14 P v1 q_15 (v3 + (1 : Int32))) (fun q_16 => some q_16))))))))))) else (Option.bind (g_X9_secondOf T v6) (fun q_17 => (Option.bind (fi T D R P v1 q_17 v3) (fun q_18 => (Option.bind (g_X9_firstOf T v6) (fun q_19 => (f_X4_visit_L37 fi n T D q_18 P v1 v2 v3 v5 q_19 (v7 + 1)))))))))
def f_X4_visit : Nat → TS → DS → RS → PS → Int32 → Int32 → Int32 → Option (RS)
  | 0, _, _, _, _, _, _, _ => none
  | d + 1, T, D, R, P, p1, p2, p3 => (Option.bind (g_X9_callsOf T p2) (fun q_1 => (if ((q_1 >>> (R.1 &&& 31)) &&& (1 : Int32)) = 0 then some R else (Option.bind (g_X9_argumentsOf T p2) (fun q_3 => (f_X4_visit_L37 (f_X4_visit d) 100000 T D R P p1 p2 p3 q_3 p2 0))))))
set_option maxHeartbeats 2000000 in
set_option maxRecDepth 100000 in
theorem kl_X4_visit_37 {l : Launch} (hfl : l.stackTraces = false) {G : GC} {a : AS} {T : TS} {F : FS} {U : US} {S : SS} {D : DS} {R : RS} {M : MS} {N : NS} {P : PS} {d : Nat} {fi : TS → DS → RS → PS → Int32 → Int32 → Int32 → Option (RS)} (hfi : ∀ (T : TS) (F : FS) (U : US) (S : SS) (D : DS) (R : RS) (M : MS) (N : NS) (P : PS) (_ : lkA a D.1.toNatClampNeg D.2.1.toNatClampNeg) (p1 : Int32) (p2 : Int32) (p3 : Int32) (hg_p1 : gix D p1 = true) (R9 : RS), fi T D R P p1 p2 p3 = some R9 → ∀ (sz : Nat), Met l yX4_visit (Cond.code yX4_visit cX4_visit 8 none :: W0) ({ frames := 500 + d * 1, cells := 0, slots := 0, locals := 12000 + d * 60 }) (va_Pc [.ref (a.1 29), .ref (a.2.2.1 (Int32.toNatClampNeg p1) 0), .int p2, .int p3] (WD G (wC G a T F U S D R M N P) sz)) (va_Qv (fun _ : Unit => True) (fun _ t => PW G (va_A (wC G a T F U S D R M N P) sz) (wC G a T F U S D R9 M N P) t) (va_A (wC G a T F U S D R M N P) sz)) 0 0 (va_A (wC G a T F U S D R M N P) sz)) {A : Nat → Prop} {sz : Nat} {p : Program} {e : Env} {s : State} {m : MethodId} {args : Array Value} {below : List Frame} {meth : Method} {c : Code} (hx : p.tables.exec = Jvm.exec) (hb : c.code = cX4_visit) (hr : meth.sig.returnType = none) (hml : c.maxLocals = 8) (hown : s.vm.findClass RX4 = some m.cls) (hts : ∀ w ∈ W0, w.before args s = true) (hlocks : meth.locks = false) (hlk : lkA a D.1.toNatClampNeg D.2.1.toNatClampNeg) (hAe : (va_A (wC G a T F U S D R M N P) sz) = A) (hA : ∀ q : Nat, s.heap.size ≤ q → A q) (hE : EV G A s s.heap) (hK : va_K (DG G) clP3 (TY G) s) (R9 : RS) : ∀ (n : Nat), ∀ (R8 : RS) (v1 : Int32) (v2 : Int32) (v3 : Int32) (v5 : Int32) (v6 : Int32) (v7 : Int32) (hv1 : gix D v1 = true) (H : Heap) (locs : List Loc), va_P (DG G) clP3 (wC G a T F U S D R8 M N P) H → va_D A (wC G a T F U S D R8 M N P) → va_S A s.heap H locs → ∀ (ls : Array Slot), lv_has ls 8 [(0, .ref (a.1 29)), (1, .ref (a.2.2.1 (Int32.toNatClampNeg v1) 0)), (2, .int v2), (3, .int v3), (4, .ref (a.1 1)), (5, .int v5), (6, .int v6), (7, .int v7)] → f_X4_visit_L37 fi n T D R8 P v1 v2 v3 v5 v6 v7 = some R9 → W p l e ({ frames := 500 + (d + 1) * 1, cells := 0, slots := 0, locals := 12000 + (d + 1) * 60 }) s m args below meth c H locs 0 0 (MQ below (va_Qv (fun _ : Unit => True) (fun _ t => PW G (va_A (wC G a T F U S D R M N P) sz) (wC G a T F U S D R9 M N P) t) (va_A (wC G a T F U S D R M N P) sz)) args s 0 0 (va_A (wC G a T F U S D R M N P) sz)) (F0 m 37 ls []) := by
  intro n
  induction n with
  | zero =>
    intro R8 v1 v2 v3 v5 v6 v7 hv1 H locs hP hD hS ls hl hm
    rw [f_X4_visit_L37] at hm
    cases hm
  | succ n ih =>
    intro R8 v1 v2 v3 v5 v6 v7 hv1 H locs hP hD hS ls hl hm
    rw [f_X4_visit_L37] at hm
    refine lv_iload hx hb dX4_visit_37 (lv_at hl 7 rfl) ?_
    refine lv_iload hx hb dX4_visit_39 (lv_at hl 5 rfl) ?_
    refine lv_icmp_ge (tgt := 72) hx hb dX4_visit_41 (by decide) (fun c_4 => ?_) (fun c_4 => ?_)
    · rw [if_pos c_4] at hm
      refine lv_aload hx hb dX4_visit_72 (lv_at hl 4 rfl) ?_
      refine lv_iload hx hb dX4_visit_74 (lv_at hl 6 rfl) ?_
      obtain ⟨q_5, hq_5, hm⟩ := bind_some hm
      have hFc := free_all hD hS hA
      refine va_calli (va_runV (As := [.int v6]) (rest := []) ⟨hx, hb, hml, hown, hts⟩ (K_X9_kindOf l hfl G a T F U S D R8 M N P v6  q_5 hq_5 H.size) (cwV 1 hts (gV wm1120 wm435 wm436 wm2 wm437) rfl rfl rfl (by decide +kernel) ⟨(by show 0 + 1 ≤ 500 + (d + 1) * 1; omega), (by show 8 + (2 + 11) + (0) ≤ 12000 + (d + 1) * 60; omega)⟩) (pre_v (pre_w hK hP hD hS hE hFc) (va_recv hK hP (ci := 8) (q0 := 1) rfl rfl)) rfl rfl hl.1 rfl (lv_room (Nat.le_of_ble_eq_true rfl)) dX4_visit_76 ⟨Nat.le_of_ble_eq_true rfl, Nat.le_of_ble_eq_true rfl⟩) hS (fun q _ h => hFc q h) hFc (fun r u t H locs ht hvm hw hB hz1 hk1 hS => ?_)
      rw [show r = q_5 from hw]
      have hP : va_P (DG G) clP3 (wC G a T F U S D R8 M N P) H := by rw [← ht]; exact hB.1
      have hD : va_D A (wC G a T F U S D R8 M N P) := hB.2.weaken (fun _ p _ h => hFc p.1 h)
      clear hB hFc hw hk1
      refine W.widen (k := 0) (n := 0) (Nat.le_of_ble_eq_true rfl) (Nat.le_of_ble_eq_true rfl) ?_
      refine lv_iconst (v := 5) hx hb dX4_visit_79 (by decide) ?_
      refine lv_icmp_lt (tgt := 114) hx hb dX4_visit_80 (by decide) (fun c_6 => ?_) (fun c_6 => ?_)
      · rw [if_pos c_6] at hm
        refine lv_aload hx hb dX4_visit_114 (lv_at hl 4 rfl) ?_
        refine lv_iload hx hb dX4_visit_116 (lv_at hl 6 rfl) ?_
        obtain ⟨q_7, hq_7, hm⟩ := bind_some hm
        have hFc := free_all hD hS hA
        refine va_calli (va_runV (As := [.int v6]) (rest := []) ⟨hx, hb, hml, hown, hts⟩ (K_X9_kindOf l hfl G a T F U S D R8 M N P v6  q_7 hq_7 H.size) (cwV 1 hts (gV wm1120 wm435 wm436 wm2 wm437) rfl rfl rfl (by decide +kernel) ⟨(by show 0 + 1 ≤ 500 + (d + 1) * 1; omega), (by show 8 + (2 + 11) + (0) ≤ 12000 + (d + 1) * 60; omega)⟩) (pre_v (pre_w hK hP hD hS hE hFc) (va_recv hK hP (ci := 8) (q0 := 1) rfl rfl)) rfl rfl hl.1 rfl (lv_room (Nat.le_of_ble_eq_true rfl)) dX4_visit_118 ⟨Nat.le_of_ble_eq_true rfl, Nat.le_of_ble_eq_true rfl⟩) hS (fun q _ h => hFc q h) hFc (fun r u t H locs ht hvm hw hB hz1 hk1 hS => ?_)
        rw [show r = q_7 from hw]
        have hP : va_P (DG G) clP3 (wC G a T F U S D R8 M N P) H := by rw [← ht]; exact hB.1
        have hD : va_D A (wC G a T F U S D R8 M N P) := hB.2.weaken (fun _ p _ h => hFc p.1 h)
        clear hB hFc hw hk1
        refine W.widen (k := 0) (n := 0) (Nat.le_of_ble_eq_true rfl) (Nat.le_of_ble_eq_true rfl) ?_
        refine lv_iconst (v := 4) hx hb dX4_visit_121 (by decide) ?_
        refine lv_icmp_ne (tgt := 150) hx hb dX4_visit_122 (by decide) (fun c_8 => ?_) (fun c_8 => ?_)
        · rw [if_neg c_8] at hm
          obtain rfl := Option.some.inj hm
          refine W.widen (k := 0) (n := 0) (Nat.le_of_ble_eq_true rfl) (Nat.le_of_ble_eq_true rfl) ?_
          exact W.vret hx hb hr (fun t ht hW => ⟨⟨(), rfl, trivial, ⟨by rw [ht]; exact hP, by rw [hAe]; exact hD⟩⟩, by rw [hAe]; exact hS.F ht⟩) (by rw [hAe]; exact hS.2.2) dX4_visit_150 hlocks
        · rw [if_pos c_8] at hm
          refine lv_aload hx hb dX4_visit_125 (lv_at hl 4 rfl) ?_
          refine lv_iload hx hb dX4_visit_127 (lv_at hl 6 rfl) ?_
          obtain ⟨q_9, hq_9, hm⟩ := bind_some hm
          have hFc := free_all hD hS hA
          refine va_calli (va_runV (As := [.int v6]) (rest := []) ⟨hx, hb, hml, hown, hts⟩ (K_X9_firstOf l hfl G a T F U S D R8 M N P v6  q_9 hq_9 H.size) (cwV 1 hts (gV wm1119 wm431 wm432 wm2 wm433) rfl rfl rfl (by decide +kernel) ⟨(by show 0 + 1 ≤ 500 + (d + 1) * 1; omega), (by show 8 + (2 + 11) + (0) ≤ 12000 + (d + 1) * 60; omega)⟩) (pre_v (pre_w hK hP hD hS hE hFc) (va_recv hK hP (ci := 8) (q0 := 1) rfl rfl)) rfl rfl hl.1 rfl (lv_room (Nat.le_of_ble_eq_true rfl)) dX4_visit_129 ⟨Nat.le_of_ble_eq_true rfl, Nat.le_of_ble_eq_true rfl⟩) hS (fun q _ h => hFc q h) hFc (fun r u t H locs ht hvm hw hB hz1 hk1 hS => ?_)
          rw [show r = q_9 from hw]
          have hP : va_P (DG G) clP3 (wC G a T F U S D R8 M N P) H := by rw [← ht]; exact hB.1
          have hD : va_D A (wC G a T F U S D R8 M N P) := hB.2.weaken (fun _ p _ h => hFc p.1 h)
          clear hB hFc hw hk1
          refine W.widen (k := 0) (n := 0) (Nat.le_of_ble_eq_true rfl) (Nat.le_of_ble_eq_true rfl) ?_
          refine lv_aload_n hx hb dX4_visit_132 rfl (lv_at hl 0 rfl) ?_
          refine va_get (D := DG G) (ci := 4) (v := .int R8.1) (C := RX4) (T := TX4) (N := 6) hx hb hts inW_X4 hown hK hP 29 rfl rfl 2 (by decide) (hts _ wm222) (fun _ h9 => h9) rfl dX4_visit_133 ?_
          refine lv_icmp_ne (tgt := 150) hx hb dX4_visit_136 (by decide) (fun c_10 => ?_) (fun c_10 => ?_)
          · rw [if_neg c_10] at hm
            obtain rfl := Option.some.inj hm
            refine W.widen (k := 0) (n := 0) (Nat.le_of_ble_eq_true rfl) (Nat.le_of_ble_eq_true rfl) ?_
            exact W.vret hx hb hr (fun t ht hW => ⟨⟨(), rfl, trivial, ⟨by rw [ht]; exact hP, by rw [hAe]; exact hD⟩⟩, by rw [hAe]; exact hS.F ht⟩) (by rw [hAe]; exact hS.2.2) dX4_visit_150 hlocks
          · rw [if_pos c_10] at hm
            refine lv_aload_n hx hb dX4_visit_139 rfl (lv_at hl 0 rfl) ?_
            refine lv_aload_n hx hb dX4_visit_140 rfl (lv_at hl 0 rfl) ?_
            refine lv_aload_n hx hb dX4_visit_141 rfl (lv_at hl 1 rfl) ?_
            refine lv_iload_n hx hb dX4_visit_142 rfl (lv_at hl 2 rfl) ?_
            refine lv_iload_n hx hb dX4_visit_143 rfl (lv_at hl 3 rfl) ?_
            obtain ⟨q_11, hq_11, hm⟩ := bind_some hm
            have hFc := free_all hD hS hA
            refine va_calli (va_runV (As := [.ref (a.2.2.1 (Int32.toNatClampNeg v1) 0), .int v2, .int v3]) (rest := [.ref (a.1 29)]) ⟨hx, hb, hml, hown, hts⟩ (k_X4_graphOfG l hfl G a T F U S D R8 M N P hlk v1 v2 v3 hv1 q_11 hq_11 H.size) (cwV 3 hts (gV wm1121 wm1123 ws_p16 wm9 wm1124) rfl rfl rfl (by decide +kernel) ⟨(by show 203 + 1 ≤ 500 + (d + 1) * 1; omega), (by show 8 + (8 + 11) + (4670) ≤ 12000 + (d + 1) * 60; omega)⟩) (pre_v (pre_w hK hP hD hS hE hFc) (va_recv hK hP (ci := 4) (q0 := 29) rfl rfl)) rfl rfl hl.1 rfl (lv_room (Nat.le_of_ble_eq_true rfl)) dX4_visit_144 ⟨Nat.le_of_ble_eq_true rfl, Nat.le_of_ble_eq_true rfl⟩) hS (fun q _ h => hFc q h) hFc (fun r u t H locs ht hvm hw hB hz1 hk1 hS => ?_)
            rw [show r = q_11 from hw]
            have hP : va_P (DG G) clP3 (wC G a T F U S D R8 M N P) H := by rw [← ht]; exact hB.1
            have hD : va_D A (wC G a T F U S D R8 M N P) := hB.2.weaken (fun _ p _ h => hFc p.1 h)
            clear hB hFc hw hk1
            refine W.widen (k := 0) (n := 0) (Nat.le_of_ble_eq_true rfl) (Nat.le_of_ble_eq_true rfl) ?_
            obtain ⟨q_12, hq_12, hm⟩ := bind_some hm
            have hFc := free_all hD hS hA
            refine va_callv (va_runV (As := [.int q_11]) (rest := []) ⟨hx, hb, hml, hown, hts⟩ (K_X4_add l hfl G a T F U S D R8 M N P q_11  q_12 hq_12 H.size) (cwV 1 hts (gV wm1134 wm1136 ws_p18 wm9 wm1137) rfl rfl rfl (by decide +kernel) ⟨(by show 0 + 1 ≤ 500 + (d + 1) * 1; omega), (by show 8 + (3 + 11) + (0) ≤ 12000 + (d + 1) * 60; omega)⟩) (pre_v (pre_w hK hP hD hS hE hFc) (va_recv hK hP (ci := 4) (q0 := 29) rfl rfl)) rfl rfl hl.1 rfl (lv_room (Nat.le_of_ble_eq_true rfl)) dX4_visit_147 ⟨Nat.le_of_ble_eq_true rfl, Nat.le_of_ble_eq_true rfl⟩) hS (fun q _ h => hFc q h) hFc (fun u t H locs ht hvm hw hB hz1 hk1 hS => ?_)
            have hP : va_P (DG G) clP3 (wC G a T F U S D q_12 M N P) H := by rw [← ht]; exact hB.1
            have hD : va_D A (wC G a T F U S D q_12 M N P) := hB.2.weaken (fun _ p _ h => hFc p.1 h)
            clear hB hFc hk1
            refine W.widen (k := 0) (n := 0) (Nat.le_of_ble_eq_true rfl) (Nat.le_of_ble_eq_true rfl) ?_
            obtain rfl := Option.some.inj hm
            refine W.widen (k := 0) (n := 0) (Nat.le_of_ble_eq_true rfl) (Nat.le_of_ble_eq_true rfl) ?_
            exact W.vret hx hb hr (fun t ht hW => ⟨⟨(), rfl, trivial, ⟨by rw [ht]; exact hP, by rw [hAe]; exact hD⟩⟩, by rw [hAe]; exact hS.F ht⟩) (by rw [hAe]; exact hS.2.2) dX4_visit_150 hlocks
      · rw [if_neg c_6] at hm
        refine lv_aload_n hx hb dX4_visit_83 rfl (lv_at hl 0 rfl) ?_
        refine lv_aload_n hx hb dX4_visit_84 rfl (lv_at hl 1 rfl) ?_
        refine lv_aload hx hb dX4_visit_85 (lv_at hl 4 rfl) ?_
        refine lv_iload hx hb dX4_visit_87 (lv_at hl 6 rfl) ?_
        obtain ⟨q_13, hq_13, hm⟩ := bind_some hm
        have hFc := free_all hD hS hA
        refine va_calli (va_runV (As := [.int v6]) (rest := [.ref (a.2.2.1 (Int32.toNatClampNeg v1) 0), .ref (a.1 29)]) ⟨hx, hb, hml, hown, hts⟩ (K_X9_firstOf l hfl G a T F U S D R8 M N P v6  q_13 hq_13 H.size) (cwV 1 hts (gV wm1119 wm431 wm432 wm2 wm433) rfl rfl rfl (by decide +kernel) ⟨(by show 0 + 1 ≤ 500 + (d + 1) * 1; omega), (by show 8 + (2 + 11) + (0) ≤ 12000 + (d + 1) * 60; omega)⟩) (pre_v (pre_w hK hP hD hS hE hFc) (va_recv hK hP (ci := 8) (q0 := 1) rfl rfl)) rfl rfl hl.1 rfl (lv_room (Nat.le_of_ble_eq_true rfl)) dX4_visit_89 ⟨Nat.le_of_ble_eq_true rfl, Nat.le_of_ble_eq_true rfl⟩) hS (fun q _ h => hFc q h) hFc (fun r u t H locs ht hvm hw hB hz1 hk1 hS => ?_)
        rw [show r = q_13 from hw]
        have hP : va_P (DG G) clP3 (wC G a T F U S D R8 M N P) H := by rw [← ht]; exact hB.1
        have hD : va_D A (wC G a T F U S D R8 M N P) := hB.2.weaken (fun _ p _ h => hFc p.1 h)
        clear hB hFc hw hk1
        refine W.widen (k := 0) (n := 0) (Nat.le_of_ble_eq_true rfl) (Nat.le_of_ble_eq_true rfl) ?_
        refine lv_iload_n hx hb dX4_visit_92 rfl (lv_at hl 3 rfl) ?_
        obtain ⟨q_14, hq_14, hm⟩ := bind_some hm
        have hFc := free_all hD hS hA
        refine va_callv (va_runS (As := [.ref (a.1 29), .ref (a.2.2.1 (Int32.toNatClampNeg v1) 0), .int q_13, .int v3]) (rest := []) ⟨hx, hb, hml, hown, hts⟩ (hfi T F U S D R8 M N P hlk v1 q_13 v3 hv1 q_14 hq_14 H.size) (cwS 4 hts (gS wm1110 wm1111 wm9 wm1112) rfl rfl rfl (by decide +kernel) ⟨(by show 500 + d * 1 + 1 ≤ 500 + (d + 1) * 1; omega), (by show 8 + (8 + 11) + (12000 + d * 60) ≤ 12000 + (d + 1) * 60; omega)⟩) (pre_w hK hP hD hS hE hFc) rfl rfl hl.1 rfl (lv_room (Nat.le_of_ble_eq_true rfl)) dX4_visit_93 ⟨Nat.le_of_ble_eq_true rfl, Nat.le_of_ble_eq_true rfl⟩) hS (fun q _ h => hFc q h) hFc (fun u t H locs ht hvm hw hB hz1 hk1 hS => ?_)
        have hP : va_P (DG G) clP3 (wC G a T F U S D q_14 M N P) H := by rw [← ht]; exact hB.1
        have hD : va_D A (wC G a T F U S D q_14 M N P) := hB.2.weaken (fun _ p _ h => hFc p.1 h)
        clear hB hFc hk1
        refine W.widen (k := 0) (n := 0) (Nat.le_of_ble_eq_true rfl) (Nat.le_of_ble_eq_true rfl) ?_
        refine lv_aload_n hx hb dX4_visit_96 rfl (lv_at hl 0 rfl) ?_
        refine lv_aload_n hx hb dX4_visit_97 rfl (lv_at hl 1 rfl) ?_
        refine lv_aload hx hb dX4_visit_98 (lv_at hl 4 rfl) ?_
        refine lv_iload hx hb dX4_visit_100 (lv_at hl 6 rfl) ?_
        obtain ⟨q_15, hq_15, hm⟩ := bind_some hm
        have hFc := free_all hD hS hA
        refine va_calli (va_runV (As := [.int v6]) (rest := [.ref (a.2.2.1 (Int32.toNatClampNeg v1) 0), .ref (a.1 29)]) ⟨hx, hb, hml, hown, hts⟩ (K_X9_secondOf l hfl G a T F U S D q_14 M N P v6  q_15 hq_15 H.size) (cwV 1 hts (gV wm1118 wm460 wm461 wm2 wm462) rfl rfl rfl (by decide +kernel) ⟨(by show 0 + 1 ≤ 500 + (d + 1) * 1; omega), (by show 8 + (2 + 11) + (0) ≤ 12000 + (d + 1) * 60; omega)⟩) (pre_v (pre_w hK hP hD hS hE hFc) (va_recv hK hP (ci := 8) (q0 := 1) rfl rfl)) rfl rfl hl.1 rfl (lv_room (Nat.le_of_ble_eq_true rfl)) dX4_visit_102 ⟨Nat.le_of_ble_eq_true rfl, Nat.le_of_ble_eq_true rfl⟩) hS (fun q _ h => hFc q h) hFc (fun r u t H locs ht hvm hw hB hz1 hk1 hS => ?_)
        rw [show r = q_15 from hw]
        have hP : va_P (DG G) clP3 (wC G a T F U S D q_14 M N P) H := by rw [← ht]; exact hB.1
        have hD : va_D A (wC G a T F U S D q_14 M N P) := hB.2.weaken (fun _ p _ h => hFc p.1 h)
        clear hB hFc hw hk1
        refine W.widen (k := 0) (n := 0) (Nat.le_of_ble_eq_true rfl) (Nat.le_of_ble_eq_true rfl) ?_
        refine lv_iload_n hx hb dX4_visit_105 rfl (lv_at hl 3 rfl) ?_
        refine lv_iconst (v := 1) hx hb dX4_visit_106 (by decide) ?_
        refine lv_iadd hx hb dX4_visit_107 ?_
        obtain ⟨q_16, hq_16, hm⟩ := bind_some hm
        have hFc := free_all hD hS hA
        refine va_callv (va_runS (As := [.ref (a.1 29), .ref (a.2.2.1 (Int32.toNatClampNeg v1) 0), .int q_15, .int (v3 + (1 : Int32))]) (rest := []) ⟨hx, hb, hml, hown, hts⟩ (hfi T F U S D q_14 M N P hlk v1 q_15 (v3 + (1 : Int32)) hv1 q_16 hq_16 H.size) (cwS 4 hts (gS wm1110 wm1111 wm9 wm1112) rfl rfl rfl (by decide +kernel) ⟨(by show 500 + d * 1 + 1 ≤ 500 + (d + 1) * 1; omega), (by show 8 + (8 + 11) + (12000 + d * 60) ≤ 12000 + (d + 1) * 60; omega)⟩) (pre_w hK hP hD hS hE hFc) rfl rfl hl.1 rfl (lv_room (Nat.le_of_ble_eq_true rfl)) dX4_visit_108 ⟨Nat.le_of_ble_eq_true rfl, Nat.le_of_ble_eq_true rfl⟩) hS (fun q _ h => hFc q h) hFc (fun u t H locs ht hvm hw hB hz1 hk1 hS => ?_)
        have hP : va_P (DG G) clP3 (wC G a T F U S D q_16 M N P) H := by rw [← ht]; exact hB.1
        have hD : va_D A (wC G a T F U S D q_16 M N P) := hB.2.weaken (fun _ p _ h => hFc p.1 h)
        clear hB hFc hk1
        refine W.widen (k := 0) (n := 0) (Nat.le_of_ble_eq_true rfl) (Nat.le_of_ble_eq_true rfl) ?_
        refine lv_goto (tgt := 150) hx hb dX4_visit_111 (by decide) ?_
        obtain rfl := Option.some.inj hm
        refine W.widen (k := 0) (n := 0) (Nat.le_of_ble_eq_true rfl) (Nat.le_of_ble_eq_true rfl) ?_
        exact W.vret hx hb hr (fun t ht hW => ⟨⟨(), rfl, trivial, ⟨by rw [ht]; exact hP, by rw [hAe]; exact hD⟩⟩, by rw [hAe]; exact hS.F ht⟩) (by rw [hAe]; exact hS.2.2) dX4_visit_150 hlocks
    · rw [if_neg c_4] at hm
      refine lv_aload_n hx hb dX4_visit_44 rfl (lv_at hl 0 rfl) ?_
      refine lv_aload_n hx hb dX4_visit_45 rfl (lv_at hl 1 rfl) ?_
      refine lv_aload hx hb dX4_visit_46 (lv_at hl 4 rfl) ?_
      refine lv_iload hx hb dX4_visit_48 (lv_at hl 6 rfl) ?_
      obtain ⟨q_17, hq_17, hm⟩ := bind_some hm
      have hFc := free_all hD hS hA
      refine va_calli (va_runV (As := [.int v6]) (rest := [.ref (a.2.2.1 (Int32.toNatClampNeg v1) 0), .ref (a.1 29)]) ⟨hx, hb, hml, hown, hts⟩ (K_X9_secondOf l hfl G a T F U S D R8 M N P v6  q_17 hq_17 H.size) (cwV 1 hts (gV wm1118 wm460 wm461 wm2 wm462) rfl rfl rfl (by decide +kernel) ⟨(by show 0 + 1 ≤ 500 + (d + 1) * 1; omega), (by show 8 + (2 + 11) + (0) ≤ 12000 + (d + 1) * 60; omega)⟩) (pre_v (pre_w hK hP hD hS hE hFc) (va_recv hK hP (ci := 8) (q0 := 1) rfl rfl)) rfl rfl hl.1 rfl (lv_room (Nat.le_of_ble_eq_true rfl)) dX4_visit_50 ⟨Nat.le_of_ble_eq_true rfl, Nat.le_of_ble_eq_true rfl⟩) hS (fun q _ h => hFc q h) hFc (fun r u t H locs ht hvm hw hB hz1 hk1 hS => ?_)
      rw [show r = q_17 from hw]
      have hP : va_P (DG G) clP3 (wC G a T F U S D R8 M N P) H := by rw [← ht]; exact hB.1
      have hD : va_D A (wC G a T F U S D R8 M N P) := hB.2.weaken (fun _ p _ h => hFc p.1 h)
      clear hB hFc hw hk1
      refine W.widen (k := 0) (n := 0) (Nat.le_of_ble_eq_true rfl) (Nat.le_of_ble_eq_true rfl) ?_
      refine lv_iload_n hx hb dX4_visit_53 rfl (lv_at hl 3 rfl) ?_
      obtain ⟨q_18, hq_18, hm⟩ := bind_some hm
      have hFc := free_all hD hS hA
      refine va_callv (va_runS (As := [.ref (a.1 29), .ref (a.2.2.1 (Int32.toNatClampNeg v1) 0), .int q_17, .int v3]) (rest := []) ⟨hx, hb, hml, hown, hts⟩ (hfi T F U S D R8 M N P hlk v1 q_17 v3 hv1 q_18 hq_18 H.size) (cwS 4 hts (gS wm1110 wm1111 wm9 wm1112) rfl rfl rfl (by decide +kernel) ⟨(by show 500 + d * 1 + 1 ≤ 500 + (d + 1) * 1; omega), (by show 8 + (8 + 11) + (12000 + d * 60) ≤ 12000 + (d + 1) * 60; omega)⟩) (pre_w hK hP hD hS hE hFc) rfl rfl hl.1 rfl (lv_room (Nat.le_of_ble_eq_true rfl)) dX4_visit_54 ⟨Nat.le_of_ble_eq_true rfl, Nat.le_of_ble_eq_true rfl⟩) hS (fun q _ h => hFc q h) hFc (fun u t H locs ht hvm hw hB hz1 hk1 hS => ?_)
      have hP : va_P (DG G) clP3 (wC G a T F U S D q_18 M N P) H := by rw [← ht]; exact hB.1
      have hD : va_D A (wC G a T F U S D q_18 M N P) := hB.2.weaken (fun _ p _ h => hFc p.1 h)
      clear hB hFc hk1
      refine W.widen (k := 0) (n := 0) (Nat.le_of_ble_eq_true rfl) (Nat.le_of_ble_eq_true rfl) ?_
      refine lv_aload hx hb dX4_visit_57 (lv_at hl 4 rfl) ?_
      refine lv_iload hx hb dX4_visit_59 (lv_at hl 6 rfl) ?_
      obtain ⟨q_19, hq_19, hm⟩ := bind_some hm
      have hFc := free_all hD hS hA
      refine va_calli (va_runV (As := [.int v6]) (rest := []) ⟨hx, hb, hml, hown, hts⟩ (K_X9_firstOf l hfl G a T F U S D q_18 M N P v6  q_19 hq_19 H.size) (cwV 1 hts (gV wm1119 wm431 wm432 wm2 wm433) rfl rfl rfl (by decide +kernel) ⟨(by show 0 + 1 ≤ 500 + (d + 1) * 1; omega), (by show 8 + (2 + 11) + (0) ≤ 12000 + (d + 1) * 60; omega)⟩) (pre_v (pre_w hK hP hD hS hE hFc) (va_recv hK hP (ci := 8) (q0 := 1) rfl rfl)) rfl rfl hl.1 rfl (lv_room (Nat.le_of_ble_eq_true rfl)) dX4_visit_61 ⟨Nat.le_of_ble_eq_true rfl, Nat.le_of_ble_eq_true rfl⟩) hS (fun q _ h => hFc q h) hFc (fun r u t H locs ht hvm hw hB hz1 hk1 hS => ?_)
      rw [show r = q_19 from hw]
      have hP : va_P (DG G) clP3 (wC G a T F U S D q_18 M N P) H := by rw [← ht]; exact hB.1
      have hD : va_D A (wC G a T F U S D q_18 M N P) := hB.2.weaken (fun _ p _ h => hFc p.1 h)
      clear hB hFc hw hk1
      refine W.widen (k := 0) (n := 0) (Nat.le_of_ble_eq_true rfl) (Nat.le_of_ble_eq_true rfl) ?_
      refine lv_istore (lv' := [(6, .int q_19), (0, .ref (a.1 29)), (1, .ref (a.2.2.1 (Int32.toNatClampNeg v1) 0)), (2, .int v2), (3, .int v3), (4, .ref (a.1 1)), (5, .int v5), (7, .int v7)]) hx hb dX4_visit_64 hl (by decide) rfl (fun ls hl => ?_)
      refine lv_iinc (v := (v7 + 1)) (lv' := [(7, .int (v7 + 1)), (6, .int q_19), (0, .ref (a.1 29)), (1, .ref (a.2.2.1 (Int32.toNatClampNeg v1) 0)), (2, .int v2), (3, .int v3), (4, .ref (a.1 1)), (5, .int v5)]) hx hb dX4_visit_66 hl (k := 7) rfl rfl (by decide) rfl (fun ls hl => ?_)
      refine lv_goto (tgt := 37) hx hb dX4_visit_69 (by decide) ?_
      refine W.widen (k := 0) (n := 0) (Nat.le_of_ble_eq_true rfl) (Nat.le_of_ble_eq_true rfl) ?_
      exact ih q_18 v1 v2 v3 v5 q_19 (v7 + 1) hv1 _ _ hP hD hS _ (lv_sub hl [2, 3, 4, 5, 6, 7, 1, 0] rfl) hm
set_option maxHeartbeats 2000000 in
set_option maxRecDepth 100000 in
theorem k_X4_visit (l : Launch) (hfl : l.stackTraces = false) (G : GC) (a : AS) : ∀ (d : Nat), ∀ (T : TS) (F : FS) (U : US) (S : SS) (D : DS) (R : RS) (M : MS) (N : NS) (P : PS) (_ : lkA a D.1.toNatClampNeg D.2.1.toNatClampNeg) (p1 : Int32) (p2 : Int32) (p3 : Int32) (hg_p1 : gix D p1 = true) (R9 : RS), f_X4_visit d T D R P p1 p2 p3 = some R9 → ∀ (sz : Nat), Met l yX4_visit (Cond.code yX4_visit cX4_visit 8 none :: W0) ({ frames := 500 + d * 1, cells := 0, slots := 0, locals := 12000 + d * 60 }) (va_Pc [.ref (a.1 29), .ref (a.2.2.1 (Int32.toNatClampNeg p1) 0), .int p2, .int p3] (WD G (wC G a T F U S D R M N P) sz)) (va_Qv (fun _ : Unit => True) (fun _ t => PW G (va_A (wC G a T F U S D R M N P) sz) (wC G a T F U S D R9 M N P) t) (va_A (wC G a T F U S D R M N P) sz)) 0 0 (va_A (wC G a T F U S D R M N P) sz) := by
  intro d
  induction d with
  | zero =>
    intro T F U S D R M N P hlk p1 p2 p3 hg_p1 R9 hm
    rw [f_X4_visit] at hm
    cases hm
  | succ d ihd =>
    intro T F U S D R M N P hlk p1 p2 p3 hg_p1 R9 hm sz
    rw [f_X4_visit] at hm
    refine Met.ofW (cc := cX4_visit) (maxL := 8) (ret := none) (by decide) rfl ?_
    intro p e s m args below meth c s₁ B hml hv
    obtain ⟨rfl, hsz, hP, hK, hD0, hE⟩ := hv
    have hx := B.exec
    have hb := B.bytes
    have hr := B.returns
    have hts := w0_tail B.pre
    have hown : s.vm.findClass RX4 = some m.cls := findClass_of_methodNamed B.named
    have hlocks := B.notSynchronized
    have hD := hD0.self (sz := sz)
    obtain ⟨A, hAe⟩ : ∃ A, (va_A (wC G a T F U S D R M N P) sz) = A := ⟨_, rfl⟩
    rw [hAe] at hD hE
    have hA : ∀ q : Nat, s.heap.size ≤ q → A q := fun q h => by rw [← hAe]; exact Or.inr (by rw [← hsz]; exact h)
    have hS : va_S A s.heap s.heap [] := va_S.rf
    obtain ⟨H, hHe⟩ : ∃ H : Heap, H = s.heap := ⟨_, rfl⟩
    have hP : va_P (DG G) clP3 (wC G a T F U S D R M N P) H := by rw [hHe]; exact hP
    have hS : va_S A s.heap H [] := by rw [hHe]; exact hS
    have hl := lv_entry ([.ref (a.1 29), .ref (a.2.2.1 (Int32.toNatClampNeg p1) 0), .int p2, .int p3]) (n := 8) (Nat.le_of_ble_eq_true rfl)
    rw [lg_entry_eq, ← hHe]
    generalize (lg_sl ([.ref (a.1 29), .ref (a.2.2.1 (Int32.toNatClampNeg p1) 0), .int p2, .int p3]) ++ List.replicate (8 - (lg_sl ([.ref (a.1 29), .ref (a.2.2.1 (Int32.toNatClampNeg p1) 0), .int p2, .int p3])).length) Slot.unset).toArray = ls at hl ⊢
    have hl : lv_has ls 8 [(0, .ref (a.1 29)), (1, .ref (a.2.2.1 (Int32.toNatClampNeg p1) 0)), (2, .int p2), (3, .int p3)] := hl
    refine lv_aload_n hx hb dX4_visit_0 rfl (lv_at hl 0 rfl) ?_
    refine va_get (D := DG G) (ci := 4) (v := .ref (a.1 1)) (C := RX4) (T := TX4) (N := 6) hx hb hts inW_X4 hown hK hP 29 rfl rfl 0 (by decide) (hts _ wm220) (fun _ h9 => h9) rfl dX4_visit_1 ?_
    refine lv_astore (lv' := [(4, .ref (a.1 1)), (0, .ref (a.1 29)), (1, .ref (a.2.2.1 (Int32.toNatClampNeg p1) 0)), (2, .int p2), (3, .int p3)]) hx hb dX4_visit_4 hl (by decide) rfl (fun ls hl => ?_)
    refine lv_aload hx hb dX4_visit_6 (lv_at hl 0 rfl) ?_
    refine lv_iload_n hx hb dX4_visit_8 rfl (lv_at hl 3 rfl) ?_
    obtain ⟨q_1, hq_1, hm⟩ := bind_some hm
    have hFc := free_all hD hS hA
    refine va_calli (va_runV (As := [.int p2]) (rest := []) ⟨hx, hb, hml, hown, hts⟩ (K_X9_callsOf l hfl G a T F U S D R M N P p2  q_1 hq_1 H.size) (cwV 1 hts (gV wm1113 wm1031 wm1032 wm2 wm1033) rfl rfl rfl (by decide +kernel) ⟨(by show 0 + 1 ≤ 500 + (d + 1) * 1; omega), (by show 8 + (2 + 11) + (0) ≤ 12000 + (d + 1) * 60; omega)⟩) (pre_v (pre_w hK hP hD hS hE hFc) (va_recv hK hP (ci := 8) (q0 := 1) rfl rfl)) rfl rfl hl.1 rfl (lv_room (Nat.le_of_ble_eq_true rfl)) dX4_visit_9 ⟨Nat.le_of_ble_eq_true rfl, Nat.le_of_ble_eq_true rfl⟩) hS (fun q _ h => hFc q h) hFc (fun r u t H locs ht hvm hw hB hz1 hk1 hS => ?_)
    rw [show r = q_1 from hw]
    have hP : va_P (DG G) clP3 (wC G a T F U S D R M N P) H := by rw [← ht]; exact hB.1
    have hD : va_D A (wC G a T F U S D R M N P) := hB.2.weaken (fun _ p _ h => hFc p.1 h)
    clear hB hFc hw hk1
    refine W.widen (k := 0) (n := 0) (Nat.le_of_ble_eq_true rfl) (Nat.le_of_ble_eq_true rfl) ?_
    refine lv_aload_n hx hb dX4_visit_12 rfl (lv_at hl 1 rfl) ?_
    refine va_get (D := DG G) (ci := 4) (v := .int R.1) (C := RX4) (T := TX4) (N := 6) hx hb hts inW_X4 hown hK hP 29 rfl rfl 2 (by decide) (hts _ wm222) (fun _ h9 => h9) rfl dX4_visit_13 ?_
    refine lv_ishr hx hb dX4_visit_16 ?_
    refine lv_iconst (v := 1) hx hb dX4_visit_17 (by decide) ?_
    refine lv_iand hx hb dX4_visit_18 ?_
    refine lv_if_ne (tgt := 23) hx hb dX4_visit_19 (by decide) (fun c_2 => ?_) (fun c_2 => ?_)
    · rw [if_neg c_2] at hm
      refine lv_aload hx hb dX4_visit_23 (lv_at hl 0 rfl) ?_
      refine lv_iload_n hx hb dX4_visit_25 rfl (lv_at hl 3 rfl) ?_
      obtain ⟨q_3, hq_3, hm⟩ := bind_some hm
      have hFc := free_all hD hS hA
      refine va_calli (va_runV (As := [.int p2]) (rest := []) ⟨hx, hb, hml, hown, hts⟩ (K_X9_argumentsOf l hfl G a T F U S D R M N P p2  q_3 hq_3 H.size) (cwV 1 hts (gV wm1114 wm1115 wm1116 wm2 wm1117) rfl rfl rfl (by decide +kernel) ⟨(by show 0 + 1 ≤ 500 + (d + 1) * 1; omega), (by show 8 + (4 + 11) + (0) ≤ 12000 + (d + 1) * 60; omega)⟩) (pre_v (pre_w hK hP hD hS hE hFc) (va_recv hK hP (ci := 8) (q0 := 1) rfl rfl)) rfl rfl hl.1 rfl (lv_room (Nat.le_of_ble_eq_true rfl)) dX4_visit_26 ⟨Nat.le_of_ble_eq_true rfl, Nat.le_of_ble_eq_true rfl⟩) hS (fun q _ h => hFc q h) hFc (fun r u t H locs ht hvm hw hB hz1 hk1 hS => ?_)
      rw [show r = q_3 from hw]
      have hP : va_P (DG G) clP3 (wC G a T F U S D R M N P) H := by rw [← ht]; exact hB.1
      have hD : va_D A (wC G a T F U S D R M N P) := hB.2.weaken (fun _ p _ h => hFc p.1 h)
      clear hB hFc hw hk1
      refine W.widen (k := 0) (n := 0) (Nat.le_of_ble_eq_true rfl) (Nat.le_of_ble_eq_true rfl) ?_
      refine lv_istore (lv' := [(5, .int q_3), (4, .ref (a.1 1)), (0, .ref (a.1 29)), (1, .ref (a.2.2.1 (Int32.toNatClampNeg p1) 0)), (2, .int p2), (3, .int p3)]) hx hb dX4_visit_29 hl (by decide) rfl (fun ls hl => ?_)
      refine lv_iload_n hx hb dX4_visit_31 rfl (lv_at hl 4 rfl) ?_
      refine lv_istore (lv' := [(6, .int p2), (5, .int q_3), (4, .ref (a.1 1)), (0, .ref (a.1 29)), (1, .ref (a.2.2.1 (Int32.toNatClampNeg p1) 0)), (2, .int p2), (3, .int p3)]) hx hb dX4_visit_32 hl (by decide) rfl (fun ls hl => ?_)
      refine lv_iconst (v := 0) hx hb dX4_visit_34 (by decide) ?_
      refine lv_istore (lv' := [(7, .int 0), (6, .int p2), (5, .int q_3), (4, .ref (a.1 1)), (0, .ref (a.1 29)), (1, .ref (a.2.2.1 (Int32.toNatClampNeg p1) 0)), (2, .int p2), (3, .int p3)]) hx hb dX4_visit_35 hl (by decide) rfl (fun ls hl => ?_)
      refine W.widen (k := 0) (n := 0) (Nat.le_of_ble_eq_true rfl) (Nat.le_of_ble_eq_true rfl) ?_
      exact kl_X4_visit_37 hfl ihd hx hb hr hml hown hts hlocks hlk hAe hA hE hK R9 100000 R p1 p2 p3 q_3 p2 0 hg_p1 _ _ hP hD hS _ (lv_sub hl [4, 5, 6, 7, 3, 2, 1, 0] rfl) hm
    · rw [if_pos c_2] at hm
      obtain rfl := Option.some.inj hm
      refine W.widen (k := 0) (n := 0) (Nat.le_of_ble_eq_true rfl) (Nat.le_of_ble_eq_true rfl) ?_
      exact W.vret hx hb hr (fun t ht hW => ⟨⟨(), rfl, trivial, ⟨by rw [ht]; exact hP, by rw [hAe]; exact hD⟩⟩, by rw [hAe]; exact hS.F ht⟩) (by rw [hAe]; exact hS.2.2) dX4_visit_22 hlocks
def f_X4_takeCallsOf (T : TS) (D : DS) (R : RS) (P : PS) (p1 : Int32) : Option (RS) := (if (P.2.2.2.1 (Int32.toNatClampNeg p1)) = R.1 then (if (P.2.2.2.2.2.1 (Int32.toNatClampNeg p1)) = 102 then (Option.bind (f_X4_visit 40 T D R P p1 (P.2.2.2.2.2.2.1 (Int32.toNatClampNeg p1)) 0) (fun q_3 => some q_3)) else some R) else some R)
set_option maxHeartbeats 2000000 in
set_option maxRecDepth 100000 in
theorem k_X4_takeCallsOf (l : Launch) (hfl : l.stackTraces = false) (G : GC) (a : AS) (T : TS) (F : FS) (U : US) (S : SS) (D : DS) (R : RS) (M : MS) (N : NS) (P : PS) (hlk : lkA a D.1.toNatClampNeg D.2.1.toNatClampNeg) (p1 : Int32) (hg_p1 : gix D p1 = true) (R9 : RS) (hm : f_X4_takeCallsOf T D R P p1 = some R9) (sz : Nat) : Met l yX4_takeCallsOf (Cond.code yX4_takeCallsOf cX4_takeCallsOf 2 none :: W0) ({ frames := 541, cells := 0, slots := 0, locals := 14427 }) (va_Pc [.ref (a.1 29), .ref (a.2.2.1 (Int32.toNatClampNeg p1) 0)] (WD G (wC G a T F U S D R M N P) sz)) (va_Qv (fun _ : Unit => True) (fun _ t => PW G (va_A (wC G a T F U S D R M N P) sz) (wC G a T F U S D R9 M N P) t) (va_A (wC G a T F U S D R M N P) sz)) 0 0 (va_A (wC G a T F U S D R M N P) sz) := by
  rw [f_X4_takeCallsOf] at hm
  refine Met.ofW (cc := cX4_takeCallsOf) (maxL := 2) (ret := none) (by decide) rfl ?_
  intro p e s m args below meth c s₁ B hml hv
  obtain ⟨rfl, hsz, hP, hK, hD0, hE⟩ := hv
  have hx := B.exec
  have hb := B.bytes
  have hr := B.returns
  have hts := w0_tail B.pre
  have hown : s.vm.findClass RX4 = some m.cls := findClass_of_methodNamed B.named
  have hlocks := B.notSynchronized
  have hD := hD0.self (sz := sz)
  obtain ⟨A, hAe⟩ : ∃ A, (va_A (wC G a T F U S D R M N P) sz) = A := ⟨_, rfl⟩
  rw [hAe] at hD hE
  have hA : ∀ q : Nat, s.heap.size ≤ q → A q := fun q h => by rw [← hAe]; exact Or.inr (by rw [← hsz]; exact h)
  have hS : va_S A s.heap s.heap [] := va_S.rf
  obtain ⟨H, hHe⟩ : ∃ H : Heap, H = s.heap := ⟨_, rfl⟩
  have hP : va_P (DG G) clP3 (wC G a T F U S D R M N P) H := by rw [hHe]; exact hP
  have hS : va_S A s.heap H [] := by rw [hHe]; exact hS
  have hl := lv_entry ([.ref (a.1 29), .ref (a.2.2.1 (Int32.toNatClampNeg p1) 0)]) (n := 2) (Nat.le_of_ble_eq_true rfl)
  rw [lg_entry_eq, ← hHe]
  generalize (lg_sl ([.ref (a.1 29), .ref (a.2.2.1 (Int32.toNatClampNeg p1) 0)]) ++ List.replicate (2 - (lg_sl ([.ref (a.1 29), .ref (a.2.2.1 (Int32.toNatClampNeg p1) 0)])).length) Slot.unset).toArray = ls at hl ⊢
  have hl : lv_has ls 2 [(0, .ref (a.1 29)), (1, .ref (a.2.2.1 (Int32.toNatClampNeg p1) 0))] := hl
  refine lv_aload_n hx hb dX4_takeCallsOf_0 rfl (lv_at hl 1 rfl) ?_
  refine lv_ifnull hx hb dX4_takeCallsOf_1 ?_
  refine lv_aload_n hx hb dX4_takeCallsOf_4 rfl (lv_at hl 1 rfl) ?_
  refine va_getN (D := DG G) (ci := 3) (v := .int (P.2.2.2.1 (Int32.toNatClampNeg p1))) (C := RX3) (T := TX3) (N := 8) hx hb hts inW_X3 hown hK hP _ ((at_goalC (c := 0) (gix_lt hg_p1) (by decide)).trans rfl) rfl 0 (by decide) (va_Nw.use rfl (hE.1 _ nw904)) (fun _ h9 => h9) rfl dX4_takeCallsOf_5 ?_
  refine lv_aload_n hx hb dX4_takeCallsOf_8 rfl (lv_at hl 0 rfl) ?_
  refine va_get (D := DG G) (ci := 4) (v := .int R.1) (C := RX4) (T := TX4) (N := 6) hx hb hts inW_X4 hown hK hP 29 rfl rfl 2 (by decide) (hts _ wm222) (fun _ h9 => h9) rfl dX4_takeCallsOf_9 ?_
  refine lv_icmp_ne (tgt := 34) hx hb dX4_takeCallsOf_12 (by decide) (fun c_1 => ?_) (fun c_1 => ?_)
  · rw [if_neg c_1] at hm
    obtain rfl := Option.some.inj hm
    refine W.widen (k := 0) (n := 0) (Nat.le_of_ble_eq_true rfl) (Nat.le_of_ble_eq_true rfl) ?_
    exact W.vret hx hb hr (fun t ht hW => ⟨⟨(), rfl, trivial, ⟨by rw [ht]; exact hP, by rw [hAe]; exact hD⟩⟩, by rw [hAe]; exact hS.F ht⟩) (by rw [hAe]; exact hS.2.2) dX4_takeCallsOf_34 hlocks
  · rw [if_pos c_1] at hm
    refine lv_aload_n hx hb dX4_takeCallsOf_15 rfl (lv_at hl 1 rfl) ?_
    refine va_getN (D := DG G) (ci := 3) (v := .int (P.2.2.2.2.2.1 (Int32.toNatClampNeg p1))) (C := RX3) (T := TX3) (N := 8) hx hb hts inW_X3 hown hK hP _ ((at_goalC (c := 0) (gix_lt hg_p1) (by decide)).trans rfl) rfl 4 (by decide) (va_Nw.use rfl (hE.1 _ nw920)) (fun _ h9 => h9) rfl dX4_takeCallsOf_16 ?_
    refine lv_bipush (v := 102) hx hb dX4_takeCallsOf_19 (by decide) ?_
    refine lv_icmp_ne (tgt := 34) hx hb dX4_takeCallsOf_21 (by decide) (fun c_2 => ?_) (fun c_2 => ?_)
    · rw [if_neg c_2] at hm
      obtain rfl := Option.some.inj hm
      refine W.widen (k := 0) (n := 0) (Nat.le_of_ble_eq_true rfl) (Nat.le_of_ble_eq_true rfl) ?_
      exact W.vret hx hb hr (fun t ht hW => ⟨⟨(), rfl, trivial, ⟨by rw [ht]; exact hP, by rw [hAe]; exact hD⟩⟩, by rw [hAe]; exact hS.F ht⟩) (by rw [hAe]; exact hS.2.2) dX4_takeCallsOf_34 hlocks
    · rw [if_pos c_2] at hm
      refine lv_aload_n hx hb dX4_takeCallsOf_24 rfl (lv_at hl 0 rfl) ?_
      refine lv_aload_n hx hb dX4_takeCallsOf_25 rfl (lv_at hl 1 rfl) ?_
      refine lv_aload_n hx hb dX4_takeCallsOf_26 rfl (lv_at hl 1 rfl) ?_
      refine va_getN (D := DG G) (ci := 3) (v := .int (P.2.2.2.2.2.2.1 (Int32.toNatClampNeg p1))) (C := RX3) (T := TX3) (N := 8) hx hb hts inW_X3 hown hK hP _ ((at_goalC (c := 0) (gix_lt hg_p1) (by decide)).trans rfl) rfl 5 (by decide) (va_Nw.use rfl (hE.1 _ nw925)) (fun _ h9 => h9) rfl dX4_takeCallsOf_27 ?_
      refine lv_iconst (v := 0) hx hb dX4_takeCallsOf_30 (by decide) ?_
      obtain ⟨q_3, hq_3, hm⟩ := bind_some hm
      have hFc := free_all hD hS hA
      refine va_callv (va_runS (As := [.ref (a.1 29), .ref (a.2.2.1 (Int32.toNatClampNeg p1) 0), .int (P.2.2.2.2.2.2.1 (Int32.toNatClampNeg p1)), .int 0]) (rest := []) ⟨hx, hb, hml, hown, hts⟩ (k_X4_visit l hfl G a 40 T F U S D R M N P hlk p1 (P.2.2.2.2.2.2.1 (Int32.toNatClampNeg p1)) 0 hg_p1 q_3 hq_3 H.size) (cwS 4 hts (gS wm1110 wm1111 wm9 wm1112) rfl rfl rfl (by decide +kernel) ⟨Nat.le_of_ble_eq_true rfl, Nat.le_of_ble_eq_true rfl⟩) (pre_w hK hP hD hS hE hFc) rfl rfl hl.1 rfl (lv_room (Nat.le_of_ble_eq_true rfl)) dX4_takeCallsOf_31 ⟨Nat.le_of_ble_eq_true rfl, Nat.le_of_ble_eq_true rfl⟩) hS (fun q _ h => hFc q h) hFc (fun u t H locs ht hvm hw hB hz1 hk1 hS => ?_)
      have hP : va_P (DG G) clP3 (wC G a T F U S D q_3 M N P) H := by rw [← ht]; exact hB.1
      have hD : va_D A (wC G a T F U S D q_3 M N P) := hB.2.weaken (fun _ p _ h => hFc p.1 h)
      clear hB hFc hk1
      refine W.widen (k := 0) (n := 0) (Nat.le_of_ble_eq_true rfl) (Nat.le_of_ble_eq_true rfl) ?_
      obtain rfl := Option.some.inj hm
      refine W.widen (k := 0) (n := 0) (Nat.le_of_ble_eq_true rfl) (Nat.le_of_ble_eq_true rfl) ?_
      exact W.vret hx hb hr (fun t ht hW => ⟨⟨(), rfl, trivial, ⟨by rw [ht]; exact hP, by rw [hAe]; exact hD⟩⟩, by rw [hAe]; exact hS.F ht⟩) (by rw [hAe]; exact hS.2.2) dX4_takeCallsOf_34 hlocks
