def f_X0_splitBy_L48 : Nat → TS → FS → SS → DS → PS → Int32 → Int32 → Int32 → Int32 → Int32 → Int32 → Option (Int32 × TS × FS × SS × DS × PS)
  | 0, _, _, _, _, _, _, _, _, _, _, _ => none
  | n + 1, T, F, S, D, P, v1, v2, v4, v5, v6, v7 => (if S.2.1 ≤ v7 then (Option.bind (g_X3_splitInto P v1 v2 D.2.1) (fun q_8 => (Option.bind (g_X7_noteSplit S v4) (fun q_9 => some (v6, T, F, q_9, (D.1, (D.2.1 + v6), D.2.2), q_8))))) else (Option.bind (g_X7_ownerOf S v7) (fun q_10 => (if q_10 = v4 then (if 40 ≤ (D.2.1 + v6) then (f_X0_splitBy_L48 n T F S D P v1 v2 v4 v5 v6 (v7 + 1)) else (Option.bind (f_X0_childOf T F S D P v1 v2 v7) (fun q_13 => (if q_13.1 < 0 then (Option.bind (g_X9_release q_13.2.1 v5) (fun q_15 => some ((-1), q_15, q_13.2.2.1, S, D, P))) else (if inb (D.2.1 + v6) 40 = true then (f_X0_splitBy_L48 n q_13.2.1 q_13.2.2.1 S D (addG P (Int32.toNatClampNeg (D.2.1 + v6)) q_13.2.2.2) v1 v2 v4 v5 (v6 + 1) (v7 + 1)) else none))))) else (f_X0_splitBy_L48 n T F S D P v1 v2 v4 v5 v6 (v7 + 1))))))
def f_X0_splitBy (T : TS) (F : FS) (S : SS) (D : DS) (P : PS) (p1 : Int32) (p2 : Int32) : Option (Int32 × TS × FS × SS × DS × PS) := (Option.bind (g_X8_typeAt_g P p1 p2) (fun q_1 => (Option.bind (g_X9_kindOf T q_1) (fun q_2 => (if q_2 = 2 then (Option.bind (g_X9_firstOf T q_1) (fun q_4 => (Option.bind (g_X9_mark T) (fun q_5 => (if inb D.2.1 41 = true then (f_X0_splitBy_L48 100000 T F S D P p1 p2 q_4 q_5 0 0) else none))))) else some ((-1), T, F, S, D, P))))))
set_option maxHeartbeats 2000000 in
set_option maxRecDepth 100000 in
theorem kl_X0_splitBy_48 {l : Launch} (hfl : l.stackTraces = false) {G : GC} {a : AS} {T : TS} {F : FS} {U : US} {S : SS} {D : DS} {R : RS} {M : MS} {N : NS} {P : PS} {A : Nat → Prop} {sz : Nat} {p : Program} {e : Env} {s : State} {m : MethodId} {args : Array Value} {below : List Frame} {meth : Method} {c : Code} (hx : p.tables.exec = Jvm.exec) (hb : c.code = cX0_splitBy) (hr : meth.sig.returnType = (some .int)) (hml : c.maxLocals = 9) (hown : s.vm.findClass RX0 = some m.cls) (hts : ∀ w ∈ W0, w.before args s = true) (hlocks : meth.locks = false) (hAe : (va_A (wC G a T F U S D R M N P) sz) = A) (hA : ∀ q : Nat, s.heap.size ≤ q → A q) (hE : EV G A s s.heap) (hK : va_K (DG G) clP3 (TY G) s) (r9 : Int32) (T9 : TS) (F9 : FS) (S9 : SS) (D9 : DS) (P9 : PS) (h41 : inb D.2.1 41 = true) : ∀ (n : Nat), ∀ (T8 : TS) (F8 : FS) (P8 : PS) (b8 : BS) (mN : Nat) (v1 : Int32) (v2 : Int32) (v4 : Int32) (v5 : Int32) (v6 : Int32) (v7 : Int32) (hv1 : gix D v1 = true) (hlk8 : lkA (a.1, b8) (Int32.toNatClampNeg D.1) ((Int32.toNatClampNeg D.2.1) + mN)) (hv6 : v6 = Int32.ofNat mN) (h40 : (Int32.toNatClampNeg D.2.1) + mN ≤ 40) (hga : b8.2.1 (Int32.toNatClampNeg v1) 0 = a.2.2.1 (Int32.toNatClampNeg v1) 0) (H : Heap) (locs : List Loc), va_P (DG G) clP3 (wC G (a.1, b8) T8 F8 U S D R M N P8 ++ pend G (a.1, b8) P8 (Int32.toNatClampNeg D.2.1) mN) H → va_D A (wC G (a.1, b8) T8 F8 U S D R M N P8 ++ pend G (a.1, b8) P8 (Int32.toNatClampNeg D.2.1) mN) → va_S A s.heap H locs → ∀ (ls : Array Slot), lv_has ls 9 [(0, .ref (a.1 21)), (1, .ref (a.2.2.1 (Int32.toNatClampNeg v1) 0)), (2, .int v2), (4, .int v4), (5, .int v5), (6, .int v6), (7, .int v7)] → f_X0_splitBy_L48 n T8 F8 S D P8 v1 v2 v4 v5 v6 v7 = some (r9, T9, F9, S9, D9, P9) → W p l e ({ frames := 407, cells := 164, slots := 5658, locals := 10573 }) s m args below meth c H locs (4 * mN) (138 * mN) (MQ below (va_Qi (S := BS) (fun r _ => r = r9) (fun b2 t => lkA (a.1, b2) D9.1.toNatClampNeg D9.2.1.toNatClampNeg ∧ PW G (va_A (wC G a T F U S D R M N P) sz) (wC G (a.1, b2) T9 F9 U S9 D9 R M N P9) t) (va_A (wC G a T F U S D R M N P) sz)) args s 164 5658 (va_A (wC G a T F U S D R M N P) sz)) (F0 m 48 ls []) := by
  intro n
  induction n with
  | zero =>
    intro T8 F8 P8 b8 mN v1 v2 v4 v5 v6 v7 hv1 hlk8 hv6 h40 hga H locs hP hD hS ls hl hm
    rw [f_X0_splitBy_L48] at hm
    cases hm
  | succ n ih =>
    intro T8 F8 P8 b8 mN v1 v2 v4 v5 v6 v7 hv1 hlk8 hv6 h40 hga H locs hP hD hS ls hl hm
    rw [f_X0_splitBy_L48] at hm
    have hlk : lkA (a.1, b8) (Int32.toNatClampNeg D.1) (Int32.toNatClampNeg D.2.1) := lk_le hlk8
    have hl : lv_has ls 9 [(0, .ref (a.1 21)), (1, .ref ((a.1, b8).2.2.1 (Int32.toNatClampNeg v1) 0)), (2, .int v2), (4, .int v4), (5, .int v5), (6, .int v6), (7, .int v7)] := by rw [show ((a.1, b8) : AS).2.2.1 (Int32.toNatClampNeg v1) 0 = a.2.2.1 (Int32.toNatClampNeg v1) 0 from hga]; exact hl
    refine lv_iload hx hb dX0_splitBy_48 (lv_at hl 6 rfl) ?_
    refine lv_aload_n hx hb dX0_splitBy_50 rfl (lv_at hl 0 rfl) ?_
    refine va_get (D := DG G) (ci := 0) (v := .ref (a.1 13)) (C := RX0) (T := TX0) (N := 8) hx hb hts inW_X0 hown hK hP 21 rfl rfl 2 (by decide) (hts _ wm141) (fun _ h9 => h9) rfl dX0_splitBy_51 ?_
    refine va_getN (D := DG G) (ci := 6) (v := .int S.2.1) (C := RX7) (T := TX7) (N := 10) hx hb hts inW_X7 hown hK hP 13 rfl rfl 9 (by decide) (va_Nw.use rfl (hE.1 _ nw106)) (fun _ h9 => h9) rfl dX0_splitBy_54 ?_
    refine lv_icmp_ge (tgt := 138) hx hb dX0_splitBy_57 (by decide) (fun c_7 => ?_) (fun c_7 => ?_)
    · rw [if_pos c_7] at hm
      refine lv_aload_n hx hb dX0_splitBy_138 rfl (lv_at hl 1 rfl) ?_
      refine lv_iload_n hx hb dX0_splitBy_139 rfl (lv_at hl 2 rfl) ?_
      refine lv_aload_n hx hb dX0_splitBy_140 rfl (lv_at hl 0 rfl) ?_
      refine va_get (D := DG G) (ci := 0) (v := .int D.2.1) (C := RX0) (T := TX0) (N := 8) hx hb hts inW_X0 hown hK hP 21 rfl rfl 6 (by decide) (hts _ wm146) (fun _ h9 => h9) rfl dX0_splitBy_141 ?_
      obtain ⟨q_8, hq_8, hm⟩ := bind_some hm
      have hFc := free_all hD hS hA
      refine va_callv (va_runV (As := [.int v2, .int D.2.1]) (rest := []) ⟨hx, hb, hml, hown, hts⟩ (frame_v (List.Perm.refl _) (List.Perm.refl _) (wr := pend G (a.1, b8) P8 (Int32.toNatClampNeg D.2.1) mN) (K_X3_splitInto l hfl G (a.1, b8) T8 F8 U S D R M N P8 v1 v2 D.2.1 hv1 q_8 hq_8 H.size)) (cwV 2 hts (gV wm1010 wm1011 wm1012 wm23 wm1013) rfl rfl rfl (by decide +kernel) ⟨Nat.le_of_ble_eq_true rfl, Nat.le_of_ble_eq_true rfl⟩) (pre_v (pre_w hK hP hD hS hE hFc) (va_recv hK hP (ci := 3) (q0 := _) rfl (at_pre ((at_goalC (c := 0) (gix_lt hv1) (by decide)).trans rfl)))) rfl rfl hl.1 rfl (lv_room (Nat.le_of_ble_eq_true rfl)) dX0_splitBy_144 ⟨(by show (_ : Nat) ≤ 164; omega), (by show (_ : Nat) ≤ 5658; omega)⟩) hS (fun q _ h => hFc q h) hFc (fun u t H locs ht hvm hw hB hz1 hk1 hS => ?_)
      have hP : va_P (DG G) clP3 ((wC G (a.1, b8) T8 F8 U S D R M N q_8) ++ pend G (a.1, b8) P8 (Int32.toNatClampNeg D.2.1) mN) H := by rw [← ht]; exact hB.1
      have hD : va_D A ((wC G (a.1, b8) T8 F8 U S D R M N q_8) ++ pend G (a.1, b8) P8 (Int32.toNatClampNeg D.2.1) mN) := hB.2.weaken (fun _ p _ h => hFc p.1 h)
      clear hB hFc hk1
      refine W.widen (k := 4 * mN + 0) (n := 138 * mN + 0) (by omega) (by omega) ?_
      refine lv_aload_n hx hb dX0_splitBy_147 rfl (lv_at hl 0 rfl) ?_
      refine lv_dup hx hb dX0_splitBy_148 rfl ?_
      refine va_get (D := DG G) (ci := 0) (v := .int D.2.1) (C := RX0) (T := TX0) (N := 8) hx hb hts inW_X0 hown hK hP 21 rfl rfl 6 (by decide) (hts _ wm146) (fun _ h9 => h9) rfl dX0_splitBy_149 ?_
      refine lv_iload hx hb dX0_splitBy_152 (lv_at hl 5 rfl) ?_
      refine lv_iadd hx hb dX0_splitBy_154 ?_
      refine va_put (D := DG G) (ci := 0) (v := .int (D.2.1 + v6)) (ty := tyX0 6) (C := RX0) (T := TX0) (N := 8) hx hb hts inW_X0 tyX0 tyX0_ok nmX0 hown hK hP hD hS 21 rfl rfl 6 (by decide) (hts _ wm146) (fun _ h9 => h9) rfl (by decide +kernel) rfl rfl (Nat.le_of_ble_eq_true rfl) dX0_splitBy_155 (fun H locs hP hD hS => ?_)
      have hP : va_P (DG G) clP3 (wX G (a.1, b8) T8 F8 U S (D.1, (D.2.1 + v6), D.2.2) R M N ++ (wP G (a.1, b8) q_8 (Int32.toNatClampNeg D.1) (Int32.toNatClampNeg D.2.1) ++ pend G (a.1, b8) P8 (Int32.toNatClampNeg D.2.1) mN)) H := by rw [← List.append_assoc]; exact hP
      have hD : va_D A (wX G (a.1, b8) T8 F8 U S (D.1, (D.2.1 + v6), D.2.2) R M N ++ (wP G (a.1, b8) q_8 (Int32.toNatClampNeg D.1) (Int32.toNatClampNeg D.2.1) ++ pend G (a.1, b8) P8 (Int32.toNatClampNeg D.2.1) mN)) := by rw [← List.append_assoc]; exact hD
      have hi : (Int32.toNatClampNeg (D.2.1 + v6)) = (Int32.toNatClampNeg D.2.1) + mN := idx_eq h41 hv6 h40
      have hg9 := wC_grow (G := G) (a := (a.1, b8)) (T := T8) (F := F8) (U := U) (S := S) (D := D) (D' := (D.1, (D.2.1 + v6), D.2.2)) (R := R) (M := M) (N := N) (P := P8) (P9 := q_8) rfl hi (pend_congr (fun k hk => splitInto_ne hq_8 _ (by have := gix_lt hv1; omega)))
      rw [hg9] at hP hD
      have hP : va_P (DG G) clP3 (wC G (a.1, b8) T8 F8 U S (D.1, (D.2.1 + v6), D.2.2) R M N q_8) H := hP
      have hD : va_D A (wC G (a.1, b8) T8 F8 U S (D.1, (D.2.1 + v6), D.2.2) R M N q_8) := hD
      refine lv_aload_n hx hb dX0_splitBy_158 rfl (lv_at hl 0 rfl) ?_
      refine va_get (D := DG G) (ci := 0) (v := .ref (a.1 13)) (C := RX0) (T := TX0) (N := 8) hx hb hts inW_X0 hown hK hP 21 rfl rfl 2 (by decide) (hts _ wm141) (fun _ h9 => h9) rfl dX0_splitBy_159 ?_
      refine lv_iload hx hb dX0_splitBy_162 (lv_at hl 3 rfl) ?_
      obtain ⟨q_9, hq_9, hm⟩ := bind_some hm
      have hFc := free_all hD hS hA
      refine va_callv (va_runV (As := [.int v4]) (rest := []) ⟨hx, hb, hml, hown, hts⟩ (K_X7_noteSplit l hfl G (a.1, b8) T8 F8 U S (D.1, (D.2.1 + v6), D.2.2) R M N q_8 v4  q_9 hq_9 H.size) (cwV 1 hts (gV wm1014 wm1015 wm1016 wm4 wm1017) rfl rfl rfl (by decide +kernel) ⟨Nat.le_of_ble_eq_true rfl, Nat.le_of_ble_eq_true rfl⟩) (pre_v (pre_w hK hP hD hS hE hFc) (va_recv hK hP (ci := 6) (q0 := 13) rfl rfl)) rfl rfl hl.1 rfl (lv_room (Nat.le_of_ble_eq_true rfl)) dX0_splitBy_164 ⟨(by show (_ : Nat) ≤ 164; omega), (by show (_ : Nat) ≤ 5658; omega)⟩) hS (fun q _ h => hFc q h) hFc (fun u t H locs ht hvm hw hB hz1 hk1 hS => ?_)
      have hP : va_P (DG G) clP3 (wC G (a.1, b8) T8 F8 U q_9 (D.1, (D.2.1 + v6), D.2.2) R M N q_8) H := by rw [← ht]; exact hB.1
      have hD : va_D A (wC G (a.1, b8) T8 F8 U q_9 (D.1, (D.2.1 + v6), D.2.2) R M N q_8) := hB.2.weaken (fun _ p _ h => hFc p.1 h)
      clear hB hFc hk1
      refine W.widen (k := 4 * mN + 0) (n := 138 * mN + 0) (by omega) (by omega) ?_
      refine lv_iload hx hb dX0_splitBy_167 (lv_at hl 5 rfl) ?_
      simp only [Option.some.injEq, Prod.mk.injEq] at hm
      obtain ⟨rfl, rfl, rfl, rfl, rfl, rfl⟩ := hm
      have hl9 : lkA (a.1, b8) (Int32.toNatClampNeg D.1) (Int32.toNatClampNeg (D.2.1 + v6)) := by rw [hi]; exact hlk8
      refine W.widen (k := 164) (n := 5658) (by omega) (by omega) ?_
      exact W.iret (v := v6) hx hb hr (fun t ht hW => ⟨⟨v6, b8, rfl, rfl, hl9, by rw [ht]; exact hP, by rw [hAe]; exact hD⟩, by rw [hAe]; exact hS.F ht⟩) (by rw [hAe]; exact hS.2.2) dX0_splitBy_169 hlocks
    · rw [if_neg c_7] at hm
      refine lv_aload_n hx hb dX0_splitBy_60 rfl (lv_at hl 0 rfl) ?_
      refine va_get (D := DG G) (ci := 0) (v := .ref (a.1 13)) (C := RX0) (T := TX0) (N := 8) hx hb hts inW_X0 hown hK hP 21 rfl rfl 2 (by decide) (hts _ wm141) (fun _ h9 => h9) rfl dX0_splitBy_61 ?_
      refine lv_iload hx hb dX0_splitBy_64 (lv_at hl 6 rfl) ?_
      obtain ⟨q_10, hq_10, hm⟩ := bind_some hm
      have hFc := free_all hD hS hA
      refine va_calli (va_runV (As := [.int v7]) (rest := []) ⟨hx, hb, hml, hown, hts⟩ (frame_i (List.Perm.refl _) (List.Perm.refl _) (wr := pend G (a.1, b8) P8 (Int32.toNatClampNeg D.2.1) mN) (K_X7_ownerOf l hfl G (a.1, b8) T8 F8 U S D R M N P8 v7  q_10 hq_10 H.size)) (cwV 1 hts (gV wm970 wm971 wm972 wm4 wm973) rfl rfl rfl (by decide +kernel) ⟨Nat.le_of_ble_eq_true rfl, Nat.le_of_ble_eq_true rfl⟩) (pre_v (pre_w hK hP hD hS hE hFc) (va_recv hK hP (ci := 6) (q0 := 13) rfl rfl)) rfl rfl hl.1 rfl (lv_room (Nat.le_of_ble_eq_true rfl)) dX0_splitBy_66 ⟨(by show (_ : Nat) ≤ 164; omega), (by show (_ : Nat) ≤ 5658; omega)⟩) hS (fun q _ h => hFc q h) hFc (fun r u t H locs ht hvm hw hB hz1 hk1 hS => ?_)
      rw [show r = q_10 from hw]
      have hP : va_P (DG G) clP3 ((wC G (a.1, b8) T8 F8 U S D R M N P8) ++ pend G (a.1, b8) P8 (Int32.toNatClampNeg D.2.1) mN) H := by rw [← ht]; exact hB.1
      have hD : va_D A ((wC G (a.1, b8) T8 F8 U S D R M N P8) ++ pend G (a.1, b8) P8 (Int32.toNatClampNeg D.2.1) mN) := hB.2.weaken (fun _ p _ h => hFc p.1 h)
      clear hB hFc hw hk1
      refine W.widen (k := 4 * mN + 0) (n := 138 * mN + 0) (by omega) (by omega) ?_
      refine lv_iload hx hb dX0_splitBy_69 (lv_at hl 3 rfl) ?_
      refine lv_icmp_ne (tgt := 132) hx hb dX0_splitBy_71 (by decide) (fun c_11 => ?_) (fun c_11 => ?_)
      · rw [if_neg c_11] at hm
        refine lv_iinc (v := (v7 + 1)) (lv' := [(7, .int (v7 + 1)), (0, .ref (a.1 21)), (1, .ref ((a.1, b8).2.2.1 (Int32.toNatClampNeg v1) 0)), (2, .int v2), (4, .int v4), (5, .int v5), (6, .int v6)]) hx hb dX0_splitBy_132 hl (k := 6) rfl rfl (by decide) rfl (fun ls hl => ?_)
        refine lv_goto (tgt := 48) hx hb dX0_splitBy_135 (by decide) ?_
        have hl9 : lv_has ls 9 [(0, .ref (a.1 21)), (1, .ref (a.2.2.1 (Int32.toNatClampNeg v1) 0)), (2, .int v2), (4, .int v4), (5, .int v5), (6, .int v6), (7, .int (v7 + 1))] := by rw [← (show ((a.1, b8) : AS).2.2.1 (Int32.toNatClampNeg v1) 0 = a.2.2.1 (Int32.toNatClampNeg v1) 0 from hga)]; exact (lv_sub hl [1, 2, 3, 4, 5, 6, 0] rfl)
        refine W.widen (k := 4 * mN) (n := 138 * mN) (by omega) (by omega) ?_
        exact ih T8 F8 P8 b8 mN v1 v2 v4 v5 v6 (v7 + 1) hv1 hlk8 hv6 h40 hga _ _ hP hD hS _ hl9 hm
      · rw [if_pos c_11] at hm
        refine lv_aload_n hx hb dX0_splitBy_74 rfl (lv_at hl 0 rfl) ?_
        refine va_get (D := DG G) (ci := 0) (v := .int D.2.1) (C := RX0) (T := TX0) (N := 8) hx hb hts inW_X0 hown hK hP 21 rfl rfl 6 (by decide) (hts _ wm146) (fun _ h9 => h9) rfl dX0_splitBy_75 ?_
        refine lv_iload hx hb dX0_splitBy_78 (lv_at hl 5 rfl) ?_
        refine lv_iadd hx hb dX0_splitBy_80 ?_
        refine lv_aload_n hx hb dX0_splitBy_81 rfl (lv_at hl 0 rfl) ?_
        refine va_get (D := DG G) (ci := 0) (v := .ref (a.1 23)) (C := RX0) (T := TX0) (N := 8) hx hb hts inW_X0 hown hK hP 21 rfl rfl 4 (by decide) (hts _ wm143) (fun _ h9 => h9) rfl dX0_splitBy_82 ?_
        refine va_alen (v := 40) hx hb hK hP 23 3 rfl rfl (show Int32.ofNat 40 = 40 from by decide) dX0_splitBy_85 ?_
        refine lv_icmp_ge (tgt := 132) hx hb dX0_splitBy_86 (by decide) (fun c_12 => ?_) (fun c_12 => ?_)
        · rw [if_pos c_12] at hm
          refine lv_iinc (v := (v7 + 1)) (lv' := [(7, .int (v7 + 1)), (0, .ref (a.1 21)), (1, .ref ((a.1, b8).2.2.1 (Int32.toNatClampNeg v1) 0)), (2, .int v2), (4, .int v4), (5, .int v5), (6, .int v6)]) hx hb dX0_splitBy_132 hl (k := 6) rfl rfl (by decide) rfl (fun ls hl => ?_)
          refine lv_goto (tgt := 48) hx hb dX0_splitBy_135 (by decide) ?_
          have hl9 : lv_has ls 9 [(0, .ref (a.1 21)), (1, .ref (a.2.2.1 (Int32.toNatClampNeg v1) 0)), (2, .int v2), (4, .int v4), (5, .int v5), (6, .int v6), (7, .int (v7 + 1))] := by rw [← (show ((a.1, b8) : AS).2.2.1 (Int32.toNatClampNeg v1) 0 = a.2.2.1 (Int32.toNatClampNeg v1) 0 from hga)]; exact (lv_sub hl [1, 2, 3, 4, 5, 6, 0] rfl)
          refine W.widen (k := 4 * mN) (n := 138 * mN) (by omega) (by omega) ?_
          exact ih T8 F8 P8 b8 mN v1 v2 v4 v5 v6 (v7 + 1) hv1 hlk8 hv6 h40 hga _ _ hP hD hS _ hl9 hm
        · rw [if_neg c_12] at hm
          refine lv_aload_n hx hb dX0_splitBy_89 rfl (lv_at hl 0 rfl) ?_
          refine lv_aload_n hx hb dX0_splitBy_90 rfl (lv_at hl 1 rfl) ?_
          refine lv_iload_n hx hb dX0_splitBy_91 rfl (lv_at hl 2 rfl) ?_
          refine lv_iload hx hb dX0_splitBy_92 (lv_at hl 6 rfl) ?_
          obtain ⟨q_13, hq_13, hm⟩ := bind_some hm
          have hFc := free_all hD hS hA
          refine va_callq (va_runV (As := [.ref ((a.1, b8).2.2.1 (Int32.toNatClampNeg v1) 0), .int v2, .int v7]) (rest := []) ⟨hx, hb, hml, hown, hts⟩ (frame_qS (S := Nat × Nat × Nat × Nat) (wr := pend G (a.1, b8) P8 (Int32.toNatClampNeg D.2.1) mN) (X1 := fun u => ((wC G (a.1, b8) q_13.2.1 q_13.2.2.1 U S D R M N P8) ++ (if q_13.1 < 0 then [] else childcells G u q_13.2.2.2)) ++ pend G (a.1, b8) P8 (Int32.toNatClampNeg D.2.1) mN) (List.Perm.refl _) (fun u => List.Perm.refl _) (k_X0_childOf l hfl G (a.1, b8) T8 F8 U S D R M N P8 hlk v1 v2 v7 hv1 q_13.1 q_13.2.1 q_13.2.2.1 q_13.2.2.2 hq_13 H.size)) (cwV 3 hts (gV wm988 wm990 ws_p13 wm5 wm991) rfl rfl rfl (by decide +kernel) ⟨Nat.le_of_ble_eq_true rfl, Nat.le_of_ble_eq_true rfl⟩) (pre_v (pre_w hK hP hD hS hE hFc) (va_recv hK hP (ci := 0) (q0 := 21) rfl rfl)) rfl rfl hl.1 rfl (lv_room (Nat.le_of_ble_eq_true rfl)) dX0_splitBy_94 ⟨(by show (_ : Nat) ≤ 164; omega), (by show (_ : Nat) ≤ 5658; omega)⟩) hS (fun q _ h => hFc q h) hFc (fun r u t H locs ht hvm hw hB hz1 hk1 hS => ?_)
          rw [show r = if q_13.1 < 0 then none else some u.1 from hw]
          refine W.widen (k := 4 * mN + 4) (n := 138 * mN + 138) (by omega) (by omega) ?_
          by_cases c_14 : q_13.1 < 0
          · rw [if_pos c_14] at hm
            rw [if_pos c_14]
            simp only [if_pos c_14, List.append_nil] at hB
            have hP : va_P (DG G) clP3 ((wC G (a.1, b8) q_13.2.1 q_13.2.2.1 U S D R M N P8) ++ pend G (a.1, b8) P8 (Int32.toNatClampNeg D.2.1) mN) H := by rw [← ht]; exact hB.1
            have hD : va_D A ((wC G (a.1, b8) q_13.2.1 q_13.2.2.1 U S D R M N P8) ++ pend G (a.1, b8) P8 (Int32.toNatClampNeg D.2.1) mN) := hB.2.weaken (fun _ p _ h => hFc p.1 h)
            clear hB hFc hw hk1
            refine W.eq (g2 := F0 m 97 ls [.null]) rfl ?_
            refine lv_astoreN (lv' := [(8, .null), (0, .ref (a.1 21)), (1, .ref ((a.1, b8).2.2.1 (Int32.toNatClampNeg v1) 0)), (2, .int v2), (4, .int v4), (5, .int v5), (6, .int v6), (7, .int v7)]) hx hb dX0_splitBy_97 hl (by decide) rfl (fun ls hl => ?_)
            refine lv_aloadN hx hb dX0_splitBy_99 (lv_at hl 0 rfl) ?_
            refine lv_ifnonnullN hx hb dX0_splitBy_101 ?_
            refine lv_aload_n hx hb dX0_splitBy_104 rfl (lv_at hl 1 rfl) ?_
            refine va_get (D := DG G) (ci := 0) (v := .ref (a.1 1)) (C := RX0) (T := TX0) (N := 8) hx hb hts inW_X0 hown hK hP 21 rfl rfl 0 (by decide) (hts _ wm139) (fun _ h9 => h9) rfl dX0_splitBy_105 ?_
            refine lv_iload hx hb dX0_splitBy_108 (lv_at hl 5 rfl) ?_
            obtain ⟨q_15, hq_15, hm⟩ := bind_some hm
            have hFc := free_all hD hS hA
            refine va_callv (va_runV (As := [.int v5]) (rest := []) ⟨hx, hb, hml, hown, hts⟩ (frame_v (List.Perm.refl _) (List.Perm.refl _) (wr := pend G (a.1, b8) P8 (Int32.toNatClampNeg D.2.1) mN) (K_X9_release l hfl G (a.1, b8) q_13.2.1 q_13.2.2.1 U S D R M N P8 v5  q_15 hq_15 H.size)) (cwV 1 hts (gV wm1009 wm509 wm510 wm2 wm511) rfl rfl rfl (by decide +kernel) ⟨Nat.le_of_ble_eq_true rfl, Nat.le_of_ble_eq_true rfl⟩) (pre_v (pre_w hK hP hD hS hE hFc) (va_recv hK hP (ci := 8) (q0 := 1) rfl rfl)) rfl rfl hl.1 rfl (lv_room (Nat.le_of_ble_eq_true rfl)) dX0_splitBy_110 ⟨(by show (_ : Nat) ≤ 164; omega), (by show (_ : Nat) ≤ 5658; omega)⟩) hS (fun q _ h => hFc q h) hFc (fun u t H locs ht hvm hw hB hz1 hk1 hS => ?_)
            have hP : va_P (DG G) clP3 ((wC G (a.1, b8) q_15 q_13.2.2.1 U S D R M N P8) ++ pend G (a.1, b8) P8 (Int32.toNatClampNeg D.2.1) mN) H := by rw [← ht]; exact hB.1
            have hD : va_D A ((wC G (a.1, b8) q_15 q_13.2.2.1 U S D R M N P8) ++ pend G (a.1, b8) P8 (Int32.toNatClampNeg D.2.1) mN) := hB.2.weaken (fun _ p _ h => hFc p.1 h)
            clear hB hFc hk1
            refine W.widen (k := 4 * mN + 4) (n := 138 * mN + 138) (by omega) (by omega) ?_
            refine lv_iconst (v := (-1)) hx hb dX0_splitBy_113 (by decide) ?_
            simp only [Option.some.injEq, Prod.mk.injEq] at hm
            obtain ⟨rfl, rfl, rfl, rfl, rfl, rfl⟩ := hm
            have hP := va_Pleft hP
            have hD := va_Dleft hD
            refine W.widen (k := 164) (n := 5658) (by omega) (by omega) ?_
            exact W.iret (v := (-1)) hx hb hr (fun t ht hW => ⟨⟨(-1), b8, rfl, rfl, hlk, by rw [ht]; exact hP, by rw [hAe]; exact hD⟩, by rw [hAe]; exact hS.F ht⟩) (by rw [hAe]; exact hS.2.2) dX0_splitBy_114 hlocks
          · rw [if_neg c_14] at hm
            rw [if_neg c_14]
            simp only [if_neg c_14] at hB
            have hP : va_P (DG G) clP3 (((wC G (a.1, b8) q_13.2.1 q_13.2.2.1 U S D R M N P8) ++ childcells G u q_13.2.2.2) ++ pend G (a.1, b8) P8 (Int32.toNatClampNeg D.2.1) mN) H := by rw [← ht]; exact hB.1
            have hD : va_D A (((wC G (a.1, b8) q_13.2.1 q_13.2.2.1 U S D R M N P8) ++ childcells G u q_13.2.2.2) ++ pend G (a.1, b8) P8 (Int32.toNatClampNeg D.2.1) mN) := hB.2.weaken (fun _ p _ h => hFc p.1 h)
            clear hB hFc hw hk1
            refine W.eq (g2 := F0 m 97 ls [.ref u.1]) rfl ?_
            refine lv_astore (lv' := [(8, .ref u.1), (0, .ref (a.1 21)), (1, .ref ((a.1, b8).2.2.1 (Int32.toNatClampNeg v1) 0)), (2, .int v2), (4, .int v4), (5, .int v5), (6, .int v6), (7, .int v7)]) hx hb dX0_splitBy_97 hl (by decide) rfl (fun ls hl => ?_)
            refine lv_aload hx hb dX0_splitBy_99 (lv_at hl 0 rfl) ?_
            refine lv_ifnonnull (tgt := 115) hx hb dX0_splitBy_101 (by decide) ?_
            refine lv_aload_n hx hb dX0_splitBy_115 rfl (lv_at hl 1 rfl) ?_
            refine va_get (D := DG G) (ci := 0) (v := .ref (a.1 23)) (C := RX0) (T := TX0) (N := 8) hx hb hts inW_X0 hown hK hP 21 rfl rfl 4 (by decide) (hts _ wm143) (fun _ h9 => h9) rfl dX0_splitBy_116 ?_
            refine lv_aload_n hx hb dX0_splitBy_119 rfl (lv_at hl 1 rfl) ?_
            refine va_get (D := DG G) (ci := 0) (v := .int D.2.1) (C := RX0) (T := TX0) (N := 8) hx hb hts inW_X0 hown hK hP 21 rfl rfl 6 (by decide) (hts _ wm146) (fun _ h9 => h9) rfl dX0_splitBy_120 ?_
            refine lv_iload hx hb dX0_splitBy_123 (lv_at hl 6 rfl) ?_
            refine lv_iadd hx hb dX0_splitBy_125 ?_
            refine lv_aload hx hb dX0_splitBy_126 (lv_at hl 0 rfl) ?_
            obtain ⟨b_16, hm⟩ := ite_some hm
            refine va_astq (r := (RX3, TX3, 8)) hx hb hK hP hD hS 23 3 _ 3 rfl rfl (at_pre (at_tail (j := 3) rfl)) rfl (inb_vp b_16) dX0_splitBy_128 (fun H locs hP hD hS => ?_)
            have hP : va_P (DG G) clP3 ((wX G (a.1, (b8.1, adrG b8 (Int32.toNatClampNeg (D.2.1 + v6)) u, b8.2.2.1, va_up b8.2.2.2 (Int32.toNatClampNeg (D.2.1 + v6)) (some u.1))) q_13.2.1 q_13.2.2.1 U S D R M N ++ (wP G (a.1, b8) P8 (Int32.toNatClampNeg D.1) (Int32.toNatClampNeg D.2.1) ++ childcells G u q_13.2.2.2)) ++ pend G (a.1, b8) P8 (Int32.toNatClampNeg D.2.1) mN) H := by rw [← List.append_assoc (wX G (a.1, (b8.1, adrG b8 (Int32.toNatClampNeg (D.2.1 + v6)) u, b8.2.2.1, va_up b8.2.2.2 (Int32.toNatClampNeg (D.2.1 + v6)) (some u.1))) q_13.2.1 q_13.2.2.1 U S D R M N)]; exact hP
            have hD : va_D A ((wX G (a.1, (b8.1, adrG b8 (Int32.toNatClampNeg (D.2.1 + v6)) u, b8.2.2.1, va_up b8.2.2.2 (Int32.toNatClampNeg (D.2.1 + v6)) (some u.1))) q_13.2.1 q_13.2.2.1 U S D R M N ++ (wP G (a.1, b8) P8 (Int32.toNatClampNeg D.1) (Int32.toNatClampNeg D.2.1) ++ childcells G u q_13.2.2.2)) ++ pend G (a.1, b8) P8 (Int32.toNatClampNeg D.2.1) mN) := by rw [← List.append_assoc (wX G (a.1, (b8.1, adrG b8 (Int32.toNatClampNeg (D.2.1 + v6)) u, b8.2.2.1, va_up b8.2.2.2 (Int32.toNatClampNeg (D.2.1 + v6)) (some u.1))) q_13.2.1 q_13.2.2.1 U S D R M N)]; exact hD
            have hi : (Int32.toNatClampNeg (D.2.1 + v6)) = (Int32.toNatClampNeg D.2.1) + mN := idx_eq h41 hv6 h40
            have hp := pend_push (G := G) (ad := a.1) (b := b8) (b' := (b8.1, adrG b8 (Int32.toNatClampNeg (D.2.1 + v6)) u, b8.2.2.1, va_up b8.2.2.2 (Int32.toNatClampNeg (D.2.1 + v6)) (some u.1))) (T := q_13.2.1) (F := q_13.2.2.1) (U := U) (S := S) (D := D) (R := R) (M := M) (N := N) (P := P8) (Z := q_13.2.2.2) hi rfl rfl
            have hP : va_P (DG G) clP3 ((wC G (a.1, (b8.1, adrG b8 (Int32.toNatClampNeg (D.2.1 + v6)) u, b8.2.2.1, va_up b8.2.2.2 (Int32.toNatClampNeg (D.2.1 + v6)) (some u.1))) q_13.2.1 q_13.2.2.1 U S D R M N (addG P8 (Int32.toNatClampNeg (D.2.1 + v6)) q_13.2.2.2)) ++ pend G (a.1, (b8.1, adrG b8 (Int32.toNatClampNeg (D.2.1 + v6)) u, b8.2.2.1, va_up b8.2.2.2 (Int32.toNatClampNeg (D.2.1 + v6)) (some u.1))) (addG P8 (Int32.toNatClampNeg (D.2.1 + v6)) q_13.2.2.2) (Int32.toNatClampNeg D.2.1) (mN + 1)) H := va_Pmem hP (fun q hq => hp.mem_iff.mpr hq)
            have hD : va_D A ((wC G (a.1, (b8.1, adrG b8 (Int32.toNatClampNeg (D.2.1 + v6)) u, b8.2.2.1, va_up b8.2.2.2 (Int32.toNatClampNeg (D.2.1 + v6)) (some u.1))) q_13.2.1 q_13.2.2.1 U S D R M N (addG P8 (Int32.toNatClampNeg (D.2.1 + v6)) q_13.2.2.2)) ++ pend G (a.1, (b8.1, adrG b8 (Int32.toNatClampNeg (D.2.1 + v6)) u, b8.2.2.1, va_up b8.2.2.2 (Int32.toNatClampNeg (D.2.1 + v6)) (some u.1))) (addG P8 (Int32.toNatClampNeg (D.2.1 + v6)) q_13.2.2.2) (Int32.toNatClampNeg D.2.1) (mN + 1)) := va_Dperm hD hp
            refine lv_iinc (v := (v6 + 1)) (lv' := [(6, .int (v6 + 1)), (8, .ref u.1), (0, .ref (a.1 21)), (1, .ref ((a.1, b8).2.2.1 (Int32.toNatClampNeg v1) 0)), (2, .int v2), (4, .int v4), (5, .int v5), (7, .int v7)]) hx hb dX0_splitBy_129 hl (k := 6) rfl rfl (by decide) rfl (fun ls hl => ?_)
            refine lv_iinc (v := (v7 + 1)) (lv' := [(7, .int (v7 + 1)), (6, .int (v6 + 1)), (8, .ref u.1), (0, .ref (a.1 21)), (1, .ref ((a.1, b8).2.2.1 (Int32.toNatClampNeg v1) 0)), (2, .int v2), (4, .int v4), (5, .int v5)]) hx hb dX0_splitBy_132 hl (k := 7) rfl rfl (by decide) rfl (fun ls hl => ?_)
            refine lv_goto (tgt := 48) hx hb dX0_splitBy_135 (by decide) ?_
            have hl9 : lv_has ls 9 [(0, .ref (a.1 21)), (1, .ref (a.2.2.1 (Int32.toNatClampNeg v1) 0)), (2, .int v2), (4, .int v4), (5, .int v5), (6, .int (v6 + 1)), (7, .int (v7 + 1))] := by rw [← (show ((a.1, b8) : AS).2.2.1 (Int32.toNatClampNeg v1) 0 = a.2.2.1 (Int32.toNatClampNeg v1) 0 from hga)]; exact (lv_sub hl [3, 4, 5, 6, 7, 1, 0] rfl)
            have hlk9 : lkA (a.1, (b8.1, adrG b8 (Int32.toNatClampNeg (D.2.1 + v6)) u, b8.2.2.1, va_up b8.2.2.2 (Int32.toNatClampNeg (D.2.1 + v6)) (some u.1))) (Int32.toNatClampNeg D.1) ((Int32.toNatClampNeg D.2.1) + (mN + 1)) := lk_push (b := b8) (u := u) hi hlk8 rfl rfl rfl rfl
            have h409 : (Int32.toNatClampNeg D.2.1) + (mN + 1) ≤ 40 := by have := inb_cl b_16; omega
            have hga9 : adrG b8 (Int32.toNatClampNeg (D.2.1 + v6)) u (Int32.toNatClampNeg v1) 0 = a.2.2.1 (Int32.toNatClampNeg v1) 0 := by unfold adrG; rw [if_neg (by have := gix_lt hv1; omega)]; exact hga
            exact ih q_13.2.1 q_13.2.2.1 (addG P8 (Int32.toNatClampNeg (D.2.1 + v6)) q_13.2.2.2) (b8.1, adrG b8 (Int32.toNatClampNeg (D.2.1 + v6)) u, b8.2.2.1, va_up b8.2.2.2 (Int32.toNatClampNeg (D.2.1 + v6)) (some u.1)) (mN + 1) v1 v2 v4 v5 (v6 + 1) (v7 + 1) hv1 hlk9 (ofn_succ hv6) h409 hga9 _ _ hP hD hS _ hl9 hm
set_option maxHeartbeats 2000000 in
set_option maxRecDepth 100000 in
theorem k_X0_splitBy (l : Launch) (hfl : l.stackTraces = false) (G : GC) (a : AS) (T : TS) (F : FS) (U : US) (S : SS) (D : DS) (R : RS) (M : MS) (N : NS) (P : PS) (hlk : lkA a D.1.toNatClampNeg D.2.1.toNatClampNeg) (p1 : Int32) (p2 : Int32) (hg_p1 : gix D p1 = true) (r9 : Int32) (T9 : TS) (F9 : FS) (S9 : SS) (D9 : DS) (P9 : PS) (hm : f_X0_splitBy T F S D P p1 p2 = some (r9, T9, F9, S9, D9, P9)) (sz : Nat) : Met l yX0_splitBy (Cond.code yX0_splitBy cX0_splitBy 9 (some .int) :: W0) ({ frames := 407, cells := 164, slots := 5658, locals := 10573 }) (va_Pc [.ref (a.1 21), .ref (a.2.2.1 (Int32.toNatClampNeg p1) 0), .int p2] (WD G (wC G a T F U S D R M N P) sz)) (va_Qi (S := BS) (fun r _ => r = r9) (fun b2 t => lkA (a.1, b2) D9.1.toNatClampNeg D9.2.1.toNatClampNeg ∧ PW G (va_A (wC G a T F U S D R M N P) sz) (wC G (a.1, b2) T9 F9 U S9 D9 R M N P9) t) (va_A (wC G a T F U S D R M N P) sz)) 164 5658 (va_A (wC G a T F U S D R M N P) sz) := by
  rw [f_X0_splitBy] at hm
  refine Met.ofW (cc := cX0_splitBy) (maxL := 9) (ret := (some .int)) (by decide) rfl ?_
  intro p e s m args below meth c s₁ B hml hv
  obtain ⟨rfl, hsz, hP, hK, hD0, hE⟩ := hv
  have hx := B.exec
  have hb := B.bytes
  have hr := B.returns
  have hts := w0_tail B.pre
  have hown : s.vm.findClass RX0 = some m.cls := findClass_of_methodNamed B.named
  have hlocks := B.notSynchronized
  have hD := hD0.self (sz := sz)
  obtain ⟨A, hAe⟩ : ∃ A, (va_A (wC G a T F U S D R M N P) sz) = A := ⟨_, rfl⟩
  rw [hAe] at hD hE
  have hA : ∀ q : Nat, s.heap.size ≤ q → A q := fun q h => by rw [← hAe]; exact Or.inr (by rw [← hsz]; exact h)
  have hS : va_S A s.heap s.heap [] := va_S.rf
  obtain ⟨H, hHe⟩ : ∃ H : Heap, H = s.heap := ⟨_, rfl⟩
  have hP : va_P (DG G) clP3 (wC G a T F U S D R M N P) H := by rw [hHe]; exact hP
  have hS : va_S A s.heap H [] := by rw [hHe]; exact hS
  have hl := lv_entry ([.ref (a.1 21), .ref (a.2.2.1 (Int32.toNatClampNeg p1) 0), .int p2]) (n := 9) (Nat.le_of_ble_eq_true rfl)
  rw [lg_entry_eq, ← hHe]
  generalize (lg_sl ([.ref (a.1 21), .ref (a.2.2.1 (Int32.toNatClampNeg p1) 0), .int p2]) ++ List.replicate (9 - (lg_sl ([.ref (a.1 21), .ref (a.2.2.1 (Int32.toNatClampNeg p1) 0), .int p2])).length) Slot.unset).toArray = ls at hl ⊢
  have hl : lv_has ls 9 [(0, .ref (a.1 21)), (1, .ref (a.2.2.1 (Int32.toNatClampNeg p1) 0)), (2, .int p2)] := hl
  refine lv_aload_n hx hb dX0_splitBy_0 rfl (lv_at hl 1 rfl) ?_
  refine va_getN (D := DG G) (ci := 3) (v := .ref (a.2.2.1 (Int32.toNatClampNeg p1) 1)) (C := RX3) (T := TX3) (N := 8) hx hb hts inW_X3 hown hK hP _ ((at_goalC (c := 0) (gix_lt hg_p1) (by decide)).trans rfl) rfl 1 (by decide) (va_Nw.use rfl (hE.1 _ nw909)) (fun _ h9 => h9) rfl dX0_splitBy_1 ?_
  refine lv_iload_n hx hb dX0_splitBy_4 rfl (lv_at hl 2 rfl) ?_
  obtain ⟨q_1, hq_1, hm⟩ := bind_some hm
  have hFc := free_all hD hS hA
  refine va_calli (va_runV (As := [.int p2]) (rest := []) ⟨hx, hb, hml, hown, hts⟩ (K_X8_typeAt_g l hfl G a T F U S D R M N P p1 p2 hg_p1 q_1 hq_1 H.size) (cwV 1 hts (gV wm969 wm445 wm446 wm7 wm447) rfl rfl rfl (by decide +kernel) ⟨Nat.le_of_ble_eq_true rfl, Nat.le_of_ble_eq_true rfl⟩) (pre_v (pre_w hK hP hD hS hE hFc) (va_recv hK hP (ci := 7) (q0 := _) rfl ((at_goalC (c := 1) (gix_lt hg_p1) (by decide)).trans rfl))) rfl rfl hl.1 rfl (lv_room (Nat.le_of_ble_eq_true rfl)) dX0_splitBy_5 ⟨Nat.le_of_ble_eq_true rfl, Nat.le_of_ble_eq_true rfl⟩) hS (fun q _ h => hFc q h) hFc (fun r u t H locs ht hvm hw hB hz1 hk1 hS => ?_)
  rw [show r = q_1 from hw]
  have hP : va_P (DG G) clP3 (wC G a T F U S D R M N P) H := by rw [← ht]; exact hB.1
  have hD : va_D A (wC G a T F U S D R M N P) := hB.2.weaken (fun _ p _ h => hFc p.1 h)
  clear hB hFc hw hk1
  refine W.widen (k := 0) (n := 0) (Nat.le_of_ble_eq_true rfl) (Nat.le_of_ble_eq_true rfl) ?_
  refine lv_istore_n (lv' := [(3, .int q_1), (0, .ref (a.1 21)), (1, .ref (a.2.2.1 (Int32.toNatClampNeg p1) 0)), (2, .int p2)]) hx hb dX0_splitBy_8 rfl hl (by decide) rfl (fun ls hl => ?_)
  refine lv_aload_n hx hb dX0_splitBy_9 rfl (lv_at hl 1 rfl) ?_
  refine va_get (D := DG G) (ci := 0) (v := .ref (a.1 1)) (C := RX0) (T := TX0) (N := 8) hx hb hts inW_X0 hown hK hP 21 rfl rfl 0 (by decide) (hts _ wm139) (fun _ h9 => h9) rfl dX0_splitBy_10 ?_
  refine lv_iload_n hx hb dX0_splitBy_13 rfl (lv_at hl 0 rfl) ?_
  obtain ⟨q_2, hq_2, hm⟩ := bind_some hm
  have hFc := free_all hD hS hA
  refine va_calli (va_runV (As := [.int q_1]) (rest := []) ⟨hx, hb, hml, hown, hts⟩ (K_X9_kindOf l hfl G a T F U S D R M N P q_1  q_2 hq_2 H.size) (cwV 1 hts (gV wm866 wm435 wm436 wm2 wm437) rfl rfl rfl (by decide +kernel) ⟨Nat.le_of_ble_eq_true rfl, Nat.le_of_ble_eq_true rfl⟩) (pre_v (pre_w hK hP hD hS hE hFc) (va_recv hK hP (ci := 8) (q0 := 1) rfl rfl)) rfl rfl hl.1 rfl (lv_room (Nat.le_of_ble_eq_true rfl)) dX0_splitBy_14 ⟨Nat.le_of_ble_eq_true rfl, Nat.le_of_ble_eq_true rfl⟩) hS (fun q _ h => hFc q h) hFc (fun r u t H locs ht hvm hw hB hz1 hk1 hS => ?_)
  rw [show r = q_2 from hw]
  have hP : va_P (DG G) clP3 (wC G a T F U S D R M N P) H := by rw [← ht]; exact hB.1
  have hD : va_D A (wC G a T F U S D R M N P) := hB.2.weaken (fun _ p _ h => hFc p.1 h)
  clear hB hFc hw hk1
  refine W.widen (k := 0) (n := 0) (Nat.le_of_ble_eq_true rfl) (Nat.le_of_ble_eq_true rfl) ?_
  refine lv_iconst (v := 2) hx hb dX0_splitBy_17 (by decide) ?_
  refine lv_icmp_eq (tgt := 23) hx hb dX0_splitBy_18 (by decide) (fun c_3 => ?_) (fun c_3 => ?_)
  · rw [if_pos c_3] at hm
    refine lv_aload_n hx hb dX0_splitBy_23 rfl (lv_at hl 1 rfl) ?_
    refine va_get (D := DG G) (ci := 0) (v := .ref (a.1 1)) (C := RX0) (T := TX0) (N := 8) hx hb hts inW_X0 hown hK hP 21 rfl rfl 0 (by decide) (hts _ wm139) (fun _ h9 => h9) rfl dX0_splitBy_24 ?_
    refine lv_iload_n hx hb dX0_splitBy_27 rfl (lv_at hl 0 rfl) ?_
    obtain ⟨q_4, hq_4, hm⟩ := bind_some hm
    have hFc := free_all hD hS hA
    refine va_calli (va_runV (As := [.int q_1]) (rest := []) ⟨hx, hb, hml, hown, hts⟩ (K_X9_firstOf l hfl G a T F U S D R M N P q_1  q_4 hq_4 H.size) (cwV 1 hts (gV wm876 wm431 wm432 wm2 wm433) rfl rfl rfl (by decide +kernel) ⟨Nat.le_of_ble_eq_true rfl, Nat.le_of_ble_eq_true rfl⟩) (pre_v (pre_w hK hP hD hS hE hFc) (va_recv hK hP (ci := 8) (q0 := 1) rfl rfl)) rfl rfl hl.1 rfl (lv_room (Nat.le_of_ble_eq_true rfl)) dX0_splitBy_28 ⟨Nat.le_of_ble_eq_true rfl, Nat.le_of_ble_eq_true rfl⟩) hS (fun q _ h => hFc q h) hFc (fun r u t H locs ht hvm hw hB hz1 hk1 hS => ?_)
    rw [show r = q_4 from hw]
    have hP : va_P (DG G) clP3 (wC G a T F U S D R M N P) H := by rw [← ht]; exact hB.1
    have hD : va_D A (wC G a T F U S D R M N P) := hB.2.weaken (fun _ p _ h => hFc p.1 h)
    clear hB hFc hw hk1
    refine W.widen (k := 0) (n := 0) (Nat.le_of_ble_eq_true rfl) (Nat.le_of_ble_eq_true rfl) ?_
    refine lv_istore (lv' := [(4, .int q_4), (3, .int q_1), (0, .ref (a.1 21)), (1, .ref (a.2.2.1 (Int32.toNatClampNeg p1) 0)), (2, .int p2)]) hx hb dX0_splitBy_31 hl (by decide) rfl (fun ls hl => ?_)
    refine lv_aload_n hx hb dX0_splitBy_33 rfl (lv_at hl 2 rfl) ?_
    refine va_get (D := DG G) (ci := 0) (v := .ref (a.1 1)) (C := RX0) (T := TX0) (N := 8) hx hb hts inW_X0 hown hK hP 21 rfl rfl 0 (by decide) (hts _ wm139) (fun _ h9 => h9) rfl dX0_splitBy_34 ?_
    obtain ⟨q_5, hq_5, hm⟩ := bind_some hm
    have hFc := free_all hD hS hA
    refine va_calli (va_runV (As := []) (rest := []) ⟨hx, hb, hml, hown, hts⟩ (K_X9_mark l hfl G a T F U S D R M N P   q_5 hq_5 H.size) (cwV 0 hts (gV wm987 wm411 wm412 wm2 wm413) rfl rfl rfl (by decide +kernel) ⟨Nat.le_of_ble_eq_true rfl, Nat.le_of_ble_eq_true rfl⟩) (pre_v (pre_w hK hP hD hS hE hFc) (va_recv hK hP (ci := 8) (q0 := 1) rfl rfl)) rfl rfl hl.1 rfl (lv_room (Nat.le_of_ble_eq_true rfl)) dX0_splitBy_37 ⟨Nat.le_of_ble_eq_true rfl, Nat.le_of_ble_eq_true rfl⟩) hS (fun q _ h => hFc q h) hFc (fun r u t H locs ht hvm hw hB hz1 hk1 hS => ?_)
    rw [show r = q_5 from hw]
    have hP : va_P (DG G) clP3 (wC G a T F U S D R M N P) H := by rw [← ht]; exact hB.1
    have hD : va_D A (wC G a T F U S D R M N P) := hB.2.weaken (fun _ p _ h => hFc p.1 h)
    clear hB hFc hw hk1
    refine W.widen (k := 0) (n := 0) (Nat.le_of_ble_eq_true rfl) (Nat.le_of_ble_eq_true rfl) ?_
    refine lv_istore (lv' := [(5, .int q_5), (4, .int q_4), (3, .int q_1), (0, .ref (a.1 21)), (1, .ref (a.2.2.1 (Int32.toNatClampNeg p1) 0)), (2, .int p2)]) hx hb dX0_splitBy_40 hl (by decide) rfl (fun ls hl => ?_)
    refine lv_iconst (v := 0) hx hb dX0_splitBy_42 (by decide) ?_
    refine lv_istore (lv' := [(6, .int 0), (5, .int q_5), (4, .int q_4), (3, .int q_1), (0, .ref (a.1 21)), (1, .ref (a.2.2.1 (Int32.toNatClampNeg p1) 0)), (2, .int p2)]) hx hb dX0_splitBy_43 hl (by decide) rfl (fun ls hl => ?_)
    refine lv_iconst (v := 0) hx hb dX0_splitBy_45 (by decide) ?_
    refine lv_istore (lv' := [(7, .int 0), (6, .int 0), (5, .int q_5), (4, .int q_4), (3, .int q_1), (0, .ref (a.1 21)), (1, .ref (a.2.2.1 (Int32.toNatClampNeg p1) 0)), (2, .int p2)]) hx hb dX0_splitBy_46 hl (by decide) rfl (fun ls hl => ?_)
    have hP : va_P (DG G) clP3 (wC G (a.1, a.2) T F U S D R M N P ++ pend G (a.1, a.2) P (Int32.toNatClampNeg D.2.1) 0) H := by rw [show pend G (a.1, a.2) P (Int32.toNatClampNeg D.2.1) 0 = [] from rfl, List.append_nil]; exact hP
    have hD : va_D A (wC G (a.1, a.2) T F U S D R M N P ++ pend G (a.1, a.2) P (Int32.toNatClampNeg D.2.1) 0) := by rw [show pend G (a.1, a.2) P (Int32.toNatClampNeg D.2.1) 0 = [] from rfl, List.append_nil]; exact hD
    obtain ⟨b_6, hm⟩ := ite_some hm
    exact kl_X0_splitBy_48 hfl hx hb hr hml hown hts hlocks hAe hA hE hK r9 T9 F9 S9 D9 P9 b_6 100000 T F P a.2 0 p1 p2 q_4 q_5 0 0 hg_p1 hlk (by decide) (by have := inb_cl b_6; omega) rfl _ _ hP hD hS _ (lv_sub hl [5, 6, 7, 3, 2, 1, 0] rfl) hm
  · rw [if_neg c_3] at hm
    refine lv_iconst (v := (-1)) hx hb dX0_splitBy_21 (by decide) ?_
    simp only [Option.some.injEq, Prod.mk.injEq] at hm
    obtain ⟨rfl, rfl, rfl, rfl, rfl, rfl⟩ := hm
    refine W.widen (k := 164) (n := 5658) (by omega) (by omega) ?_
    exact W.iret (v := (-1)) hx hb hr (fun t ht hW => ⟨⟨(-1), a.2, rfl, rfl, hlk, by rw [ht]; exact hP, by rw [hAe]; exact hD⟩, by rw [hAe]; exact hS.F ht⟩) (by rw [hAe]; exact hS.2.2) dX0_splitBy_22 hlocks
