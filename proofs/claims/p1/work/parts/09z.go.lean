set_option maxHeartbeats 4000000 in
set_option maxRecDepth 100000 in
theorem law_go {p : Program} {e : Env} {s : State} {m : MethodId} {below : List Frame} {meth : Method} {c : Code} {l : Launch} (hfl : l.stackTraces = false) {G : GC} {b : Nat} {xs : Nat → Int32} {A : Nat → Prop} (hx : p.tables.exec = Jvm.exec) (hb : c.code = code) (hr : meth.sig.returnType = ret) (hml : c.maxLocals = 9) (hown : s.vm.findClass RL = some m.cls) (hts : ∀ w ∈ W0, w.before #[Value.ref b] s = true) (hX : va_X b 6 xs s s.heap) (hbl : b < s.heap.size) (hlocks : meth.locks = false) (hA : ∀ q : Nat, s.heap.size ≤ q → A q) (hA2 : ∀ q : Nat, A q → s.heap.size ≤ q) (hbA : ¬ A b) (hE : EV G A s s.heap) (hK : va_K (DG G) clP1 (TY G) s) {x0 : Nat} {t1 : Nat} {f1 : Nat} {s1 : Nat} {d1 : Nat} {y1 : Nat} {g1 : Nat} {m1 : Nat} {n1 : Nat} {ta0 : Nat} {ta1 : Nat} {ta2 : Nat} {ta3 : Nat} {ta4 : Nat} {ta5 : Nat} {ta6 : Nat} {ta7 : Nat} {ta8 : Nat} {sf0 : Nat} {sf1 : Nat} {sf2 : Nat} {sf3 : Nat} {sf4 : Nat} {sf5 : Nat} {sf6 : Nat} {sf7 : Nat} {df0 : Nat} {df1 : Nat} {df2 : Nat} {df3 : Nat} {df4 : Nat} {m0 : Nat} {mn : Nat} {mb : Nat} {mc : Nat} {mf : Nat} {mg : Nat} {o1 : Nat} {o2 : Nat} {H : Heap} {locs : List Loc} {ls : Array Slot} (hP : va_P (DG G) clP1 [(x0, .inr (10, [.ref t1, .ref f1, .ref s1, .ref d1, .ref y1, .ref g1, .ref m1, .ref n1, .int 0, .long 0])), (t1, .inr (8, [.ref ta0, .ref ta1, .ref ta2, .ref ta3, .ref ta4, .ref ta5, .ref ta6, .ref ta7, .ref ta8, .int 0])), (ta0, .inl (cyA G 0, 32768, .inl (fun _ => 0))), (ta1, .inl (cyA G 0, 32768, .inl (fun _ => 0))), (ta2, .inl (cyA G 0, 32768, .inl (fun _ => 0))), (ta3, .inl (cyA G 0, 32768, .inl (fun _ => 0))), (ta4, .inl (cyA G 0, 32768, .inl (fun _ => 0))), (ta5, .inl (cyA G 0, 32768, .inl (fun _ => 0))), (ta6, .inl (cyA G 0, 32768, .inl (fun _ => 0))), (ta7, .inl (cyA G 1, 32768, .inl (fun _ => 0))), (s1, .inr (6, [.ref sf0, .ref sf1, .ref sf2, .ref sf3, .ref sf4, .ref sf5, .ref sf6, .ref sf7, .int 0, .int 0])), (d1, .inr (2, [.ref df0, .ref df1, .ref df2, .ref df3, .ref df4, .int 0, .int 0, .int 0])), (n1, .inl (cyA G 0, 250, .inl (fun _ => 0))), (m0, .inr (12, [.int 0, .ref mn, .int 0, .ref mb, .ref mc, .ref mf, .ref mg, .long 0, .int 0])), (mn, .inr (1, [.int 0, .ref (aE G), .int 0])), (mc, .inr (1, [.int 0, .ref (aE G), .int 0])), (mf, .inr (1, [.int 0, .ref (aE G), .int 0])), (mg, .inr (1, [.int 0, .ref (aE G), .int 0])), (o1, .inl (cyA G 2, 1, .inr (.inl (fun _ => 0)))), (o2, .inl (cyA G 3, 1, .inr (.inr (.inr (.inl (fun _ => 0))))))] H) (hD : va_D A [(x0, .inr (10, [.ref t1, .ref f1, .ref s1, .ref d1, .ref y1, .ref g1, .ref m1, .ref n1, .int 0, .long 0])), (t1, .inr (8, [.ref ta0, .ref ta1, .ref ta2, .ref ta3, .ref ta4, .ref ta5, .ref ta6, .ref ta7, .ref ta8, .int 0])), (ta0, .inl (cyA G 0, 32768, .inl (fun _ => 0))), (ta1, .inl (cyA G 0, 32768, .inl (fun _ => 0))), (ta2, .inl (cyA G 0, 32768, .inl (fun _ => 0))), (ta3, .inl (cyA G 0, 32768, .inl (fun _ => 0))), (ta4, .inl (cyA G 0, 32768, .inl (fun _ => 0))), (ta5, .inl (cyA G 0, 32768, .inl (fun _ => 0))), (ta6, .inl (cyA G 0, 32768, .inl (fun _ => 0))), (ta7, .inl (cyA G 1, 32768, .inl (fun _ => 0))), (s1, .inr (6, [.ref sf0, .ref sf1, .ref sf2, .ref sf3, .ref sf4, .ref sf5, .ref sf6, .ref sf7, .int 0, .int 0])), (d1, .inr (2, [.ref df0, .ref df1, .ref df2, .ref df3, .ref df4, .int 0, .int 0, .int 0])), (n1, .inl (cyA G 0, 250, .inl (fun _ => 0))), (m0, .inr (12, [.int 0, .ref mn, .int 0, .ref mb, .ref mc, .ref mf, .ref mg, .long 0, .int 0])), (mn, .inr (1, [.int 0, .ref (aE G), .int 0])), (mc, .inr (1, [.int 0, .ref (aE G), .int 0])), (mf, .inr (1, [.int 0, .ref (aE G), .int 0])), (mg, .inr (1, [.int 0, .ref (aE G), .int 0])), (o1, .inl (cyA G 2, 1, .inr (.inl (fun _ => 0)))), (o2, .inl (cyA G 3, 1, .inr (.inr (.inr (.inl (fun _ => 0))))))]) (hS : va_S A s.heap H locs) (hl : lv_has ls 9 [(5, .int 0), (4, .ref o2), (3, .ref o1), (2, .ref m0), (1, .ref x0), (0, .ref b)]) : W p l e room_1 s m #[Value.ref b] below meth c H locs 45 304170 (lw_Z below #[Value.ref b] s) (F0 m 28 ls []) := by
  refine lv_iload hx hb dL_law_28 (lv_at hl 0 rfl) ?_
  refine lv_aload_n hx hb dL_law_30 rfl (lv_at hl 5 rfl) ?_
  refine va_slen hx hb hX hbl hbA hS dL_law_31 ?_
  refine W.eq (g2 := F0 m 32 ls [.int 6, .int 0]) rfl ?_
  refine lv_bipush (v := 6) hx hb dL_law_32 (by decide) ?_
  refine lv_isub hx hb dL_law_34 ?_
  refine lv_topi (fun z_1 ez_1 => ?_)
  obtain rfl : z_1 = 0 := ez_1.trans (by decide)
  refine lv_icmp_gt (tgt := 2294) hx hb dL_law_35 (by decide) (fun c => absurd c (by decide)) (fun _ => ?_)
  refine lv_aload_n hx hb dL_law_38 rfl (lv_at hl 5 rfl) ?_
  refine lv_iload hx hb dL_law_39 (lv_at hl 0 rfl) ?_
  refine va_sld hx hb hX hbl hbA hS (show ¬ ((0 : Int32) < 0 ∨ 6 ≤ Int32.toNatClampNeg 0) from by decide) dL_law_41 ?_
  refine W.eq (g2 := F0 m 42 ls [.int (xs 0)]) rfl ?_
  refine lv_bipush (v := 63) hx hb dL_law_42 (by decide) ?_
  refine lv_iand hx hb dL_law_44 ?_
  refine lv_topi (fun z_2 ez_2 => ?_)
  by_cases h0 : z_2 = 0
  · subst h0
    refine lv_tableIn (off := 159) (tgt := 204) hx hb dL_law_45 (by decide) (by decide) (by decide) (by decide) ?_
    exact law_case0 hfl hx hb hr hml hown hts hX hbl hlocks hA hA2 hbA hE hK hP hD hS hl
  by_cases h1 : z_2 = 1
  · subst h1
    refine lv_tableIn (off := 215) (tgt := 260) hx hb dL_law_45 (by decide) (by decide) (by decide) (by decide) ?_
    exact law_case1 hfl hx hb hr hml hown hts hX hbl hlocks hA hA2 hbA hE hK hP hD hS hl
  by_cases h2 : z_2 = 2
  · subst h2
    refine lv_tableIn (off := 271) (tgt := 316) hx hb dL_law_45 (by decide) (by decide) (by decide) (by decide) ?_
    exact law_case2 hfl hx hb hr hml hown hts hX hbl hlocks hA hA2 hbA hE hK hP hD hS hl
  by_cases h3 : z_2 = 3
  · subst h3
    refine lv_tableIn (off := 339) (tgt := 384) hx hb dL_law_45 (by decide) (by decide) (by decide) (by decide) ?_
    exact law_case3 hfl hx hb hr hml hown hts hX hbl hlocks hA hA2 hbA hE hK hP hD hS hl
  by_cases h4 : z_2 = 4
  · subst h4
    refine lv_tableIn (off := 407) (tgt := 452) hx hb dL_law_45 (by decide) (by decide) (by decide) (by decide) ?_
    exact law_case4 hfl hx hb hr hml hown hts hX hbl hlocks hA hA2 hbA hE hK hP hD hS hl
  by_cases h5 : z_2 = 5
  · subst h5
    refine lv_tableIn (off := 475) (tgt := 520) hx hb dL_law_45 (by decide) (by decide) (by decide) (by decide) ?_
    exact law_case5 hfl hx hb hr hml hown hts hX hbl hlocks hA hA2 hbA hE hK hP hD hS hl
  by_cases h6 : z_2 = 6
  · subst h6
    refine lv_tableIn (off := 531) (tgt := 576) hx hb dL_law_45 (by decide) (by decide) (by decide) (by decide) ?_
    exact law_case6 hfl hx hb hr hml hown hts hX hbl hlocks hA hA2 hbA hE hK hP hD hS hl
  by_cases h7 : z_2 = 7
  · subst h7
    refine lv_tableIn (off := 587) (tgt := 632) hx hb dL_law_45 (by decide) (by decide) (by decide) (by decide) ?_
    exact law_case7 hfl hx hb hr hml hown hts hX hbl hlocks hA hA2 hbA hE hK hP hD hS hl
  by_cases h8 : z_2 = 8
  · subst h8
    refine lv_tableIn (off := 643) (tgt := 688) hx hb dL_law_45 (by decide) (by decide) (by decide) (by decide) ?_
    exact law_case8 hfl hx hb hr hml hown hts hX hbl hlocks hA hA2 hbA hE hK hP hD hS hl
  by_cases h9 : z_2 = 9
  · subst h9
    refine lv_tableIn (off := 687) (tgt := 732) hx hb dL_law_45 (by decide) (by decide) (by decide) (by decide) ?_
    exact law_case9 hfl hx hb hr hml hown hts hX hbl hlocks hA hA2 hbA hE hK hP hD hS hl
  by_cases h10 : z_2 = 10
  · subst h10
    refine lv_tableIn (off := 791) (tgt := 836) hx hb dL_law_45 (by decide) (by decide) (by decide) (by decide) ?_
    exact law_case10 hfl hx hb hr hml hown hts hX hbl hlocks hA hA2 hbA hE hK hP hD hS hl
  by_cases h11 : z_2 = 11
  · subst h11
    refine lv_tableIn (off := 847) (tgt := 892) hx hb dL_law_45 (by decide) (by decide) (by decide) (by decide) ?_
    exact law_case11 hfl hx hb hr hml hown hts hX hbl hlocks hA hA2 hbA hE hK hP hD hS hl
  by_cases h12 : z_2 = 12
  · subst h12
    refine lv_tableIn (off := 903) (tgt := 948) hx hb dL_law_45 (by decide) (by decide) (by decide) (by decide) ?_
    exact law_case12 hfl hx hb hr hml hown hts hX hbl hlocks hA hA2 hbA hE hK hP hD hS hl
  by_cases h13 : z_2 = 13
  · subst h13
    refine lv_tableIn (off := 959) (tgt := 1004) hx hb dL_law_45 (by decide) (by decide) (by decide) (by decide) ?_
    exact law_case13 hfl hx hb hr hml hown hts hX hbl hlocks hA hA2 hbA hE hK hP hD hS hl
  by_cases h14 : z_2 = 14
  · subst h14
    refine lv_tableIn (off := 1015) (tgt := 1060) hx hb dL_law_45 (by decide) (by decide) (by decide) (by decide) ?_
    exact law_case14 hfl hx hb hr hml hown hts hX hbl hlocks hA hA2 hbA hE hK hP hD hS hl
  by_cases h15 : z_2 = 15
  · subst h15
    refine lv_tableIn (off := 1071) (tgt := 1116) hx hb dL_law_45 (by decide) (by decide) (by decide) (by decide) ?_
    exact law_case15 hfl hx hb hr hml hown hts hX hbl hlocks hA hA2 hbA hE hK hP hD hS hl
  by_cases h16 : z_2 = 16
  · subst h16
    refine lv_tableIn (off := 1146) (tgt := 1191) hx hb dL_law_45 (by decide) (by decide) (by decide) (by decide) ?_
    exact law_case16 hfl hx hb hr hml hown hts hX hbl hlocks hA hA2 hbA hE hK hP hD hS hl
  by_cases h17 : z_2 = 17
  · subst h17
    refine lv_tableIn (off := 1202) (tgt := 1247) hx hb dL_law_45 (by decide) (by decide) (by decide) (by decide) ?_
    exact law_case17 hfl hx hb hr hml hown hts hX hbl hlocks hA hA2 hbA hE hK hP hD hS hl
  by_cases h18 : z_2 = 18
  · subst h18
    refine lv_tableIn (off := 1270) (tgt := 1315) hx hb dL_law_45 (by decide) (by decide) (by decide) (by decide) ?_
    exact law_case18 hfl hx hb hr hml hown hts hX hbl hlocks hA hA2 hbA hE hK hP hD hS hl
  by_cases h19 : z_2 = 19
  · subst h19
    refine lv_tableIn (off := 1338) (tgt := 1383) hx hb dL_law_45 (by decide) (by decide) (by decide) (by decide) ?_
    exact law_case19 hfl hx hb hr hml hown hts hX hbl hlocks hA hA2 hbA hE hK hP hD hS hl
  by_cases h20 : z_2 = 20
  · subst h20
    refine lv_tableIn (off := 1394) (tgt := 1439) hx hb dL_law_45 (by decide) (by decide) (by decide) (by decide) ?_
    exact law_case20 hfl hx hb hr hml hown hts hX hbl hlocks hA hA2 hbA hE hK hP hD hS hl
  by_cases h21 : z_2 = 21
  · subst h21
    refine lv_tableIn (off := 1450) (tgt := 1495) hx hb dL_law_45 (by decide) (by decide) (by decide) (by decide) ?_
    exact law_case21 hfl hx hb hr hml hown hts hX hbl hlocks hA hA2 hbA hE hK hP hD hS hl
  by_cases h22 : z_2 = 22
  · subst h22
    refine lv_tableIn (off := 1506) (tgt := 1551) hx hb dL_law_45 (by decide) (by decide) (by decide) (by decide) ?_
    exact law_case22 hfl hx hb hr hml hown hts hX hbl hlocks hA hA2 hbA hE hK hP hD hS hl
  by_cases h23 : z_2 = 23
  · subst h23
    refine lv_tableIn (off := 1562) (tgt := 1607) hx hb dL_law_45 (by decide) (by decide) (by decide) (by decide) ?_
    exact law_case23 hfl hx hb hr hml hown hts hX hbl hlocks hA hA2 hbA hE hK hP hD hS hl
  by_cases h24 : z_2 = 24
  · subst h24
    refine lv_tableIn (off := 1630) (tgt := 1675) hx hb dL_law_45 (by decide) (by decide) (by decide) (by decide) ?_
    exact law_case24 hfl hx hb hr hml hown hts hX hbl hlocks hA hA2 hbA hE hK hP hD hS hl
  by_cases h25 : z_2 = 25
  · subst h25
    refine lv_tableIn (off := 1686) (tgt := 1731) hx hb dL_law_45 (by decide) (by decide) (by decide) (by decide) ?_
    exact law_case25 hfl hx hb hr hml hown hts hX hbl hlocks hA hA2 hbA hE hK hP hD hS hl
  by_cases h26 : z_2 = 26
  · subst h26
    refine lv_tableIn (off := 1742) (tgt := 1787) hx hb dL_law_45 (by decide) (by decide) (by decide) (by decide) ?_
    exact law_case26 hfl hx hb hr hml hown hts hX hbl hlocks hA hA2 hbA hE hK hP hD hS hl
  by_cases h27 : z_2 = 27
  · subst h27
    refine lv_tableIn (off := 1798) (tgt := 1843) hx hb dL_law_45 (by decide) (by decide) (by decide) (by decide) ?_
    exact law_case27 hfl hx hb hr hml hown hts hX hbl hlocks hA hA2 hbA hE hK hP hD hS hl
  by_cases h28 : z_2 = 28
  · subst h28
    refine lv_tableIn (off := 1861) (tgt := 1906) hx hb dL_law_45 (by decide) (by decide) (by decide) (by decide) ?_
    exact law_case28 hfl hx hb hr hml hown hts hX hbl hlocks hA hA2 hbA hE hK hP hD hS hl
  by_cases h29 : z_2 = 29
  · subst h29
    refine lv_tableIn (off := 1917) (tgt := 1962) hx hb dL_law_45 (by decide) (by decide) (by decide) (by decide) ?_
    exact law_case29 hfl hx hb hr hml hown hts hX hbl hlocks hA hA2 hbA hE hK hP hD hS hl
  by_cases h30 : z_2 = 30
  · subst h30
    refine lv_tableIn (off := 1973) (tgt := 2018) hx hb dL_law_45 (by decide) (by decide) (by decide) (by decide) ?_
    exact law_case30 hfl hx hb hr hml hown hts hX hbl hlocks hA hA2 hbA hE hK hP hD hS hl
  by_cases h31 : z_2 = 31
  · subst h31
    refine lv_tableIn (off := 2029) (tgt := 2074) hx hb dL_law_45 (by decide) (by decide) (by decide) (by decide) ?_
    exact law_case31 hfl hx hb hr hml hown hts hX hbl hlocks hA hA2 hbA hE hK hP hD hS hl
  by_cases h32 : z_2 = 32
  · subst h32
    refine lv_tableIn (off := 2085) (tgt := 2130) hx hb dL_law_45 (by decide) (by decide) (by decide) (by decide) ?_
    exact law_case32 hfl hx hb hr hml hown hts hX hbl hlocks hA hA2 hbA hE hK hP hD hS hl
  by_cases h33 : z_2 = 33
  · subst h33
    refine lv_tableIn (off := 2099) (tgt := 2144) hx hb dL_law_45 (by decide) (by decide) (by decide) (by decide) ?_
    exact law_case33 hfl hx hb hr hml hown hts hX hbl hlocks hA hA2 hbA hE hK hP hD hS hl
  by_cases h34 : z_2 = 34
  · subst h34
    refine lv_tableIn (off := 2165) (tgt := 2210) hx hb dL_law_45 (by decide) (by decide) (by decide) (by decide) ?_
    exact law_case34 hfl hx hb hr hml hown hts hX hbl hlocks hA hA2 hbA hE hK hP hD hS hl
  by_cases h35 : z_2 = 35
  · subst h35
    refine lv_tableIn (off := 2230) (tgt := 2275) hx hb dL_law_45 (by decide) (by decide) (by decide) (by decide) ?_
    exact law_case35 hfl hx hb hr hml hown hts hX hbl hlocks hA hA2 hbA hE hK hP hD hS hl
  refine lv_tableOut (tgt := 2288) hx hb dL_law_45 ?_ (by decide) ?_
  · have hz : 0 ≤ z_2.toInt ∧ z_2.toInt ≤ 63 := ez_2 ▸ and63 _
    have g0 := i_ne h0
    have g1 := i_ne h1
    have g2 := i_ne h2
    have g3 := i_ne h3
    have g4 := i_ne h4
    have g5 := i_ne h5
    have g6 := i_ne h6
    have g7 := i_ne h7
    have g8 := i_ne h8
    have g9 := i_ne h9
    have g10 := i_ne h10
    have g11 := i_ne h11
    have g12 := i_ne h12
    have g13 := i_ne h13
    have g14 := i_ne h14
    have g15 := i_ne h15
    have g16 := i_ne h16
    have g17 := i_ne h17
    have g18 := i_ne h18
    have g19 := i_ne h19
    have g20 := i_ne h20
    have g21 := i_ne h21
    have g22 := i_ne h22
    have g23 := i_ne h23
    have g24 := i_ne h24
    have g25 := i_ne h25
    have g26 := i_ne h26
    have g27 := i_ne h27
    have g28 := i_ne h28
    have g29 := i_ne h29
    have g30 := i_ne h30
    have g31 := i_ne h31
    have g32 := i_ne h32
    have g33 := i_ne h33
    have g34 := i_ne h34
    have g35 := i_ne h35
    simp only [show ((0 : Int32)).toInt = 0 from by decide, show ((1 : Int32)).toInt = 1 from by decide, show ((2 : Int32)).toInt = 2 from by decide, show ((3 : Int32)).toInt = 3 from by decide, show ((4 : Int32)).toInt = 4 from by decide, show ((5 : Int32)).toInt = 5 from by decide, show ((6 : Int32)).toInt = 6 from by decide, show ((7 : Int32)).toInt = 7 from by decide, show ((8 : Int32)).toInt = 8 from by decide, show ((9 : Int32)).toInt = 9 from by decide, show ((10 : Int32)).toInt = 10 from by decide, show ((11 : Int32)).toInt = 11 from by decide, show ((12 : Int32)).toInt = 12 from by decide, show ((13 : Int32)).toInt = 13 from by decide, show ((14 : Int32)).toInt = 14 from by decide, show ((15 : Int32)).toInt = 15 from by decide, show ((16 : Int32)).toInt = 16 from by decide, show ((17 : Int32)).toInt = 17 from by decide, show ((18 : Int32)).toInt = 18 from by decide, show ((19 : Int32)).toInt = 19 from by decide, show ((20 : Int32)).toInt = 20 from by decide, show ((21 : Int32)).toInt = 21 from by decide, show ((22 : Int32)).toInt = 22 from by decide, show ((23 : Int32)).toInt = 23 from by decide, show ((24 : Int32)).toInt = 24 from by decide, show ((25 : Int32)).toInt = 25 from by decide, show ((26 : Int32)).toInt = 26 from by decide, show ((27 : Int32)).toInt = 27 from by decide, show ((28 : Int32)).toInt = 28 from by decide, show ((29 : Int32)).toInt = 29 from by decide, show ((30 : Int32)).toInt = 30 from by decide, show ((31 : Int32)).toInt = 31 from by decide, show ((32 : Int32)).toInt = 32 from by decide, show ((33 : Int32)).toInt = 33 from by decide, show ((34 : Int32)).toInt = 34 from by decide, show ((35 : Int32)).toInt = 35 from by decide] at g0 g1 g2 g3 g4 g5 g6 g7 g8 g9 g10 g11 g12 g13 g14 g15 g16 g17 g18 g19 g20 g21 g22 g23 g24 g25 g26 g27 g28 g29 g30 g31 g32 g33 g34 g35
    right
    omega
  · refine W.widen (k := 600006) (n := 7301976) (Nat.le_of_ble_eq_true rfl) (Nat.le_of_ble_eq_true rfl) ?_
    exact law_next hfl hx hb hr hml hown hts hX hbl hlocks hA hA2 hbA hE hK hS (lv_sub hl [0, 5] rfl)
