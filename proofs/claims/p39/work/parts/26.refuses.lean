theorem frame_vxg {S SX : Type} {l : Launch} {y : MethodName} {ws : List Cond} {rm : Room} {av : List Value} {G : GC} {wc wr X : va_W} {sz mc ms : Nat} {post : Int32 → S → Prop} {px : SX → Prop} {B B' : S → State → Prop} {BX BX' : String → SX → State → Prop} (hX : X.Perm (wc ++ wr))
    (hB : ∀ (u : S) (H : Heap) (t : State), H.size = sz → va_P (DG G) clP3 X H → va_D (fun _ => True) X → (∀ q : Nat, q < H.size → ¬ va_A wc sz q → t.heap[q]? = H[q]?) → B u t → B' u t)
    (hBX : ∀ (E : String) (u : SX) (H : Heap) (t : State), H.size = sz → va_P (DG G) clP3 X H → va_D (fun _ => True) X → (∀ q : Nat, q < H.size → ¬ va_A wc sz q → t.heap[q]? = H[q]?) → BX E u t → BX' E u t)
    (h : vx_Met l y ws rm (va_Pc av (WD G wc sz)) (va_Qi post B (va_A wc sz)) (vx_X px BX (va_A wc sz)) mc ms (va_A wc sz)) : vx_Met l y ws rm (va_Pc av (WD G X sz)) (va_Qi post B' (va_A X sz)) (vx_X px BX' (va_A X sz)) mc ms (va_A X sz) := by
  intro p e hl hc1 hc2 s m args below hf happ hP hK
  obtain ⟨n, o, h1, h2, h3, hq⟩ := h p e hl hc1 hc2 s m args below hf happ ⟨hP.1, frame_WD hX hP.2⟩ hK
  refine ⟨n, o, h1, h2, h3, ?_⟩
  rcases hq with ⟨⟨⟨r, u, ho, hp, hb⟩, hF⟩, L, hfr, hL⟩ | ⟨q, ho, E, ce, L, ⟨u, hp, hb, hF⟩, hce, hcv, hcl, hW, hsm, hL⟩
  · exact Or.inl ⟨⟨⟨r, u, ho, hp, hB u s.heap _ hP.2.1 hP.2.2.1 hP.2.2.2.2.1 hF.2 hb⟩, hF.1, fun q g1 g2 => hF.2 q g1 (fun z => g2 (frame_A hX q z))⟩, L, hfr, fun q hq => frame_A hX _ (hL q hq)⟩
  · exact Or.inr ⟨q, ho, E, ce, L, ⟨u, hp, hBX E u s.heap _ hP.2.1 hP.2.2.1 hP.2.2.2.2.1 hF.2 hb, hF.1, fun q g1 g2 => hF.2 q g1 (fun z => g2 (frame_A hX q z))⟩, hce, hcv, hcl, hW, hsm, fun q hq => frame_A hX _ (hL q hq)⟩
theorem frame_L0 {l : Launch} {y : MethodName} {ws : List Cond} {rm : Room} {av : List Value} {G : GC} {wc w1 wr : va_W} {sz mc ms : Nat} {post : Int32 → Unit → Prop}
    (h : vx_Met l y ws rm (va_Pc av (WD G wc sz)) (va_Qi post (fun (_ : Unit) t => PW G (va_A wc sz) w1 t) (va_A wc sz)) (vx_X (fun _ : Unit => False) (fun (_ : String) (_ : Unit) (_ : State) => True) (va_A wc sz)) mc ms (va_A wc sz)) :
    vx_Met l y ws rm (va_Pc av (WD G (wc ++ wr) sz)) (va_Qi post (fun (_ : Unit) t => PW G (va_A (wc ++ wr) sz) (w1 ++ wr) t) (va_A (wc ++ wr) sz)) (vx_X (fun _ : Unit => False) (fun (_ : String) (_ : Unit) (_ : State) => True) (va_A (wc ++ wr) sz)) mc ms (va_A (wc ++ wr) sz) :=
  frame_vxg (List.Perm.refl _) (fun u H t h1 h2 h3 h4 h5 => frame_w (List.Perm.refl _) (List.Perm.refl _) h1 h2 h3 h4 h5.1 h5.2) (fun _ _ _ _ _ _ _ _ _ => trivial) h
theorem frame_LM {l : Launch} {y : MethodName} {ws : List Cond} {rm : Room} {av : List Value} {G : GC} {wc wr : va_W} {w1 : BS → va_W} {P9 : BS → Prop} {sz mc ms : Nat} {post : Int32 → BS → Prop}
    (h : vx_Met l y ws rm (va_Pc av (WD G wc sz)) (va_Qi post (fun (u : BS) t => P9 u ∧ PW G (va_A wc sz) (w1 u) t) (va_A wc sz)) (vx_X (fun _ : Unit => False) (fun (_ : String) (_ : Unit) (_ : State) => True) (va_A wc sz)) mc ms (va_A wc sz)) :
    vx_Met l y ws rm (va_Pc av (WD G (wc ++ wr) sz)) (va_Qi post (fun (u : BS) t => P9 u ∧ PW G (va_A (wc ++ wr) sz) (w1 u ++ wr) t) (va_A (wc ++ wr) sz)) (vx_X (fun _ : Unit => False) (fun (_ : String) (_ : Unit) (_ : State) => True) (va_A (wc ++ wr) sz)) mc ms (va_A (wc ++ wr) sz) :=
  frame_vxg (List.Perm.refl _) (fun u H t h1 h2 h3 h4 h5 => ⟨h5.1, frame_w (List.Perm.refl _) (List.Perm.refl _) h1 h2 h3 h4 h5.2.1 h5.2.2⟩) (fun _ _ _ _ _ _ _ _ _ => trivial) h
theorem frame_P0 {l : Launch} {y : MethodName} {ws : List Cond} {rm : Room} {av : List Value} {G : GC} {wc w1 wr : va_W} {sz mc ms : Nat} {k9 : Int32} {post : Int32 → Unit → Prop}
    (h : vx_Met l y ws rm (va_Pc av (WD G wc sz)) (va_Qi post (fun (_ : Unit) t => PW G (va_A wc sz) w1 t) (va_A wc sz)) (vx_X (fun _ : Unit => True) (fun (E : String) (_ : Unit) (t : State) => xnm k9 = some E ∧ PW G (va_A wc sz) w1 t) (va_A wc sz)) mc ms (va_A wc sz)) :
    vx_Met l y ws rm (va_Pc av (WD G (wc ++ wr) sz)) (va_Qi post (fun (_ : Unit) t => PW G (va_A (wc ++ wr) sz) (w1 ++ wr) t) (va_A (wc ++ wr) sz)) (vx_X (fun _ : Unit => True) (fun (E : String) (_ : Unit) (t : State) => xnm k9 = some E ∧ PW G (va_A (wc ++ wr) sz) (w1 ++ wr) t) (va_A (wc ++ wr) sz)) mc ms (va_A (wc ++ wr) sz) :=
  frame_vxg (List.Perm.refl _) (fun u H t h1 h2 h3 h4 h5 => frame_w (List.Perm.refl _) (List.Perm.refl _) h1 h2 h3 h4 h5.1 h5.2) (fun E u H t h1 h2 h3 h4 h5 => ⟨h5.1, frame_w (List.Perm.refl _) (List.Perm.refl _) h1 h2 h3 h4 h5.2.1 h5.2.2⟩) h
theorem frame_l {l : Launch} {y : MethodName} {ws : List Cond} {rm : Room} {av : List Value} {G : GC} {wc w1 wr : va_W} {sz mc ms : Nat} {post : Int64 → Unit → Prop}
    (h : Met l y ws rm (va_Pc av (WD G wc sz)) (va_Ql post (fun _ t => PW G (va_A wc sz) w1 t) (va_A wc sz)) mc ms (va_A wc sz)) : Met l y ws rm (va_Pc av (WD G (wc ++ wr) sz)) (va_Ql post (fun _ t => PW G (va_A (wc ++ wr) sz) (w1 ++ wr) t) (va_A (wc ++ wr) sz)) mc ms (va_A (wc ++ wr) sz) := by
  intro p e hl hc1 hc2 s m args below hf happ hP hK
  have hX : (wc ++ wr).Perm (wc ++ wr) := List.Perm.refl _
  obtain ⟨n, o, h1, h2, h3, ⟨⟨r, u, ho, hp, hb⟩, hF⟩, L, hfr, hL⟩ := h p e hl hc1 hc2 s m args below hf happ ⟨hP.1, frame_WD hX hP.2⟩ hK
  refine ⟨n, o, h1, h2, h3, ⟨⟨r, u, ho, hp, ?_⟩, hF.1, fun q g1 g2 => hF.2 q g1 (fun z => g2 (frame_A hX q z))⟩, L, hfr, fun q hq => frame_A hX _ (hL q hq)⟩
  exact frame_w hX (List.Perm.refl _) hP.2.1 hP.2.2.1 hP.2.2.2.2.1 (fun q g1 g2 => hF.2 q g1 g2) hb.1 hb.2
theorem xA0 {A : Nat → Prop} {H0 H : Heap} {locs : List Loc} (hA : ∀ q : Nat, H0.size ≤ q → A q) (hS : va_S A H0 H locs) {q : Nat} (h : va_A [] H.size q) : A q := by
  rcases h with ⟨k, e, h1⟩ | h1
  · simp at h1
  · exact hA q (Nat.le_trans hS.1 h1)
theorem frame_iM {l : Launch} {y : MethodName} {ws : List Cond} {rm : Room} {av : List Value} {G : GC} {wc wr : va_W} {w1 : BS → va_W} {P9 : BS → Prop} {sz mc ms : Nat} {post : Int32 → BS → Prop}
    (h : Met l y ws rm (va_Pc av (WD G wc sz)) (va_Qi post (fun (u : BS) t => P9 u ∧ PW G (va_A wc sz) (w1 u) t) (va_A wc sz)) mc ms (va_A wc sz)) : Met l y ws rm (va_Pc av (WD G (wc ++ wr) sz)) (va_Qi post (fun (u : BS) t => P9 u ∧ PW G (va_A (wc ++ wr) sz) (w1 u ++ wr) t) (va_A (wc ++ wr) sz)) mc ms (va_A (wc ++ wr) sz) := by
  intro p e hl hc1 hc2 s m args below hf happ hP hK
  have hX : (wc ++ wr).Perm (wc ++ wr) := List.Perm.refl _
  obtain ⟨n, o, h1, h2, h3, ⟨⟨r, u, ho, hp, hb⟩, hF⟩, L, hfr, hL⟩ := h p e hl hc1 hc2 s m args below hf happ ⟨hP.1, frame_WD hX hP.2⟩ hK
  refine ⟨n, o, h1, h2, h3, ⟨⟨r, u, ho, hp, hb.1, ?_⟩, hF.1, fun q g1 g2 => hF.2 q g1 (fun z => g2 (frame_A hX q z))⟩, L, hfr, fun q hq => frame_A hX _ (hL q hq)⟩
  exact frame_w hX (List.Perm.refl _) hP.2.1 hP.2.2.1 hP.2.2.2.2.1 (fun q g1 g2 => hF.2 q g1 g2) hb.2.1 hb.2.2
def WDx (G : GC) (b L : Nat) (xs : IA) (sz : Nat) (U : State) : Prop := WD G [] sz U ∧ va_X b L xs U U.heap ∧ b < sz
theorem nilA {q sz : Nat} (h : q < sz) : ¬ va_A [] sz q := by
  rintro (⟨k, e, h1⟩ | h1)
  · simp at h1
  · omega
theorem pre_x {G : GC} {s : State} {H : Heap} {A : Nat → Prop} {locs : List Loc} {b L : Nat} {xs : IA} {av : List Value} (hK : va_K (DG G) clP3 (TY G) s) (hS : va_S A s.heap H locs) (hE : EV G A s s.heap) (hA : ∀ q : Nat, s.heap.size ≤ q → A q) (hX : va_X b L xs s s.heap) (hbl : b < s.heap.size) (hbA : ¬ A b) : PreS s H (va_Pc av (WDx G b L xs H.size)) av :=
  ⟨fun a U g mk q => ⟨q.1, ⟨q.2.1.1, q.2.1.2.1, va_K.moved (u := U) (U := U.calling g mk a) (Vm.Alike.refl U.vm) q.2.1.2.2.1, q.2.1.2.2.2.1, EV.same (u := U) (U := U.calling g mk a) rfl q.2.1.2.2.2.2⟩, va_X.moved (u := U) (U := U.calling g mk a) (Vm.Alike.refl U.vm) q.2.2.1, q.2.2.2⟩,
   fun U hU hW => ⟨rfl, ⟨by rw [hU], nilP, va_K.moved hW.alike hK, nilD, by rw [hU]; exact hE.go hS (fun q h => xA0 hA hS h) hW⟩, by rw [hU]; exact va_X.moved hW.alike (hX.kept (hS.2.1 b hbl hbA)), Nat.lt_of_lt_of_le hbl hS.1⟩⟩
def f_L_cell (xs : IA) (L : Nat) (p1 : Int32) : Option Int32 := if Int32.ofNat L ≤ p1 then some (((7919 : Int32) * p1) + (12 : Int32)) else if inb p1 L = true then some (xs (Int32.toNatClampNeg p1)) else none
set_option maxHeartbeats 2000000 in
set_option maxRecDepth 100000 in
theorem k_L_cell (l : Launch) (hfl : l.stackTraces = false) (G : GC) (b L : Nat) (xs : IA) (p1 r9 : Int32) (hm : f_L_cell xs L p1 = some r9) (sz : Nat) : Met l yL_cell (Cond.code yL_cell cL_cell 2 (some .int) :: W0) ({ frames := 0, cells := 0, slots := 0, locals := 0 }) (va_Pc [.ref b, .int p1] (WDx G b L xs sz)) (va_Qi (fun (r : Int32) (_ : Unit) => r = r9) (fun _ _ => True) (va_A [] sz)) 0 0 (va_A [] sz) := by
  rw [f_L_cell] at hm
  refine Met.ofW (cc := cL_cell) (maxL := 2) (ret := some .int) (by decide) rfl ?_
  intro p e s m args below meth c s₁ B hml hv
  obtain ⟨rfl, ⟨hsz, -, hK, -, hE⟩, hX, hbl⟩ := hv
  have hx := B.exec
  have hb := B.bytes
  have hr := B.returns
  have hts := w0_tail B.pre
  have hown : s.vm.findClass RL = some m.cls := findClass_of_methodNamed B.named
  have hlocks := B.notSynchronized
  have hbA : ¬ va_A [] sz b := nilA hbl
  rw [← hsz] at hbl
  have hA : ∀ q : Nat, s.heap.size ≤ q → va_A [] sz q := fun q h => Or.inr (by rw [← hsz]; exact h)
  have hS : va_S (va_A [] sz) s.heap s.heap [] := va_S.rf
  obtain ⟨H, hHe⟩ : ∃ H : Heap, H = s.heap := ⟨_, rfl⟩
  have hS : va_S (va_A [] sz) s.heap H [] := by rw [hHe]; exact hS
  have hl := lv_entry ([.ref b, .int p1]) (n := 2) (Nat.le_of_ble_eq_true rfl)
  rw [lg_entry_eq, ← hHe]
  generalize (lg_sl ([.ref b, .int p1]) ++ List.replicate (2 - (lg_sl ([.ref b, .int p1])).length) Slot.unset).toArray = ls at hl ⊢
  have hl : lv_has ls 2 [(0, .ref b), (1, .int p1)] := hl
  refine lv_iload_n hx hb dL_cell_0 rfl (lv_at hl 1 rfl) ?_
  refine lv_aload_n hx hb dL_cell_1 rfl (lv_at hl 0 rfl) ?_
  refine va_slen hx hb hX hbl hbA hS dL_cell_2 ?_
  refine lv_icmp_ge (tgt := 12) hx hb dL_cell_3 (by decide) (fun c_1 => ?_) (fun c_1 => ?_)
  · rw [if_pos c_1] at hm
    refine lv_sipush (v := 7919) hx hb dL_cell_12 (by decide) ?_
    refine lv_iload_n hx hb dL_cell_15 rfl (lv_at hl 1 rfl) ?_
    refine lv_imul hx hb dL_cell_16 ?_
    refine lv_bipush (v := 12) hx hb dL_cell_17 (by decide) ?_
    refine lv_iadd hx hb dL_cell_19 ?_
    obtain rfl := Option.some.inj hm
    exact W.iret (v := (((7919 : Int32) * p1) + (12 : Int32))) hx hb hr (fun t ht hW => ⟨⟨(((7919 : Int32) * p1) + (12 : Int32)), (), rfl, rfl, trivial⟩, hS.F ht⟩) hS.2.2 dL_cell_20 hlocks
  · rw [if_neg c_1] at hm
    obtain ⟨b_2, hm⟩ := ite_some hm
    refine lv_aload_n hx hb dL_cell_6 rfl (lv_at hl 0 rfl) ?_
    refine lv_iload_n hx hb dL_cell_7 rfl (lv_at hl 1 rfl) ?_
    refine va_sld hx hb hX hbl hbA hS (inb_vp b_2) dL_cell_8 ?_
    refine lv_goto (tgt := 20) hx hb dL_cell_9 (by decide) ?_
    obtain rfl := Option.some.inj hm
    exact W.iret (v := (xs (Int32.toNatClampNeg p1))) hx hb hr (fun t ht hW => ⟨⟨(xs (Int32.toNatClampNeg p1)), (), rfl, rfl, trivial⟩, hS.F ht⟩) hS.2.2 dL_cell_20 hlocks
def f_L_some (xs : IA) (L : Nat) (p1 p2 : Int32) : Option Int32 := (Option.bind (f_L_cell xs L p1) (fun q_1 => if p2 = 0 then none else some (((q_1.toUInt32 >>> (((3 : Int32)).toUInt32 &&& Int32.toUInt32 31)).toInt32) - ((q_1.toUInt32 >>> (((3 : Int32)).toUInt32 &&& Int32.toUInt32 31)).toInt32) / p2 * p2)))
set_option maxHeartbeats 2000000 in
set_option maxRecDepth 100000 in
theorem k_L_some (l : Launch) (hfl : l.stackTraces = false) (G : GC) (b L : Nat) (xs : IA) (p1 p2 r9 : Int32) (hm : f_L_some xs L p1 p2 = some r9) (sz : Nat) : Met l yL_some (Cond.code yL_some cL_some 3 (some .int) :: W0) ({ frames := 1, cells := 0, slots := 0, locals := 21 }) (va_Pc [.ref b, .int p1, .int p2] (WDx G b L xs sz)) (va_Qi (fun (r : Int32) (_ : Unit) => r = r9) (fun _ _ => True) (va_A [] sz)) 0 0 (va_A [] sz) := by
  rw [f_L_some] at hm
  refine Met.ofW (cc := cL_some) (maxL := 3) (ret := some .int) (by decide) rfl ?_
  intro p e s m args below meth c s₁ B hml hv
  obtain ⟨rfl, ⟨hsz, -, hK, -, hE⟩, hX, hbl⟩ := hv
  have hx := B.exec
  have hb := B.bytes
  have hr := B.returns
  have hts := w0_tail B.pre
  have hown : s.vm.findClass RL = some m.cls := findClass_of_methodNamed B.named
  have hlocks := B.notSynchronized
  have hbA : ¬ va_A [] sz b := nilA hbl
  rw [← hsz] at hbl
  have hA : ∀ q : Nat, s.heap.size ≤ q → va_A [] sz q := fun q h => Or.inr (by rw [← hsz]; exact h)
  have hS : va_S (va_A [] sz) s.heap s.heap [] := va_S.rf
  obtain ⟨H, hHe⟩ : ∃ H : Heap, H = s.heap := ⟨_, rfl⟩
  have hS : va_S (va_A [] sz) s.heap H [] := by rw [hHe]; exact hS
  have hl := lv_entry ([.ref b, .int p1, .int p2]) (n := 3) (Nat.le_of_ble_eq_true rfl)
  rw [lg_entry_eq, ← hHe]
  generalize (lg_sl ([.ref b, .int p1, .int p2]) ++ List.replicate (3 - (lg_sl ([.ref b, .int p1, .int p2])).length) Slot.unset).toArray = ls at hl ⊢
  have hl : lv_has ls 3 [(0, .ref b), (1, .int p1), (2, .int p2)] := hl
  refine lv_aload_n hx hb dL_some_0 rfl (lv_at hl 0 rfl) ?_
  refine lv_iload_n hx hb dL_some_1 rfl (lv_at hl 1 rfl) ?_
  obtain ⟨q_1, hq_1, hm⟩ := bind_some hm
  refine va_calli (va_runS (As := [.ref b, .int p1]) (rest := []) ⟨hx, hb, hml, hown, hts⟩ (k_L_cell l hfl G b L xs p1 q_1 hq_1 H.size) (cwS 2 hts (gS wm637 wm638 wm0 wm639) rfl rfl rfl (by decide +kernel) ⟨Nat.le_of_ble_eq_true rfl, Nat.le_of_ble_eq_true rfl⟩) (pre_x hK hS hE hA hX hbl hbA) rfl rfl hl.1 rfl (lv_room (Nat.le_of_ble_eq_true rfl)) dL_some_2 ⟨Nat.le_of_ble_eq_true rfl, Nat.le_of_ble_eq_true rfl⟩) hS (fun q hq h => (nilA hq h).elim) (fun q h => by
    rcases h with ⟨k, e, h1⟩ | h1
    · simp at h1
    · exact hA q (Nat.le_trans hS.1 h1)) (fun r u t H locs ht hvm hw hB hz1 hk1 hS => ?_)
  rw [show r = q_1 from hw]
  refine W.widen (k := 0) (n := 0) (Nat.le_of_ble_eq_true rfl) (Nat.le_of_ble_eq_true rfl) ?_
  refine lv_iconst (v := 3) hx hb dL_some_5 (by decide) ?_
  refine lv_iushr hx hb dL_some_6 rfl ?_
  refine lv_iload_n hx hb dL_some_7 rfl (lv_at hl 2 rfl) ?_
  by_cases c_2 : p2 = 0
  · rw [if_pos c_2] at hm; cases hm
  · rw [if_neg c_2] at hm
    refine lv_irem hx hb dL_some_8 c_2 ?_
    obtain rfl := Option.some.inj hm
    exact W.iret (v := (((q_1.toUInt32 >>> (((3 : Int32)).toUInt32 &&& Int32.toUInt32 31)).toInt32) - ((q_1.toUInt32 >>> (((3 : Int32)).toUInt32 &&& Int32.toUInt32 31)).toInt32) / p2 * p2)) hx hb hr (fun t ht hW => ⟨⟨(((q_1.toUInt32 >>> (((3 : Int32)).toUInt32 &&& Int32.toUInt32 31)).toInt32) - ((q_1.toUInt32 >>> (((3 : Int32)).toUInt32 &&& Int32.toUInt32 31)).toInt32) / p2 * p2), (), rfl, rfl, trivial⟩, hS.F ht⟩) hS.2.2 dL_some_9 hlocks
def f_X11_allSteps (N : NS)  : Option (Int64) := some N.2.2
set_option maxHeartbeats 2000000 in
set_option maxRecDepth 100000 in
theorem k_X11_allSteps (l : Launch) (hfl : l.stackTraces = false) (G : GC) (a : AS) (T : TS) (F : FS) (U : US) (S : SS) (D : DS) (R : RS) (M : MS) (N : NS) (P : PS) (hlk : lkA a D.1.toNatClampNeg D.2.1.toNatClampNeg)  (r9 : Int64) (hm : f_X11_allSteps N = some r9) (sz : Nat) : Met l yX11_allSteps (Cond.code yX11_allSteps cX11_allSteps 1 (some .long) :: W0) ({ frames := 0, cells := 0, slots := 0, locals := 0 }) (va_Pc [.ref (a.1 0)] (WD G (wC G a T F U S D R M N P) sz)) (va_Ql (fun (r : Int64) (_ : Unit) => r = r9) (fun _ t => PW G (va_A (wC G a T F U S D R M N P) sz) (wC G a T F U S D R M N P) t) (va_A (wC G a T F U S D R M N P) sz)) 0 0 (va_A (wC G a T F U S D R M N P) sz) := by
  rw [f_X11_allSteps] at hm
  refine Met.ofW (cc := cX11_allSteps) (maxL := 1) (ret := (some .long)) (by decide) rfl ?_
  intro p e s m args below meth c s₁ B hml hv
  obtain ⟨rfl, hsz, hP, hK, hD0, hE⟩ := hv
  have hx := B.exec
  have hb := B.bytes
  have hr := B.returns
  have hts := w0_tail B.pre
  have hown : s.vm.findClass RX11 = some m.cls := findClass_of_methodNamed B.named
  have hlocks := B.notSynchronized
  have hD := hD0.self (sz := sz)
  obtain ⟨A, hAe⟩ : ∃ A, (va_A (wC G a T F U S D R M N P) sz) = A := ⟨_, rfl⟩
  rw [hAe] at hD hE
  have hA : ∀ q : Nat, s.heap.size ≤ q → A q := fun q h => by rw [← hAe]; exact Or.inr (by rw [← hsz]; exact h)
  have hS : va_S A s.heap s.heap [] := va_S.rf
  obtain ⟨H, hHe⟩ : ∃ H : Heap, H = s.heap := ⟨_, rfl⟩
  have hP : va_P (DG G) clP3 (wC G a T F U S D R M N P) H := by rw [hHe]; exact hP
  have hS : va_S A s.heap H [] := by rw [hHe]; exact hS
  have hl := lv_entry ([.ref (a.1 0)]) (n := 1) (Nat.le_of_ble_eq_true rfl)
  rw [lg_entry_eq, ← hHe]
  generalize (lg_sl ([.ref (a.1 0)]) ++ List.replicate (1 - (lg_sl ([.ref (a.1 0)])).length) Slot.unset).toArray = ls at hl ⊢
  have hl : lv_has ls 1 [(0, .ref (a.1 0))] := hl
  refine lv_aload_n hx hb dX11_allSteps_0 rfl (lv_at hl 0 rfl) ?_
  refine va_get (D := DG G) (ci := 10) (v := .long N.2.2) (C := RX11) (T := TX11) (N := 10) hx hb hts inW_X11 hown hK hP 0 rfl rfl 9 (by decide) (hts _ wm293) (fun _ h9 => h9) rfl dX11_allSteps_1 ?_
  obtain rfl := Option.some.inj hm
  refine W.widen (k := 0) (n := 0) (Nat.le_of_ble_eq_true rfl) (Nat.le_of_ble_eq_true rfl) ?_
  exact W.lret (v := N.2.2) hx hb hr (fun t ht hW => ⟨⟨N.2.2, (), rfl, rfl, ⟨by rw [ht]; exact hP, by rw [hAe]; exact hD⟩⟩, by rw [hAe]; exact hS.F ht⟩) (by rw [hAe]; exact hS.2.2) dX11_allSteps_4 hlocks
def f_L_laid  (p1 : Int32) (p2 : Int32) : Option (Int32) := (if 0 ≤ p1 then some (if p2 < (p1 + (1 : Int32)) then (p1 + (1 : Int32)) else p2) else some p2)
set_option maxHeartbeats 2000000 in
set_option maxRecDepth 100000 in
theorem k_L_laid (l : Launch) (hfl : l.stackTraces = false) (G : GC) (a : AS) (T : TS) (F : FS) (U : US) (S : SS) (D : DS) (R : RS) (M : MS) (N : NS) (P : PS) (hlk : lkA a D.1.toNatClampNeg D.2.1.toNatClampNeg) (p1 : Int32) (p2 : Int32) (r9 : Int32) (hm : f_L_laid p1 p2 = some r9) (sz : Nat) : Met l yL_laid (Cond.code yL_laid cL_laid 2 (some .int) :: W0) ({ frames := 1, cells := 0, slots := 0, locals := 13 }) (va_Pc [.int p1, .int p2] (WD G (wC G a T F U S D R M N P) sz)) (va_Qi (fun (r : Int32) (_ : Unit) => r = r9) (fun _ t => PW G (va_A (wC G a T F U S D R M N P) sz) (wC G a T F U S D R M N P) t) (va_A (wC G a T F U S D R M N P) sz)) 0 0 (va_A (wC G a T F U S D R M N P) sz) := by
  rw [f_L_laid] at hm
  refine Met.ofW (cc := cL_laid) (maxL := 2) (ret := (some .int)) (by decide) rfl ?_
  intro p e s m args below meth c s₁ B hml hv
  obtain ⟨rfl, hsz, hP, hK, hD0, hE⟩ := hv
  have hx := B.exec
  have hb := B.bytes
  have hr := B.returns
  have hts := w0_tail B.pre
  have hown : s.vm.findClass RL = some m.cls := findClass_of_methodNamed B.named
  have hlocks := B.notSynchronized
  have hD := hD0.self (sz := sz)
  obtain ⟨A, hAe⟩ : ∃ A, (va_A (wC G a T F U S D R M N P) sz) = A := ⟨_, rfl⟩
  rw [hAe] at hD hE
  have hA : ∀ q : Nat, s.heap.size ≤ q → A q := fun q h => by rw [← hAe]; exact Or.inr (by rw [← hsz]; exact h)
  have hS : va_S A s.heap s.heap [] := va_S.rf
  obtain ⟨H, hHe⟩ : ∃ H : Heap, H = s.heap := ⟨_, rfl⟩
  have hP : va_P (DG G) clP3 (wC G a T F U S D R M N P) H := by rw [hHe]; exact hP
  have hS : va_S A s.heap H [] := by rw [hHe]; exact hS
  have hl := lv_entry ([.int p1, .int p2]) (n := 2) (Nat.le_of_ble_eq_true rfl)
  rw [lg_entry_eq, ← hHe]
  generalize (lg_sl ([.int p1, .int p2]) ++ List.replicate (2 - (lg_sl ([.int p1, .int p2])).length) Slot.unset).toArray = ls at hl ⊢
  have hl : lv_has ls 2 [(0, .int p1), (1, .int p2)] := hl
  refine lv_iload_n hx hb dL_laid_0 rfl (lv_at hl 0 rfl) ?_
  refine lv_if_ge (tgt := 8) hx hb dL_laid_1 (by decide) (fun c_1 => ?_) (fun c_1 => ?_)
  · rw [if_pos c_1] at hm
    refine lv_iload_n hx hb dL_laid_8 rfl (lv_at hl 1 rfl) ?_
    refine lv_iload_n hx hb dL_laid_9 rfl (lv_at hl 0 rfl) ?_
    refine lv_iconst (v := 1) hx hb dL_laid_10 (by decide) ?_
    refine lv_iadd hx hb dL_laid_11 ?_
    refine va_mmax hx hb (hml.trans hl.1.symm) hown (hts _ wm1247) (hts _ wm182) (hts _ wm8) (hts _ wm183) (by first | exact Nat.le_of_ble_eq_true rfl | (show 1 ≤ 1; omega) | (show 13 ≤ 13; omega)) (by first | exact Nat.le_of_ble_eq_true rfl | (show 1 ≤ 1; omega) | (show 13 ≤ 13; omega)) (by first | exact Nat.le_of_ble_eq_true rfl | (show 1 ≤ 1; omega) | (show 13 ≤ 13; omega)) (by first | exact Nat.le_of_ble_eq_true rfl | (show 1 ≤ 1; omega) | (show 13 ≤ 13; omega)) dL_laid_12 ?_
    obtain rfl := Option.some.inj hm
    refine W.widen (k := 0) (n := 0) (Nat.le_of_ble_eq_true rfl) (Nat.le_of_ble_eq_true rfl) ?_
    exact W.iret (v := (if p2 < (p1 + (1 : Int32)) then (p1 + (1 : Int32)) else p2)) hx hb hr (fun t ht hW => ⟨⟨(if p2 < (p1 + (1 : Int32)) then (p1 + (1 : Int32)) else p2), (), rfl, rfl, ⟨by rw [ht]; exact hP, by rw [hAe]; exact hD⟩⟩, by rw [hAe]; exact hS.F ht⟩) (by rw [hAe]; exact hS.2.2) dL_laid_15 hlocks
  · rw [if_neg c_1] at hm
    refine lv_iload_n hx hb dL_laid_4 rfl (lv_at hl 1 rfl) ?_
    refine lv_goto (tgt := 15) hx hb dL_laid_5 (by decide) ?_
    obtain rfl := Option.some.inj hm
    refine W.widen (k := 0) (n := 0) (Nat.le_of_ble_eq_true rfl) (Nat.le_of_ble_eq_true rfl) ?_
    exact W.iret (v := p2) hx hb hr (fun t ht hW => ⟨⟨p2, (), rfl, rfl, ⟨by rw [ht]; exact hP, by rw [hAe]; exact hD⟩⟩, by rw [hAe]; exact hS.F ht⟩) (by rw [hAe]; exact hS.2.2) dL_laid_15 hlocks
def f_L_refuses (T : TS) (F : FS) (U : US) (S : SS) (D : DS) (R : RS) (M : MS) (N : NS) (P : PS) (p1 : Int32) (p2 : Int32) (p3 : Int32) : Option (Int32 × TS × FS × US × SS × DS × RS × MS × NS × PS) := (Option.bind (f_L_universe T N (-1)) (fun q_1 => (if q_1.1 = (-2000000) then (Option.bind (f_L_variable q_1.2.1 q_1.2.2 16) (fun q_4 => (if q_4.1 = (-2000000) then (Option.bind (f_L_apply q_4.2.1 q_4.2.2 p1 0) (fun q_7 => (if q_7.1 = (-2500000) then (Option.bind (f_L_lambda q_7.2.1 q_7.2.2 0 (-1)) (fun q_10 => (if q_10.1 = (-2500000) then (Option.bind (f_L_functions q_10.2.1 q_10.2.2 p1 p1) (fun q_13 => (if q_13.1 = (-2500000) then (Option.bind (f_L_dataNode q_13.2.1 S q_13.2.2 6) (fun q_16 => (if q_16.1 = (-3000000) then (Option.bind (f_L_functionNode q_16.2.1 D q_16.2.2 p3) (fun q_19 => (if q_19.1 = (-3000000) then (Option.bind (f_L_addConstructor q_19.2.1 S D 0 4 0 0 0) (fun q_22 => (if q_22.1 = (-2000000) then (Option.bind (f_L_size q_22.2.1 q_19.2.2 p1) (fun q_25 => (if q_25 = (-2500000) then (Option.bind (f_L_normal q_22.2.1 F q_19.2.2 (-1)) (fun q_28 => (if q_28.1 = (-2500000) then (Option.bind (f_L_declare q_28.2.1 q_28.2.2 U q_22.2.2 D q_19.2.2 P p1) (fun q_31 => (if q_31.1 = (-2500000) then (Option.bind (f_L_split q_31.2.1 q_31.2.2.1 q_22.2.2 q_31.2.2.2.2.1 q_31.2.2.2.2.2 p2 0) (fun q_34 => (if q_34.1 = (-3000000) then (Option.bind (f_L_fill q_34.2.1 q_34.2.2.1 q_31.2.2.2.1 q_34.2.2.2.1 q_34.2.2.2.2.1 q_19.2.2 q_34.2.2.2.2.2 p2 0) (fun q_37 => (if q_37.1 = (-3000000) then (Option.bind (f_L_auto q_37.2.1 q_34.2.2.2.2.1 q_37.2.2.2.2 p2) (fun q_40 => (if q_40.1 = (-3000000) then (Option.bind (f_L_reopen q_40.2.1 q_34.2.2.2.2.1 q_40.2.2 p2) (fun q_43 => (if q_43.1 = (-3000000) then (Option.bind (f_L_accept q_40.2.1 q_34.2.2.2.2.1 R q_43.2 p3) (fun q_46 => (if q_46.1 = (-3000000) then (Option.bind (f_L_run q_40.2.1 q_37.2.2.1 q_37.2.2.2.1 q_34.2.2.2.1 q_46.2.1 M q_19.2.2 q_43.2 p1) (fun q_49 => (if q_49.1 = (-2500000) then some (1, q_49.2.1, q_49.2.2.1, q_49.2.2.2.1, q_34.2.2.2.1, q_46.2.1, q_46.2.2, q_49.2.2.2.2.1, q_49.2.2.2.2.2, q_43.2) else some (0, q_49.2.1, q_49.2.2.1, q_49.2.2.2.1, q_34.2.2.2.1, q_46.2.1, q_46.2.2, q_49.2.2.2.2.1, q_49.2.2.2.2.2, q_43.2)))) else some (0, q_40.2.1, q_37.2.2.1, q_37.2.2.2.1, q_34.2.2.2.1, q_46.2.1, q_46.2.2, M, q_19.2.2, q_43.2)))) else some (0, q_40.2.1, q_37.2.2.1, q_37.2.2.2.1, q_34.2.2.2.1, q_34.2.2.2.2.1, R, M, q_19.2.2, q_43.2)))) else some (0, q_40.2.1, q_37.2.2.1, q_37.2.2.2.1, q_34.2.2.2.1, q_34.2.2.2.2.1, R, M, q_19.2.2, q_40.2.2)))) else some (0, q_37.2.1, q_37.2.2.1, q_37.2.2.2.1, q_34.2.2.2.1, q_34.2.2.2.2.1, R, M, q_19.2.2, q_37.2.2.2.2)))) else some (0, q_34.2.1, q_34.2.2.1, q_31.2.2.2.1, q_34.2.2.2.1, q_34.2.2.2.2.1, R, M, q_19.2.2, q_34.2.2.2.2.2)))) else some (0, q_31.2.1, q_31.2.2.1, q_31.2.2.2.1, q_22.2.2, q_31.2.2.2.2.1, R, M, q_19.2.2, q_31.2.2.2.2.2)))) else some (0, q_28.2.1, q_28.2.2, U, q_22.2.2, D, R, M, q_19.2.2, P)))) else some (0, q_22.2.1, F, U, q_22.2.2, D, R, M, q_19.2.2, P)))) else some (0, q_22.2.1, F, U, q_22.2.2, D, R, M, q_19.2.2, P)))) else some (0, q_19.2.1, F, U, S, D, R, M, q_19.2.2, P)))) else some (0, q_16.2.1, F, U, S, D, R, M, q_16.2.2, P)))) else some (0, q_13.2.1, F, U, S, D, R, M, q_13.2.2, P)))) else some (0, q_10.2.1, F, U, S, D, R, M, q_10.2.2, P)))) else some (0, q_7.2.1, F, U, S, D, R, M, q_7.2.2, P)))) else some (0, q_4.2.1, F, U, S, D, R, M, q_4.2.2, P)))) else some (0, q_1.2.1, F, U, S, D, R, M, q_1.2.2, P))))
set_option maxHeartbeats 4000000 in
set_option maxRecDepth 100000 in
theorem k_L_refuses (l : Launch) (hfl : l.stackTraces = false) (G : GC) (a : AS) (T : TS) (F : FS) (U : US) (S : SS) (D : DS) (R : RS) (M : MS) (N : NS) (P : PS) (hlk : lkA a D.1.toNatClampNeg D.2.1.toNatClampNeg) (p1 : Int32) (p2 : Int32) (p3 : Int32) (r9 : Int32) (T9 : TS) (F9 : FS) (U9 : US) (S9 : SS) (D9 : DS) (R9 : RS) (M9 : MS) (N9 : NS) (P9 : PS) (hm : f_L_refuses T F U S D R M N P p1 p2 p3 = some (r9, T9, F9, U9, S9, D9, R9, M9, N9, P9)) (sz : Nat) : Met l yL_refuses (Cond.code yL_refuses cL_refuses 4 (some .boolean) :: W0) ({ frames := 584, cells := 204, slots := 6009, locals := 15296 }) (va_Pc [.ref (a.1 0), .int p1, .int p2, .int p3] (WD G (wC G a T F U S D R M N P) sz)) (va_Qi (S := BS) (fun r _ => r = r9) (fun b2 t => lkA (a.1, b2) D9.1.toNatClampNeg D9.2.1.toNatClampNeg ∧ PW G (va_A (wC G a T F U S D R M N P) sz) (wC G (a.1, b2) T9 F9 U9 S9 D9 R9 M9 N9 P9) t) (va_A (wC G a T F U S D R M N P) sz)) 204 6009 (va_A (wC G a T F U S D R M N P) sz) := by
  rw [f_L_refuses] at hm
  refine Met.ofW (cc := cL_refuses) (maxL := 4) (ret := (some .boolean)) (by decide) rfl ?_
  intro p e s m args below meth c s₁ B hml hv
  obtain ⟨rfl, hsz, hP, hK, hD0, hE⟩ := hv
  have hx := B.exec
  have hb := B.bytes
  have hr := B.returns
  have hts := w0_tail B.pre
  have hown : s.vm.findClass RL = some m.cls := findClass_of_methodNamed B.named
  have hlocks := B.notSynchronized
  have hD := hD0.self (sz := sz)
  obtain ⟨A, hAe⟩ : ∃ A, (va_A (wC G a T F U S D R M N P) sz) = A := ⟨_, rfl⟩
  rw [hAe] at hD hE
  have hA : ∀ q : Nat, s.heap.size ≤ q → A q := fun q h => by rw [← hAe]; exact Or.inr (by rw [← hsz]; exact h)
  have hS : va_S A s.heap s.heap [] := va_S.rf
  obtain ⟨H, hHe⟩ : ∃ H : Heap, H = s.heap := ⟨_, rfl⟩
  have hP : va_P (DG G) clP3 (wC G a T F U S D R M N P) H := by rw [hHe]; exact hP
  have hS : va_S A s.heap H [] := by rw [hHe]; exact hS
  have hl := lv_entry ([.ref (a.1 0), .int p1, .int p2, .int p3]) (n := 4) (Nat.le_of_ble_eq_true rfl)
  rw [lg_entry_eq, ← hHe]
  generalize (lg_sl ([.ref (a.1 0), .int p1, .int p2, .int p3]) ++ List.replicate (4 - (lg_sl ([.ref (a.1 0), .int p1, .int p2, .int p3])).length) Slot.unset).toArray = ls at hl ⊢
  have hl : lv_has ls 4 [(0, .ref (a.1 0)), (1, .int p1), (2, .int p2), (3, .int p3)] := hl
  refine lv_aload_n hx hb dL_refuses_0 rfl (lv_at hl 0 rfl) ?_
  refine lv_iconst (v := (-1)) hx hb dL_refuses_1 (by decide) ?_
  obtain ⟨q_1, hq_1, hm⟩ := bind_some hm
  have hFc := free_all hD hS hA
  refine vx_calli (vx_runSX (As := [.ref (a.1 0), .int (-1)]) (rest := []) ⟨hx, hb, hml, hown, hts⟩ (k_L_universe l hfl G a T F U S D R M N P hlk (-1) q_1.1 q_1.2.1 q_1.2.2 hq_1 H.size) (vx_cwSW 2 hts (gSW wm640 wm641 wm0 wm642) rfl rfl rfl (by decide +kernel) ⟨Nat.le_of_ble_eq_true rfl, Nat.le_of_ble_eq_true rfl⟩) (pre_w hK hP hD hS hE hFc) rfl rfl hl.1 rfl (lv_room (Nat.le_of_ble_eq_true rfl)) dL_refuses_2 ⟨Nat.le_of_ble_eq_true rfl, Nat.le_of_ble_eq_true rfl⟩) hS (fun q _ h => hFc q h) hFc (fun q _ h => hFc q h) (fun E ce q9 u9 t H locs ht hvm hpx hBX hz1 hk1 hS hce hv9 hcl => hpx.elim) (fun r u_2 t H locs ht hvm hw hB hz1 hk1 hS => ?_)
  rw [show r = q_1.1 from hw]
  have hP : va_P (DG G) clP3 (wC G a q_1.2.1 F U S D R M q_1.2.2 P) H := by rw [← ht]; exact hB.1
  have hD : va_D A (wC G a q_1.2.1 F U S D R M q_1.2.2 P) := hB.2.weaken (fun _ p _ h => hFc p.1 h)
  clear hB hFc hw hk1
  refine W.widen (k := 1) (n := 6) (Nat.le_of_ble_eq_true rfl) (Nat.le_of_ble_eq_true rfl) ?_
  refine lv_ldc (v := (-2000000)) hx hb hown (hts _ wm686) dL_refuses_5 ?_
  refine lv_icmp_ne (tgt := 185) hx hb dL_refuses_7 (by decide) (fun c_3 => ?_) (fun c_3 => ?_)
  · rw [if_neg c_3] at hm
    refine lv_iconst (v := 0) hx hb dL_refuses_185 (by decide) ?_
    simp only [Option.some.injEq, Prod.mk.injEq] at hm
    obtain ⟨rfl, rfl, rfl, rfl, rfl, rfl, rfl, rfl, rfl, rfl⟩ := hm
    subst hAe
    refine W.widen (k := 204) (n := 6009) (Nat.le_of_ble_eq_true rfl) (Nat.le_of_ble_eq_true rfl) ?_
    exact W.zret (v := 0) (ty := .boolean) hx hb hr (by decide) (fun t ht hW => ⟨⟨0, a.2, rfl, rfl, ⟨hlk, by rw [ht]; exact hP, hD⟩⟩, hS.F ht⟩) hS.2.2 dL_refuses_186 hlocks
  · rw [if_pos c_3] at hm
    refine lv_aload_n hx hb dL_refuses_10 rfl (lv_at hl 0 rfl) ?_
    refine lv_bipush (v := 16) hx hb dL_refuses_11 (by decide) ?_
    obtain ⟨q_4, hq_4, hm⟩ := bind_some hm
    have hFc := free_all hD hS hA
    refine vx_calli (vx_runSX (As := [.ref (a.1 0), .int 16]) (rest := []) ⟨hx, hb, hml, hown, hts⟩ (k_L_variable l hfl G a q_1.2.1 F U S D R M q_1.2.2 P hlk 16 q_4.1 q_4.2.1 q_4.2.2 hq_4 H.size) (vx_cwSW 2 hts (gSW wm688 wm689 wm0 wm690) rfl rfl rfl (by decide +kernel) ⟨Nat.le_of_ble_eq_true rfl, Nat.le_of_ble_eq_true rfl⟩) (pre_w hK hP hD hS hE hFc) rfl rfl hl.1 rfl (lv_room (Nat.le_of_ble_eq_true rfl)) dL_refuses_13 ⟨Nat.le_of_ble_eq_true rfl, Nat.le_of_ble_eq_true rfl⟩) hS (fun q _ h => hFc q h) hFc (fun q _ h => hFc q h) (fun E ce q9 u9 t H locs ht hvm hpx hBX hz1 hk1 hS hce hv9 hcl => hpx.elim) (fun r u_5 t H locs ht hvm hw hB hz1 hk1 hS => ?_)
    rw [show r = q_4.1 from hw]
    have hP : va_P (DG G) clP3 (wC G a q_4.2.1 F U S D R M q_4.2.2 P) H := by rw [← ht]; exact hB.1
    have hD : va_D A (wC G a q_4.2.1 F U S D R M q_4.2.2 P) := hB.2.weaken (fun _ p _ h => hFc p.1 h)
    clear hB hFc hw hk1
    refine W.widen (k := 2) (n := 12) (Nat.le_of_ble_eq_true rfl) (Nat.le_of_ble_eq_true rfl) ?_
    refine lv_ldc (v := (-2000000)) hx hb hown (hts _ wm686) dL_refuses_16 ?_
    refine lv_icmp_ne (tgt := 185) hx hb dL_refuses_18 (by decide) (fun c_6 => ?_) (fun c_6 => ?_)
    · rw [if_neg c_6] at hm
      refine lv_iconst (v := 0) hx hb dL_refuses_185 (by decide) ?_
      simp only [Option.some.injEq, Prod.mk.injEq] at hm
      obtain ⟨rfl, rfl, rfl, rfl, rfl, rfl, rfl, rfl, rfl, rfl⟩ := hm
      subst hAe
      refine W.widen (k := 204) (n := 6009) (Nat.le_of_ble_eq_true rfl) (Nat.le_of_ble_eq_true rfl) ?_
      exact W.zret (v := 0) (ty := .boolean) hx hb hr (by decide) (fun t ht hW => ⟨⟨0, a.2, rfl, rfl, ⟨hlk, by rw [ht]; exact hP, hD⟩⟩, hS.F ht⟩) hS.2.2 dL_refuses_186 hlocks
    · rw [if_pos c_6] at hm
      refine lv_aload_n hx hb dL_refuses_21 rfl (lv_at hl 0 rfl) ?_
      refine lv_iload_n hx hb dL_refuses_22 rfl (lv_at hl 1 rfl) ?_
      refine lv_iconst (v := 0) hx hb dL_refuses_23 (by decide) ?_
      obtain ⟨q_7, hq_7, hm⟩ := bind_some hm
      have hFc := free_all hD hS hA
      refine vx_calli (vx_runSX (As := [.ref (a.1 0), .int p1, .int 0]) (rest := []) ⟨hx, hb, hml, hown, hts⟩ (k_L_apply l hfl G a q_4.2.1 F U S D R M q_4.2.2 P hlk p1 0 q_7.1 q_7.2.1 q_7.2.2 hq_7 H.size) (vx_cwSW 3 hts (gSW wm738 wm739 wm0 wm740) rfl rfl rfl (by decide +kernel) ⟨Nat.le_of_ble_eq_true rfl, Nat.le_of_ble_eq_true rfl⟩) (pre_w hK hP hD hS hE hFc) rfl rfl hl.1 rfl (lv_room (Nat.le_of_ble_eq_true rfl)) dL_refuses_24 ⟨Nat.le_of_ble_eq_true rfl, Nat.le_of_ble_eq_true rfl⟩) hS (fun q _ h => hFc q h) hFc (fun q _ h => hFc q h) (fun E ce q9 u9 t H locs ht hvm hpx hBX hz1 hk1 hS hce hv9 hcl => hpx.elim) (fun r u_8 t H locs ht hvm hw hB hz1 hk1 hS => ?_)
      rw [show r = q_7.1 from hw]
      have hP : va_P (DG G) clP3 (wC G a q_7.2.1 F U S D R M q_7.2.2 P) H := by rw [← ht]; exact hB.1
      have hD : va_D A (wC G a q_7.2.1 F U S D R M q_7.2.2 P) := hB.2.weaken (fun _ p _ h => hFc p.1 h)
      clear hB hFc hw hk1
      refine W.widen (k := 5) (n := 30) (Nat.le_of_ble_eq_true rfl) (Nat.le_of_ble_eq_true rfl) ?_
      refine lv_ldc (v := (-2500000)) hx hb hown (hts _ wm730) dL_refuses_27 ?_
      refine lv_icmp_ne (tgt := 185) hx hb dL_refuses_29 (by decide) (fun c_9 => ?_) (fun c_9 => ?_)
      · rw [if_neg c_9] at hm
        refine lv_iconst (v := 0) hx hb dL_refuses_185 (by decide) ?_
        simp only [Option.some.injEq, Prod.mk.injEq] at hm
        obtain ⟨rfl, rfl, rfl, rfl, rfl, rfl, rfl, rfl, rfl, rfl⟩ := hm
        subst hAe
        refine W.widen (k := 204) (n := 6009) (Nat.le_of_ble_eq_true rfl) (Nat.le_of_ble_eq_true rfl) ?_
        exact W.zret (v := 0) (ty := .boolean) hx hb hr (by decide) (fun t ht hW => ⟨⟨0, a.2, rfl, rfl, ⟨hlk, by rw [ht]; exact hP, hD⟩⟩, hS.F ht⟩) hS.2.2 dL_refuses_186 hlocks
      · rw [if_pos c_9] at hm
        refine lv_aload_n hx hb dL_refuses_32 rfl (lv_at hl 0 rfl) ?_
        refine lv_iconst (v := 0) hx hb dL_refuses_33 (by decide) ?_
        refine lv_iconst (v := (-1)) hx hb dL_refuses_34 (by decide) ?_
        obtain ⟨q_10, hq_10, hm⟩ := bind_some hm
        have hFc := free_all hD hS hA
        refine vx_calli (vx_runSX (As := [.ref (a.1 0), .int 0, .int (-1)]) (rest := []) ⟨hx, hb, hml, hown, hts⟩ (k_L_lambda l hfl G a q_7.2.1 F U S D R M q_7.2.2 P hlk 0 (-1) q_10.1 q_10.2.1 q_10.2.2 hq_10 H.size) (vx_cwSW 3 hts (gSW wm731 wm732 wm0 wm733) rfl rfl rfl (by decide +kernel) ⟨Nat.le_of_ble_eq_true rfl, Nat.le_of_ble_eq_true rfl⟩) (pre_w hK hP hD hS hE hFc) rfl rfl hl.1 rfl (lv_room (Nat.le_of_ble_eq_true rfl)) dL_refuses_35 ⟨Nat.le_of_ble_eq_true rfl, Nat.le_of_ble_eq_true rfl⟩) hS (fun q _ h => hFc q h) hFc (fun q _ h => hFc q h) (fun E ce q9 u9 t H locs ht hvm hpx hBX hz1 hk1 hS hce hv9 hcl => hpx.elim) (fun r u_11 t H locs ht hvm hw hB hz1 hk1 hS => ?_)
        rw [show r = q_10.1 from hw]
        have hP : va_P (DG G) clP3 (wC G a q_10.2.1 F U S D R M q_10.2.2 P) H := by rw [← ht]; exact hB.1
        have hD : va_D A (wC G a q_10.2.1 F U S D R M q_10.2.2 P) := hB.2.weaken (fun _ p _ h => hFc p.1 h)
        clear hB hFc hw hk1
        refine W.widen (k := 8) (n := 48) (Nat.le_of_ble_eq_true rfl) (Nat.le_of_ble_eq_true rfl) ?_
        refine lv_ldc (v := (-2500000)) hx hb hown (hts _ wm730) dL_refuses_38 ?_
        refine lv_icmp_ne (tgt := 185) hx hb dL_refuses_40 (by decide) (fun c_12 => ?_) (fun c_12 => ?_)
        · rw [if_neg c_12] at hm
          refine lv_iconst (v := 0) hx hb dL_refuses_185 (by decide) ?_
          simp only [Option.some.injEq, Prod.mk.injEq] at hm
          obtain ⟨rfl, rfl, rfl, rfl, rfl, rfl, rfl, rfl, rfl, rfl⟩ := hm
          subst hAe
          refine W.widen (k := 204) (n := 6009) (Nat.le_of_ble_eq_true rfl) (Nat.le_of_ble_eq_true rfl) ?_
          exact W.zret (v := 0) (ty := .boolean) hx hb hr (by decide) (fun t ht hW => ⟨⟨0, a.2, rfl, rfl, ⟨hlk, by rw [ht]; exact hP, hD⟩⟩, hS.F ht⟩) hS.2.2 dL_refuses_186 hlocks
        · rw [if_pos c_12] at hm
          refine lv_aload_n hx hb dL_refuses_43 rfl (lv_at hl 0 rfl) ?_
          refine lv_iload_n hx hb dL_refuses_44 rfl (lv_at hl 1 rfl) ?_
          refine lv_iload_n hx hb dL_refuses_45 rfl (lv_at hl 1 rfl) ?_
          obtain ⟨q_13, hq_13, hm⟩ := bind_some hm
          have hFc := free_all hD hS hA
          refine vx_calli (vx_runSX (As := [.ref (a.1 0), .int p1, .int p1]) (rest := []) ⟨hx, hb, hml, hown, hts⟩ (k_L_functions l hfl G a q_10.2.1 F U S D R M q_10.2.2 P hlk p1 p1 q_13.1 q_13.2.1 q_13.2.2 hq_13 H.size) (vx_cwSW 3 hts (gSW wm696 wm697 wm0 wm698) rfl rfl rfl (by decide +kernel) ⟨Nat.le_of_ble_eq_true rfl, Nat.le_of_ble_eq_true rfl⟩) (pre_w hK hP hD hS hE hFc) rfl rfl hl.1 rfl (lv_room (Nat.le_of_ble_eq_true rfl)) dL_refuses_46 ⟨Nat.le_of_ble_eq_true rfl, Nat.le_of_ble_eq_true rfl⟩) hS (fun q _ h => hFc q h) hFc (fun q _ h => hFc q h) (fun E ce q9 u9 t H locs ht hvm hpx hBX hz1 hk1 hS hce hv9 hcl => hpx.elim) (fun r u_14 t H locs ht hvm hw hB hz1 hk1 hS => ?_)
          rw [show r = q_13.1 from hw]
          have hP : va_P (DG G) clP3 (wC G a q_13.2.1 F U S D R M q_13.2.2 P) H := by rw [← ht]; exact hB.1
          have hD : va_D A (wC G a q_13.2.1 F U S D R M q_13.2.2 P) := hB.2.weaken (fun _ p _ h => hFc p.1 h)
          clear hB hFc hw hk1
          refine W.widen (k := 11) (n := 66) (Nat.le_of_ble_eq_true rfl) (Nat.le_of_ble_eq_true rfl) ?_
          refine lv_ldc (v := (-2500000)) hx hb hown (hts _ wm730) dL_refuses_49 ?_
          refine lv_icmp_ne (tgt := 185) hx hb dL_refuses_51 (by decide) (fun c_15 => ?_) (fun c_15 => ?_)
          · rw [if_neg c_15] at hm
            refine lv_iconst (v := 0) hx hb dL_refuses_185 (by decide) ?_
            simp only [Option.some.injEq, Prod.mk.injEq] at hm
            obtain ⟨rfl, rfl, rfl, rfl, rfl, rfl, rfl, rfl, rfl, rfl⟩ := hm
            subst hAe
            refine W.widen (k := 204) (n := 6009) (Nat.le_of_ble_eq_true rfl) (Nat.le_of_ble_eq_true rfl) ?_
            exact W.zret (v := 0) (ty := .boolean) hx hb hr (by decide) (fun t ht hW => ⟨⟨0, a.2, rfl, rfl, ⟨hlk, by rw [ht]; exact hP, hD⟩⟩, hS.F ht⟩) hS.2.2 dL_refuses_186 hlocks
          · rw [if_pos c_15] at hm
            refine lv_aload_n hx hb dL_refuses_54 rfl (lv_at hl 0 rfl) ?_
            refine lv_bipush (v := 6) hx hb dL_refuses_55 (by decide) ?_
            obtain ⟨q_16, hq_16, hm⟩ := bind_some hm
            have hFc := free_all hD hS hA
            refine vx_calli (vx_runSX (As := [.ref (a.1 0), .int 6]) (rest := []) ⟨hx, hb, hml, hown, hts⟩ (k_L_dataNode l hfl G a q_13.2.1 F U S D R M q_13.2.2 P hlk 6 q_16.1 q_16.2.1 q_16.2.2 hq_16 H.size) (vx_cwSW 2 hts (gSW wm745 wm746 wm0 wm747) rfl rfl rfl (by decide +kernel) ⟨Nat.le_of_ble_eq_true rfl, Nat.le_of_ble_eq_true rfl⟩) (pre_w hK hP hD hS hE hFc) rfl rfl hl.1 rfl (lv_room (Nat.le_of_ble_eq_true rfl)) dL_refuses_57 ⟨Nat.le_of_ble_eq_true rfl, Nat.le_of_ble_eq_true rfl⟩) hS (fun q _ h => hFc q h) hFc (fun q _ h => hFc q h) (fun E ce q9 u9 t H locs ht hvm hpx hBX hz1 hk1 hS hce hv9 hcl => hpx.elim) (fun r u_17 t H locs ht hvm hw hB hz1 hk1 hS => ?_)
            rw [show r = q_16.1 from hw]
            have hP : va_P (DG G) clP3 (wC G a q_16.2.1 F U S D R M q_16.2.2 P) H := by rw [← ht]; exact hB.1
            have hD : va_D A (wC G a q_16.2.1 F U S D R M q_16.2.2 P) := hB.2.weaken (fun _ p _ h => hFc p.1 h)
            clear hB hFc hw hk1
            refine W.widen (k := 12) (n := 72) (Nat.le_of_ble_eq_true rfl) (Nat.le_of_ble_eq_true rfl) ?_
            refine lv_ldc (v := (-3000000)) hx hb hown (hts _ wm758) dL_refuses_60 ?_
            refine lv_icmp_ne (tgt := 185) hx hb dL_refuses_62 (by decide) (fun c_18 => ?_) (fun c_18 => ?_)
            · rw [if_neg c_18] at hm
              refine lv_iconst (v := 0) hx hb dL_refuses_185 (by decide) ?_
              simp only [Option.some.injEq, Prod.mk.injEq] at hm
              obtain ⟨rfl, rfl, rfl, rfl, rfl, rfl, rfl, rfl, rfl, rfl⟩ := hm
              subst hAe
              refine W.widen (k := 204) (n := 6009) (Nat.le_of_ble_eq_true rfl) (Nat.le_of_ble_eq_true rfl) ?_
              exact W.zret (v := 0) (ty := .boolean) hx hb hr (by decide) (fun t ht hW => ⟨⟨0, a.2, rfl, rfl, ⟨hlk, by rw [ht]; exact hP, hD⟩⟩, hS.F ht⟩) hS.2.2 dL_refuses_186 hlocks
            · rw [if_pos c_18] at hm
              refine lv_aload_n hx hb dL_refuses_65 rfl (lv_at hl 0 rfl) ?_
              refine lv_iload_n hx hb dL_refuses_66 rfl (lv_at hl 3 rfl) ?_
              obtain ⟨q_19, hq_19, hm⟩ := bind_some hm
              have hFc := free_all hD hS hA
              refine vx_calli (vx_runSX (As := [.ref (a.1 0), .int p3]) (rest := []) ⟨hx, hb, hml, hown, hts⟩ (k_L_functionNode l hfl G a q_16.2.1 F U S D R M q_16.2.2 P hlk p3 q_19.1 q_19.2.1 q_19.2.2 hq_19 H.size) (vx_cwSW 2 hts (gSW wm768 wm769 wm0 wm770) rfl rfl rfl (by decide +kernel) ⟨Nat.le_of_ble_eq_true rfl, Nat.le_of_ble_eq_true rfl⟩) (pre_w hK hP hD hS hE hFc) rfl rfl hl.1 rfl (lv_room (Nat.le_of_ble_eq_true rfl)) dL_refuses_67 ⟨Nat.le_of_ble_eq_true rfl, Nat.le_of_ble_eq_true rfl⟩) hS (fun q _ h => hFc q h) hFc (fun q _ h => hFc q h) (fun E ce q9 u9 t H locs ht hvm hpx hBX hz1 hk1 hS hce hv9 hcl => hpx.elim) (fun r u_20 t H locs ht hvm hw hB hz1 hk1 hS => ?_)
              rw [show r = q_19.1 from hw]
              have hP : va_P (DG G) clP3 (wC G a q_19.2.1 F U S D R M q_19.2.2 P) H := by rw [← ht]; exact hB.1
              have hD : va_D A (wC G a q_19.2.1 F U S D R M q_19.2.2 P) := hB.2.weaken (fun _ p _ h => hFc p.1 h)
              clear hB hFc hw hk1
              refine W.widen (k := 14) (n := 84) (Nat.le_of_ble_eq_true rfl) (Nat.le_of_ble_eq_true rfl) ?_
              refine lv_ldc (v := (-3000000)) hx hb hown (hts _ wm758) dL_refuses_70 ?_
              refine lv_icmp_ne (tgt := 185) hx hb dL_refuses_72 (by decide) (fun c_21 => ?_) (fun c_21 => ?_)
              · rw [if_neg c_21] at hm
                refine lv_iconst (v := 0) hx hb dL_refuses_185 (by decide) ?_
                simp only [Option.some.injEq, Prod.mk.injEq] at hm
                obtain ⟨rfl, rfl, rfl, rfl, rfl, rfl, rfl, rfl, rfl, rfl⟩ := hm
                subst hAe
                refine W.widen (k := 204) (n := 6009) (Nat.le_of_ble_eq_true rfl) (Nat.le_of_ble_eq_true rfl) ?_
                exact W.zret (v := 0) (ty := .boolean) hx hb hr (by decide) (fun t ht hW => ⟨⟨0, a.2, rfl, rfl, ⟨hlk, by rw [ht]; exact hP, hD⟩⟩, hS.F ht⟩) hS.2.2 dL_refuses_186 hlocks
              · rw [if_pos c_21] at hm
                refine lv_aload_n hx hb dL_refuses_75 rfl (lv_at hl 0 rfl) ?_
                refine lv_iconst (v := 0) hx hb dL_refuses_76 (by decide) ?_
                refine lv_iconst (v := 4) hx hb dL_refuses_77 (by decide) ?_
                refine lv_iconst (v := 0) hx hb dL_refuses_78 (by decide) ?_
                refine lv_iconst (v := 0) hx hb dL_refuses_79 (by decide) ?_
                refine lv_iconst (v := 0) hx hb dL_refuses_80 (by decide) ?_
                obtain ⟨q_22, hq_22, hm⟩ := bind_some hm
                have hFc := free_all hD hS hA
                refine vx_calli (vx_runSX (As := [.ref (a.1 0), .int 0, .int 4, .int 0, .int 0, .int 0]) (rest := []) ⟨hx, hb, hml, hown, hts⟩ (k_L_addConstructor l hfl G a q_19.2.1 F U S D R M q_19.2.2 P hlk 0 4 0 0 0 q_22.1 q_22.2.1 q_22.2.2 hq_22 H.size) (vx_cwSW 6 hts (gSW wm787 wm788 wm0 wm789) rfl rfl rfl (by decide +kernel) ⟨Nat.le_of_ble_eq_true rfl, Nat.le_of_ble_eq_true rfl⟩) (pre_w hK hP hD hS hE hFc) rfl rfl hl.1 rfl (lv_room (Nat.le_of_ble_eq_true rfl)) dL_refuses_81 ⟨Nat.le_of_ble_eq_true rfl, Nat.le_of_ble_eq_true rfl⟩) hS (fun q _ h => hFc q h) hFc (fun q _ h => hFc q h) (fun E ce q9 u9 t H locs ht hvm hpx hBX hz1 hk1 hS hce hv9 hcl => hpx.elim) (fun r u_23 t H locs ht hvm hw hB hz1 hk1 hS => ?_)
                rw [show r = q_22.1 from hw]
                have hP : va_P (DG G) clP3 (wC G a q_22.2.1 F U q_22.2.2 D R M q_19.2.2 P) H := by rw [← ht]; exact hB.1
                have hD : va_D A (wC G a q_22.2.1 F U q_22.2.2 D R M q_19.2.2 P) := hB.2.weaken (fun _ p _ h => hFc p.1 h)
                clear hB hFc hw hk1
                refine W.widen (k := 15) (n := 90) (Nat.le_of_ble_eq_true rfl) (Nat.le_of_ble_eq_true rfl) ?_
                refine lv_ldc (v := (-2000000)) hx hb hown (hts _ wm686) dL_refuses_84 ?_
                refine lv_icmp_ne (tgt := 185) hx hb dL_refuses_86 (by decide) (fun c_24 => ?_) (fun c_24 => ?_)
                · rw [if_neg c_24] at hm
                  refine lv_iconst (v := 0) hx hb dL_refuses_185 (by decide) ?_
                  simp only [Option.some.injEq, Prod.mk.injEq] at hm
                  obtain ⟨rfl, rfl, rfl, rfl, rfl, rfl, rfl, rfl, rfl, rfl⟩ := hm
                  subst hAe
                  refine W.widen (k := 204) (n := 6009) (Nat.le_of_ble_eq_true rfl) (Nat.le_of_ble_eq_true rfl) ?_
                  exact W.zret (v := 0) (ty := .boolean) hx hb hr (by decide) (fun t ht hW => ⟨⟨0, a.2, rfl, rfl, ⟨hlk, by rw [ht]; exact hP, hD⟩⟩, hS.F ht⟩) hS.2.2 dL_refuses_186 hlocks
                · rw [if_pos c_24] at hm
                  refine lv_aload_n hx hb dL_refuses_89 rfl (lv_at hl 0 rfl) ?_
                  refine lv_iload_n hx hb dL_refuses_90 rfl (lv_at hl 1 rfl) ?_
                  obtain ⟨q_25, hq_25, hm⟩ := bind_some hm
                  have hFc := free_all hD hS hA
                  refine vx_calli (vx_runSX (As := [.ref (a.1 0), .int p1]) (rest := []) ⟨hx, hb, hml, hown, hts⟩ (k_L_size l hfl G a q_22.2.1 F U q_22.2.2 D R M q_19.2.2 P hlk p1 q_25 hq_25 H.size) (vx_cwSW 2 hts (gSW wm1251 wm1252 wm0 wm1253) rfl rfl rfl (by decide +kernel) ⟨Nat.le_of_ble_eq_true rfl, Nat.le_of_ble_eq_true rfl⟩) (pre_w hK hP hD hS hE hFc) rfl rfl hl.1 rfl (lv_room (Nat.le_of_ble_eq_true rfl)) dL_refuses_91 ⟨Nat.le_of_ble_eq_true rfl, Nat.le_of_ble_eq_true rfl⟩) hS (fun q _ h => hFc q h) hFc (fun q _ h => hFc q h) (fun E ce q9 u9 t H locs ht hvm hpx hBX hz1 hk1 hS hce hv9 hcl => hpx.elim) (fun r u_26 t H locs ht hvm hw hB hz1 hk1 hS => ?_)
                  rw [show r = q_25 from hw]
                  have hP : va_P (DG G) clP3 (wC G a q_22.2.1 F U q_22.2.2 D R M q_19.2.2 P) H := by rw [← ht]; exact hB.1
                  have hD : va_D A (wC G a q_22.2.1 F U q_22.2.2 D R M q_19.2.2 P) := hB.2.weaken (fun _ p _ h => hFc p.1 h)
                  clear hB hFc hw hk1
                  refine W.widen (k := 16) (n := 96) (Nat.le_of_ble_eq_true rfl) (Nat.le_of_ble_eq_true rfl) ?_
                  refine lv_ldc (v := (-2500000)) hx hb hown (hts _ wm730) dL_refuses_94 ?_
                  refine lv_icmp_ne (tgt := 185) hx hb dL_refuses_96 (by decide) (fun c_27 => ?_) (fun c_27 => ?_)
                  · rw [if_neg c_27] at hm
                    refine lv_iconst (v := 0) hx hb dL_refuses_185 (by decide) ?_
                    simp only [Option.some.injEq, Prod.mk.injEq] at hm
                    obtain ⟨rfl, rfl, rfl, rfl, rfl, rfl, rfl, rfl, rfl, rfl⟩ := hm
                    subst hAe
                    refine W.widen (k := 204) (n := 6009) (Nat.le_of_ble_eq_true rfl) (Nat.le_of_ble_eq_true rfl) ?_
                    exact W.zret (v := 0) (ty := .boolean) hx hb hr (by decide) (fun t ht hW => ⟨⟨0, a.2, rfl, rfl, ⟨hlk, by rw [ht]; exact hP, hD⟩⟩, hS.F ht⟩) hS.2.2 dL_refuses_186 hlocks
                  · rw [if_pos c_27] at hm
                    refine lv_aload_n hx hb dL_refuses_99 rfl (lv_at hl 0 rfl) ?_
                    refine lv_iconst (v := (-1)) hx hb dL_refuses_100 (by decide) ?_
                    obtain ⟨q_28, hq_28, hm⟩ := bind_some hm
                    have hFc := free_all hD hS hA
                    refine vx_calli (vx_runSX (As := [.ref (a.1 0), .int (-1)]) (rest := []) ⟨hx, hb, hml, hown, hts⟩ (k_L_normal l hfl G a q_22.2.1 F U q_22.2.2 D R M q_19.2.2 P hlk (-1) q_28.1 q_28.2.1 q_28.2.2 hq_28 H.size) (vx_cwSW 2 hts (gSW wm807 wm808 wm0 wm809) rfl rfl rfl (by decide +kernel) ⟨Nat.le_of_ble_eq_true rfl, Nat.le_of_ble_eq_true rfl⟩) (pre_w hK hP hD hS hE hFc) rfl rfl hl.1 rfl (lv_room (Nat.le_of_ble_eq_true rfl)) dL_refuses_101 ⟨Nat.le_of_ble_eq_true rfl, Nat.le_of_ble_eq_true rfl⟩) hS (fun q _ h => hFc q h) hFc (fun q _ h => hFc q h) (fun E ce q9 u9 t H locs ht hvm hpx hBX hz1 hk1 hS hce hv9 hcl => hpx.elim) (fun r u_29 t H locs ht hvm hw hB hz1 hk1 hS => ?_)
                    rw [show r = q_28.1 from hw]
                    have hP : va_P (DG G) clP3 (wC G a q_28.2.1 q_28.2.2 U q_22.2.2 D R M q_19.2.2 P) H := by rw [← ht]; exact hB.1
                    have hD : va_D A (wC G a q_28.2.1 q_28.2.2 U q_22.2.2 D R M q_19.2.2 P) := hB.2.weaken (fun _ p _ h => hFc p.1 h)
                    clear hB hFc hw hk1
                    refine W.widen (k := 18) (n := 108) (Nat.le_of_ble_eq_true rfl) (Nat.le_of_ble_eq_true rfl) ?_
                    refine lv_ldc (v := (-2500000)) hx hb hown (hts _ wm730) dL_refuses_104 ?_
                    refine lv_icmp_ne (tgt := 185) hx hb dL_refuses_106 (by decide) (fun c_30 => ?_) (fun c_30 => ?_)
                    · rw [if_neg c_30] at hm
                      refine lv_iconst (v := 0) hx hb dL_refuses_185 (by decide) ?_
                      simp only [Option.some.injEq, Prod.mk.injEq] at hm
                      obtain ⟨rfl, rfl, rfl, rfl, rfl, rfl, rfl, rfl, rfl, rfl⟩ := hm
                      subst hAe
                      refine W.widen (k := 204) (n := 6009) (Nat.le_of_ble_eq_true rfl) (Nat.le_of_ble_eq_true rfl) ?_
                      exact W.zret (v := 0) (ty := .boolean) hx hb hr (by decide) (fun t ht hW => ⟨⟨0, a.2, rfl, rfl, ⟨hlk, by rw [ht]; exact hP, hD⟩⟩, hS.F ht⟩) hS.2.2 dL_refuses_186 hlocks
                    · rw [if_pos c_30] at hm
                      refine lv_aload_n hx hb dL_refuses_109 rfl (lv_at hl 0 rfl) ?_
                      refine lv_iload_n hx hb dL_refuses_110 rfl (lv_at hl 1 rfl) ?_
                      obtain ⟨q_31, hq_31, hm⟩ := bind_some hm
                      have hFc := free_all hD hS hA
                      refine vx_calli (vx_runSX (As := [.ref (a.1 0), .int p1]) (rest := []) ⟨hx, hb, hml, hown, hts⟩ (k_L_declare l hfl G a q_28.2.1 q_28.2.2 U q_22.2.2 D R M q_19.2.2 P hlk p1 q_31.1 q_31.2.1 q_31.2.2.1 q_31.2.2.2.1 q_31.2.2.2.2.1 q_31.2.2.2.2.2 hq_31 H.size) (vx_cwSW 2 hts (gSW wm855 wm856 wm0 wm857) rfl rfl rfl (by decide +kernel) ⟨Nat.le_of_ble_eq_true rfl, Nat.le_of_ble_eq_true rfl⟩) (pre_w hK hP hD hS hE hFc) rfl rfl hl.1 rfl (lv_room (Nat.le_of_ble_eq_true rfl)) dL_refuses_111 ⟨Nat.le_of_ble_eq_true rfl, Nat.le_of_ble_eq_true rfl⟩) hS (fun q _ h => hFc q h) hFc (fun q _ h => hFc q h) (fun E ce q9 u9 t H locs ht hvm hpx hBX hz1 hk1 hS hce hv9 hcl => hpx.elim) (fun r u_32 t H locs ht hvm hw hB hz1 hk1 hS => ?_)
                      rw [show r = q_31.1 from hw]
                      have hlk : lkA (a.1, u_32) (Int32.toNatClampNeg q_31.2.2.2.2.1.1) (Int32.toNatClampNeg q_31.2.2.2.2.1.2.1) := hB.1
                      have hP : va_P (DG G) clP3 (wC G (a.1, u_32) q_31.2.1 q_31.2.2.1 q_31.2.2.2.1 q_22.2.2 q_31.2.2.2.2.1 R M q_19.2.2 q_31.2.2.2.2.2) H := by rw [← ht]; exact hB.2.1
                      have hD : va_D A (wC G (a.1, u_32) q_31.2.1 q_31.2.2.1 q_31.2.2.2.1 q_22.2.2 q_31.2.2.2.2.1 R M q_19.2.2 q_31.2.2.2.2.2) := hB.2.2.weaken (fun _ p _ h => hFc p.1 h)
                      clear hB hFc hw hk1
                      refine W.widen (k := 24) (n := 255) (Nat.le_of_ble_eq_true rfl) (Nat.le_of_ble_eq_true rfl) ?_
                      refine lv_ldc (v := (-2500000)) hx hb hown (hts _ wm730) dL_refuses_114 ?_
                      refine lv_icmp_ne (tgt := 185) hx hb dL_refuses_116 (by decide) (fun c_33 => ?_) (fun c_33 => ?_)
                      · rw [if_neg c_33] at hm
                        refine lv_iconst (v := 0) hx hb dL_refuses_185 (by decide) ?_
                        simp only [Option.some.injEq, Prod.mk.injEq] at hm
                        obtain ⟨rfl, rfl, rfl, rfl, rfl, rfl, rfl, rfl, rfl, rfl⟩ := hm
                        subst hAe
                        refine W.widen (k := 204) (n := 6009) (Nat.le_of_ble_eq_true rfl) (Nat.le_of_ble_eq_true rfl) ?_
                        exact W.zret (v := 0) (ty := .boolean) hx hb hr (by decide) (fun t ht hW => ⟨⟨0, u_32, rfl, rfl, ⟨hlk, by rw [ht]; exact hP, hD⟩⟩, hS.F ht⟩) hS.2.2 dL_refuses_186 hlocks
                      · rw [if_pos c_33] at hm
                        refine lv_aload_n hx hb dL_refuses_119 rfl (lv_at hl 0 rfl) ?_
                        refine lv_iload_n hx hb dL_refuses_120 rfl (lv_at hl 2 rfl) ?_
                        refine lv_iconst (v := 0) hx hb dL_refuses_121 (by decide) ?_
                        obtain ⟨q_34, hq_34, hm⟩ := bind_some hm
                        have hFc := free_all hD hS hA
                        refine vx_calli (vx_runSX (As := [.ref (a.1 0), .int p2, .int 0]) (rest := []) ⟨hx, hb, hml, hown, hts⟩ (k_L_split l hfl G (a.1, u_32) q_31.2.1 q_31.2.2.1 q_31.2.2.2.1 q_22.2.2 q_31.2.2.2.2.1 R M q_19.2.2 q_31.2.2.2.2.2 hlk p2 0 q_34.1 q_34.2.1 q_34.2.2.1 q_34.2.2.2.1 q_34.2.2.2.2.1 q_34.2.2.2.2.2 hq_34 H.size) (vx_cwSW 3 hts (gSW wm949 wm950 wm0 wm951) rfl rfl rfl (by decide +kernel) ⟨Nat.le_of_ble_eq_true rfl, Nat.le_of_ble_eq_true rfl⟩) (pre_w hK hP hD hS hE hFc) rfl rfl hl.1 rfl (lv_room (Nat.le_of_ble_eq_true rfl)) dL_refuses_122 ⟨Nat.le_of_ble_eq_true rfl, Nat.le_of_ble_eq_true rfl⟩) hS (fun q _ h => hFc q h) hFc (fun q _ h => hFc q h) (fun E ce q9 u9 t H locs ht hvm hpx hBX hz1 hk1 hS hce hv9 hcl => hpx.elim) (fun r u_35 t H locs ht hvm hw hB hz1 hk1 hS => ?_)
                        rw [show r = q_34.1 from hw]
                        have hlk : lkA (a.1, u_35) (Int32.toNatClampNeg q_34.2.2.2.2.1.1) (Int32.toNatClampNeg q_34.2.2.2.2.1.2.1) := hB.1
                        have hP : va_P (DG G) clP3 (wC G (a.1, u_35) q_34.2.1 q_34.2.2.1 q_31.2.2.2.1 q_34.2.2.2.1 q_34.2.2.2.2.1 R M q_19.2.2 q_34.2.2.2.2.2) H := by rw [← ht]; exact hB.2.1
                        have hD : va_D A (wC G (a.1, u_35) q_34.2.1 q_34.2.2.1 q_31.2.2.2.1 q_34.2.2.2.1 q_34.2.2.2.2.1 R M q_19.2.2 q_34.2.2.2.2.2) := hB.2.2.weaken (fun _ p _ h => hFc p.1 h)
                        clear hB hFc hw hk1
                        refine W.widen (k := 191) (n := 5931) (Nat.le_of_ble_eq_true rfl) (Nat.le_of_ble_eq_true rfl) ?_
                        refine lv_ldc (v := (-3000000)) hx hb hown (hts _ wm758) dL_refuses_125 ?_
                        refine lv_icmp_ne (tgt := 185) hx hb dL_refuses_127 (by decide) (fun c_36 => ?_) (fun c_36 => ?_)
                        · rw [if_neg c_36] at hm
                          refine lv_iconst (v := 0) hx hb dL_refuses_185 (by decide) ?_
                          simp only [Option.some.injEq, Prod.mk.injEq] at hm
                          obtain ⟨rfl, rfl, rfl, rfl, rfl, rfl, rfl, rfl, rfl, rfl⟩ := hm
                          subst hAe
                          refine W.widen (k := 204) (n := 6009) (Nat.le_of_ble_eq_true rfl) (Nat.le_of_ble_eq_true rfl) ?_
                          exact W.zret (v := 0) (ty := .boolean) hx hb hr (by decide) (fun t ht hW => ⟨⟨0, u_35, rfl, rfl, ⟨hlk, by rw [ht]; exact hP, hD⟩⟩, hS.F ht⟩) hS.2.2 dL_refuses_186 hlocks
                        · rw [if_pos c_36] at hm
                          refine lv_aload_n hx hb dL_refuses_130 rfl (lv_at hl 0 rfl) ?_
                          refine lv_iload_n hx hb dL_refuses_131 rfl (lv_at hl 2 rfl) ?_
                          refine lv_iconst (v := 0) hx hb dL_refuses_132 (by decide) ?_
                          obtain ⟨q_37, hq_37, hm⟩ := bind_some hm
                          have hFc := free_all hD hS hA
                          refine vx_calli (vx_runSX (As := [.ref (a.1 0), .int p2, .int 0]) (rest := []) ⟨hx, hb, hml, hown, hts⟩ (k_L_fill l hfl G (a.1, u_35) q_34.2.1 q_34.2.2.1 q_31.2.2.2.1 q_34.2.2.2.1 q_34.2.2.2.2.1 R M q_19.2.2 q_34.2.2.2.2.2 hlk p2 0 q_37.1 q_37.2.1 q_37.2.2.1 q_37.2.2.2.1 q_37.2.2.2.2 hq_37 H.size) (vx_cwSW 3 hts (gSW wm1019 wm1020 wm0 wm1021) rfl rfl rfl (by decide +kernel) ⟨Nat.le_of_ble_eq_true rfl, Nat.le_of_ble_eq_true rfl⟩) (pre_w hK hP hD hS hE hFc) rfl rfl hl.1 rfl (lv_room (Nat.le_of_ble_eq_true rfl)) dL_refuses_133 ⟨Nat.le_of_ble_eq_true rfl, Nat.le_of_ble_eq_true rfl⟩) hS (fun q _ h => hFc q h) hFc (fun q _ h => hFc q h) (fun E ce q9 u9 t H locs ht hvm hpx hBX hz1 hk1 hS hce hv9 hcl => hpx.elim) (fun r u_38 t H locs ht hvm hw hB hz1 hk1 hS => ?_)
                          rw [show r = q_37.1 from hw]
                          have hP : va_P (DG G) clP3 (wC G (a.1, u_35) q_37.2.1 q_37.2.2.1 q_37.2.2.2.1 q_34.2.2.2.1 q_34.2.2.2.2.1 R M q_19.2.2 q_37.2.2.2.2) H := by rw [← ht]; exact hB.1
                          have hD : va_D A (wC G (a.1, u_35) q_37.2.1 q_37.2.2.1 q_37.2.2.2.1 q_34.2.2.2.1 q_34.2.2.2.2.1 R M q_19.2.2 q_37.2.2.2.2) := hB.2.weaken (fun _ p _ h => hFc p.1 h)
                          clear hB hFc hw hk1
                          refine W.widen (k := 195) (n := 5955) (Nat.le_of_ble_eq_true rfl) (Nat.le_of_ble_eq_true rfl) ?_
                          refine lv_ldc (v := (-3000000)) hx hb hown (hts _ wm758) dL_refuses_136 ?_
                          refine lv_icmp_ne (tgt := 185) hx hb dL_refuses_138 (by decide) (fun c_39 => ?_) (fun c_39 => ?_)
                          · rw [if_neg c_39] at hm
                            refine lv_iconst (v := 0) hx hb dL_refuses_185 (by decide) ?_
                            simp only [Option.some.injEq, Prod.mk.injEq] at hm
                            obtain ⟨rfl, rfl, rfl, rfl, rfl, rfl, rfl, rfl, rfl, rfl⟩ := hm
                            subst hAe
                            refine W.widen (k := 204) (n := 6009) (Nat.le_of_ble_eq_true rfl) (Nat.le_of_ble_eq_true rfl) ?_
                            exact W.zret (v := 0) (ty := .boolean) hx hb hr (by decide) (fun t ht hW => ⟨⟨0, u_35, rfl, rfl, ⟨hlk, by rw [ht]; exact hP, hD⟩⟩, hS.F ht⟩) hS.2.2 dL_refuses_186 hlocks
                          · rw [if_pos c_39] at hm
                            refine lv_aload_n hx hb dL_refuses_141 rfl (lv_at hl 0 rfl) ?_
                            refine lv_iload_n hx hb dL_refuses_142 rfl (lv_at hl 2 rfl) ?_
                            obtain ⟨q_40, hq_40, hm⟩ := bind_some hm
                            have hFc := free_all hD hS hA
                            refine vx_calli (vx_runSX (As := [.ref (a.1 0), .int p2]) (rest := []) ⟨hx, hb, hml, hown, hts⟩ (k_L_auto l hfl G (a.1, u_35) q_37.2.1 q_37.2.2.1 q_37.2.2.2.1 q_34.2.2.2.1 q_34.2.2.2.2.1 R M q_19.2.2 q_37.2.2.2.2 hlk p2 q_40.1 q_40.2.1 q_40.2.2 hq_40 H.size) (vx_cwSW 2 hts (gSW wm1040 wm1041 wm0 wm1042) rfl rfl rfl (by decide +kernel) ⟨Nat.le_of_ble_eq_true rfl, Nat.le_of_ble_eq_true rfl⟩) (pre_w hK hP hD hS hE hFc) rfl rfl hl.1 rfl (lv_room (Nat.le_of_ble_eq_true rfl)) dL_refuses_143 ⟨Nat.le_of_ble_eq_true rfl, Nat.le_of_ble_eq_true rfl⟩) hS (fun q _ h => hFc q h) hFc (fun q _ h => hFc q h) (fun E ce q9 u9 t H locs ht hvm hpx hBX hz1 hk1 hS hce hv9 hcl => hpx.elim) (fun r u_41 t H locs ht hvm hw hB hz1 hk1 hS => ?_)
                            rw [show r = q_40.1 from hw]
                            have hP : va_P (DG G) clP3 (wC G (a.1, u_35) q_40.2.1 q_37.2.2.1 q_37.2.2.2.1 q_34.2.2.2.1 q_34.2.2.2.2.1 R M q_19.2.2 q_40.2.2) H := by rw [← ht]; exact hB.1
                            have hD : va_D A (wC G (a.1, u_35) q_40.2.1 q_37.2.2.1 q_37.2.2.2.1 q_34.2.2.2.1 q_34.2.2.2.2.1 R M q_19.2.2 q_40.2.2) := hB.2.weaken (fun _ p _ h => hFc p.1 h)
                            clear hB hFc hw hk1
                            refine W.widen (k := 198) (n := 5973) (Nat.le_of_ble_eq_true rfl) (Nat.le_of_ble_eq_true rfl) ?_
                            refine lv_ldc (v := (-3000000)) hx hb hown (hts _ wm758) dL_refuses_146 ?_
                            refine lv_icmp_ne (tgt := 185) hx hb dL_refuses_148 (by decide) (fun c_42 => ?_) (fun c_42 => ?_)
                            · rw [if_neg c_42] at hm
                              refine lv_iconst (v := 0) hx hb dL_refuses_185 (by decide) ?_
                              simp only [Option.some.injEq, Prod.mk.injEq] at hm
                              obtain ⟨rfl, rfl, rfl, rfl, rfl, rfl, rfl, rfl, rfl, rfl⟩ := hm
                              subst hAe
                              refine W.widen (k := 204) (n := 6009) (Nat.le_of_ble_eq_true rfl) (Nat.le_of_ble_eq_true rfl) ?_
                              exact W.zret (v := 0) (ty := .boolean) hx hb hr (by decide) (fun t ht hW => ⟨⟨0, u_35, rfl, rfl, ⟨hlk, by rw [ht]; exact hP, hD⟩⟩, hS.F ht⟩) hS.2.2 dL_refuses_186 hlocks
                            · rw [if_pos c_42] at hm
                              refine lv_aload_n hx hb dL_refuses_151 rfl (lv_at hl 0 rfl) ?_
                              refine lv_iload_n hx hb dL_refuses_152 rfl (lv_at hl 2 rfl) ?_
                              obtain ⟨q_43, hq_43, hm⟩ := bind_some hm
                              have hFc := free_all hD hS hA
                              refine vx_calli (vx_runSX (As := [.ref (a.1 0), .int p2]) (rest := []) ⟨hx, hb, hml, hown, hts⟩ (k_L_reopen l hfl G (a.1, u_35) q_40.2.1 q_37.2.2.1 q_37.2.2.2.1 q_34.2.2.2.1 q_34.2.2.2.2.1 R M q_19.2.2 q_40.2.2 hlk p2 q_43.1 q_43.2 hq_43 H.size) (vx_cwSW 2 hts (gSW wm1053 wm1054 wm0 wm1055) rfl rfl rfl (by decide +kernel) ⟨Nat.le_of_ble_eq_true rfl, Nat.le_of_ble_eq_true rfl⟩) (pre_w hK hP hD hS hE hFc) rfl rfl hl.1 rfl (lv_room (Nat.le_of_ble_eq_true rfl)) dL_refuses_153 ⟨Nat.le_of_ble_eq_true rfl, Nat.le_of_ble_eq_true rfl⟩) hS (fun q _ h => hFc q h) hFc (fun q _ h => hFc q h) (fun E ce q9 u9 t H locs ht hvm hpx hBX hz1 hk1 hS hce hv9 hcl => hpx.elim) (fun r u_44 t H locs ht hvm hw hB hz1 hk1 hS => ?_)
                              rw [show r = q_43.1 from hw]
                              have hP : va_P (DG G) clP3 (wC G (a.1, u_35) q_40.2.1 q_37.2.2.1 q_37.2.2.2.1 q_34.2.2.2.1 q_34.2.2.2.2.1 R M q_19.2.2 q_43.2) H := by rw [← ht]; exact hB.1
                              have hD : va_D A (wC G (a.1, u_35) q_40.2.1 q_37.2.2.1 q_37.2.2.2.1 q_34.2.2.2.1 q_34.2.2.2.2.1 R M q_19.2.2 q_43.2) := hB.2.weaken (fun _ p _ h => hFc p.1 h)
                              clear hB hFc hw hk1
                              refine W.widen (k := 200) (n := 5985) (Nat.le_of_ble_eq_true rfl) (Nat.le_of_ble_eq_true rfl) ?_
                              refine lv_ldc (v := (-3000000)) hx hb hown (hts _ wm758) dL_refuses_156 ?_
                              refine lv_icmp_ne (tgt := 185) hx hb dL_refuses_158 (by decide) (fun c_45 => ?_) (fun c_45 => ?_)
                              · rw [if_neg c_45] at hm
                                refine lv_iconst (v := 0) hx hb dL_refuses_185 (by decide) ?_
                                simp only [Option.some.injEq, Prod.mk.injEq] at hm
                                obtain ⟨rfl, rfl, rfl, rfl, rfl, rfl, rfl, rfl, rfl, rfl⟩ := hm
                                subst hAe
                                refine W.widen (k := 204) (n := 6009) (Nat.le_of_ble_eq_true rfl) (Nat.le_of_ble_eq_true rfl) ?_
                                exact W.zret (v := 0) (ty := .boolean) hx hb hr (by decide) (fun t ht hW => ⟨⟨0, u_35, rfl, rfl, ⟨hlk, by rw [ht]; exact hP, hD⟩⟩, hS.F ht⟩) hS.2.2 dL_refuses_186 hlocks
                              · rw [if_pos c_45] at hm
                                refine lv_aload_n hx hb dL_refuses_161 rfl (lv_at hl 0 rfl) ?_
                                refine lv_iload_n hx hb dL_refuses_162 rfl (lv_at hl 3 rfl) ?_
                                obtain ⟨q_46, hq_46, hm⟩ := bind_some hm
                                have hFc := free_all hD hS hA
                                refine vx_calli (vx_runSX (As := [.ref (a.1 0), .int p3]) (rest := []) ⟨hx, hb, hml, hown, hts⟩ (k_L_accept l hfl G (a.1, u_35) q_40.2.1 q_37.2.2.1 q_37.2.2.2.1 q_34.2.2.2.1 q_34.2.2.2.2.1 R M q_19.2.2 q_43.2 hlk p3 q_46.1 q_46.2.1 q_46.2.2 hq_46 H.size) (vx_cwSW 2 hts (gSW wm1094 wm1095 wm0 wm1096) rfl rfl rfl (by decide +kernel) ⟨Nat.le_of_ble_eq_true rfl, Nat.le_of_ble_eq_true rfl⟩) (pre_w hK hP hD hS hE hFc) rfl rfl hl.1 rfl (lv_room (Nat.le_of_ble_eq_true rfl)) dL_refuses_163 ⟨Nat.le_of_ble_eq_true rfl, Nat.le_of_ble_eq_true rfl⟩) hS (fun q _ h => hFc q h) hFc (fun q _ h => hFc q h) (fun E ce q9 u9 t H locs ht hvm hpx hBX hz1 hk1 hS hce hv9 hcl => hpx.elim) (fun r u_47 t H locs ht hvm hw hB hz1 hk1 hS => ?_)
                                rw [show r = q_46.1 from hw]
                                have hlk : lkA (a.1, u_47) (Int32.toNatClampNeg q_46.2.1.1) (Int32.toNatClampNeg q_46.2.1.2.1) := hB.1
                                have hP : va_P (DG G) clP3 (wC G (a.1, u_47) q_40.2.1 q_37.2.2.1 q_37.2.2.2.1 q_34.2.2.2.1 q_46.2.1 q_46.2.2 M q_19.2.2 q_43.2) H := by rw [← ht]; exact hB.2.1
                                have hD : va_D A (wC G (a.1, u_47) q_40.2.1 q_37.2.2.1 q_37.2.2.2.1 q_34.2.2.2.1 q_46.2.1 q_46.2.2 M q_19.2.2 q_43.2) := hB.2.2.weaken (fun _ p _ h => hFc p.1 h)
                                clear hB hFc hw hk1
                                refine W.widen (k := 202) (n := 5997) (Nat.le_of_ble_eq_true rfl) (Nat.le_of_ble_eq_true rfl) ?_
                                refine lv_ldc (v := (-3000000)) hx hb hown (hts _ wm758) dL_refuses_166 ?_
                                refine lv_icmp_ne (tgt := 185) hx hb dL_refuses_168 (by decide) (fun c_48 => ?_) (fun c_48 => ?_)
                                · rw [if_neg c_48] at hm
                                  refine lv_iconst (v := 0) hx hb dL_refuses_185 (by decide) ?_
                                  simp only [Option.some.injEq, Prod.mk.injEq] at hm
                                  obtain ⟨rfl, rfl, rfl, rfl, rfl, rfl, rfl, rfl, rfl, rfl⟩ := hm
                                  subst hAe
                                  refine W.widen (k := 204) (n := 6009) (Nat.le_of_ble_eq_true rfl) (Nat.le_of_ble_eq_true rfl) ?_
                                  exact W.zret (v := 0) (ty := .boolean) hx hb hr (by decide) (fun t ht hW => ⟨⟨0, u_47, rfl, rfl, ⟨hlk, by rw [ht]; exact hP, hD⟩⟩, hS.F ht⟩) hS.2.2 dL_refuses_186 hlocks
                                · rw [if_pos c_48] at hm
                                  refine lv_aload_n hx hb dL_refuses_171 rfl (lv_at hl 0 rfl) ?_
                                  refine lv_iload_n hx hb dL_refuses_172 rfl (lv_at hl 1 rfl) ?_
                                  obtain ⟨q_49, hq_49, hm⟩ := bind_some hm
                                  have hFc := free_all hD hS hA
                                  refine vx_calli (vx_runSX (As := [.ref (a.1 0), .int p1]) (rest := []) ⟨hx, hb, hml, hown, hts⟩ (k_L_run l hfl G (a.1, u_47) q_40.2.1 q_37.2.2.1 q_37.2.2.2.1 q_34.2.2.2.1 q_46.2.1 q_46.2.2 M q_19.2.2 q_43.2 hlk p1 q_49.1 q_49.2.1 q_49.2.2.1 q_49.2.2.2.1 q_49.2.2.2.2.1 q_49.2.2.2.2.2 hq_49 H.size) (vx_cwSW 2 hts (gSW wm1151 wm1152 wm0 wm1153) rfl rfl rfl (by decide +kernel) ⟨Nat.le_of_ble_eq_true rfl, Nat.le_of_ble_eq_true rfl⟩) (pre_w hK hP hD hS hE hFc) rfl rfl hl.1 rfl (lv_room (Nat.le_of_ble_eq_true rfl)) dL_refuses_173 ⟨Nat.le_of_ble_eq_true rfl, Nat.le_of_ble_eq_true rfl⟩) hS (fun q _ h => hFc q h) hFc (fun q _ h => hFc q h) (fun E ce q9 u9 t H locs ht hvm hpx hBX hz1 hk1 hS hce hv9 hcl => hpx.elim) (fun r u_50 t H locs ht hvm hw hB hz1 hk1 hS => ?_)
                                  rw [show r = q_49.1 from hw]
                                  have hP : va_P (DG G) clP3 (wC G (a.1, u_47) q_49.2.1 q_49.2.2.1 q_49.2.2.2.1 q_34.2.2.2.1 q_46.2.1 q_46.2.2 q_49.2.2.2.2.1 q_49.2.2.2.2.2 q_43.2) H := by rw [← ht]; exact hB.1
                                  have hD : va_D A (wC G (a.1, u_47) q_49.2.1 q_49.2.2.1 q_49.2.2.2.1 q_34.2.2.2.1 q_46.2.1 q_46.2.2 q_49.2.2.2.2.1 q_49.2.2.2.2.2 q_43.2) := hB.2.weaken (fun _ p _ h => hFc p.1 h)
                                  clear hB hFc hw hk1
                                  refine W.widen (k := 204) (n := 6009) (Nat.le_of_ble_eq_true rfl) (Nat.le_of_ble_eq_true rfl) ?_
                                  refine lv_ldc (v := (-2500000)) hx hb hown (hts _ wm730) dL_refuses_176 ?_
                                  refine lv_icmp_ne (tgt := 185) hx hb dL_refuses_178 (by decide) (fun c_51 => ?_) (fun c_51 => ?_)
                                  · rw [if_neg c_51] at hm
                                    refine lv_iconst (v := 0) hx hb dL_refuses_185 (by decide) ?_
                                    simp only [Option.some.injEq, Prod.mk.injEq] at hm
                                    obtain ⟨rfl, rfl, rfl, rfl, rfl, rfl, rfl, rfl, rfl, rfl⟩ := hm
                                    subst hAe
                                    refine W.widen (k := 204) (n := 6009) (Nat.le_of_ble_eq_true rfl) (Nat.le_of_ble_eq_true rfl) ?_
                                    exact W.zret (v := 0) (ty := .boolean) hx hb hr (by decide) (fun t ht hW => ⟨⟨0, u_47, rfl, rfl, ⟨hlk, by rw [ht]; exact hP, hD⟩⟩, hS.F ht⟩) hS.2.2 dL_refuses_186 hlocks
                                  · rw [if_pos c_51] at hm
                                    refine lv_iconst (v := 1) hx hb dL_refuses_181 (by decide) ?_
                                    refine lv_goto (tgt := 186) hx hb dL_refuses_182 (by decide) ?_
                                    simp only [Option.some.injEq, Prod.mk.injEq] at hm
                                    obtain ⟨rfl, rfl, rfl, rfl, rfl, rfl, rfl, rfl, rfl, rfl⟩ := hm
                                    subst hAe
                                    refine W.widen (k := 204) (n := 6009) (Nat.le_of_ble_eq_true rfl) (Nat.le_of_ble_eq_true rfl) ?_
                                    exact W.zret (v := 1) (ty := .boolean) hx hb hr (by decide) (fun t ht hW => ⟨⟨1, u_47, rfl, rfl, ⟨hlk, by rw [ht]; exact hP, hD⟩⟩, hS.F ht⟩) hS.2.2 dL_refuses_186 hlocks
