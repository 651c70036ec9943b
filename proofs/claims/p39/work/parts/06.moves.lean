def f_X6_lift : Nat → (Int32) → (Nat → Int32) → (Nat → Int32) → (Nat → Int32) → (Nat → Int32) → (Nat → Int32) → (Nat → Int32) → (Nat → Int32) → (Nat → Int32) → (Int32) → (Int32) → (Int32) → Option (Int32 × Int32 × (Nat → Int32) × (Nat → Int32) × (Nat → Int32) × (Nat → Int32) × (Nat → Int32) × (Nat → Int32) × (Nat → Int32) × (Nat → Int32))
  | 0, _, _, _, _, _, _, _, _, _, _, _, _ => none
  | d + 1, mm, tf0, tf1, tf2, tf3, tf4, tf5, tf6, tf7, p1, p2, p3 => (Option.bind (f_X9_freeOf mm tf5 p1) (fun q_1 => (if q_1 ≤ p3 then some (p1, mm, tf0, tf1, tf2, tf3, tf4, tf5, tf6, tf7) else (if p2 = 0 then some (p1, mm, tf0, tf1, tf2, tf3, tf4, tf5, tf6, tf7) else (Option.bind (f_X9_kindOf mm tf0 p1) (fun q_4 => (if q_4 = 1 then (Option.bind (f_X9_firstOf mm tf1 p1) (fun q_15 => (Option.bind (f_X9_leaf mm tf0 tf1 tf2 tf3 tf4 tf5 tf6 tf7 1 (q_15 + p2)) (fun q_16 => some (q_16.1, q_16.2.1, q_16.2.2.1, q_16.2.2.2.1, q_16.2.2.2.2.1, q_16.2.2.2.2.2.1, q_16.2.2.2.2.2.2.1, q_16.2.2.2.2.2.2.2.1, q_16.2.2.2.2.2.2.2.2.1, q_16.2.2.2.2.2.2.2.2.2))))) else (Option.bind (f_X9_firstOf mm tf1 p1) (fun q_6 => (Option.bind (f_X6_lift d mm tf0 tf1 tf2 tf3 tf4 tf5 tf6 tf7 q_6 p2 p3) (fun q_7 => (if q_7.1 = (-1) then some ((-1), q_7.2.1, q_7.2.2.1, q_7.2.2.2.1, q_7.2.2.2.2.1, q_7.2.2.2.2.2.1, q_7.2.2.2.2.2.2.1, q_7.2.2.2.2.2.2.2.1, q_7.2.2.2.2.2.2.2.2.1, q_7.2.2.2.2.2.2.2.2.2) else (Option.bind (f_X9_secondOf q_7.2.1 q_7.2.2.2.2.1 p1) (fun q_9 => (if q_4 = 7 then (Option.bind (f_X6_lift d q_7.2.1 q_7.2.2.1 q_7.2.2.2.1 q_7.2.2.2.2.1 q_7.2.2.2.2.2.1 q_7.2.2.2.2.2.2.1 q_7.2.2.2.2.2.2.2.1 q_7.2.2.2.2.2.2.2.2.1 q_7.2.2.2.2.2.2.2.2.2 q_9 p2 p3) (fun q_13 => (Option.bind (f_X9_pair q_13.2.1 q_13.2.2.1 q_13.2.2.2.1 q_13.2.2.2.2.1 q_13.2.2.2.2.2.1 q_13.2.2.2.2.2.2.1 q_13.2.2.2.2.2.2.2.1 q_13.2.2.2.2.2.2.2.2.1 q_13.2.2.2.2.2.2.2.2.2 q_4 q_7.1 q_13.1) (fun q_14 => some (q_14.1, q_14.2.1, q_14.2.2.1, q_14.2.2.2.1, q_14.2.2.2.2.1, q_14.2.2.2.2.2.1, q_14.2.2.2.2.2.2.1, q_14.2.2.2.2.2.2.2.1, q_14.2.2.2.2.2.2.2.2.1, q_14.2.2.2.2.2.2.2.2.2))))) else (Option.bind (f_X6_lift d q_7.2.1 q_7.2.2.1 q_7.2.2.2.1 q_7.2.2.2.2.1 q_7.2.2.2.2.2.1 q_7.2.2.2.2.2.2.1 q_7.2.2.2.2.2.2.2.1 q_7.2.2.2.2.2.2.2.2.1 q_7.2.2.2.2.2.2.2.2.2 q_9 p2 (p3 + 1)) (fun q_11 => (Option.bind (f_X9_pair q_11.2.1 q_11.2.2.1 q_11.2.2.2.1 q_11.2.2.2.2.1 q_11.2.2.2.2.2.1 q_11.2.2.2.2.2.2.1 q_11.2.2.2.2.2.2.2.1 q_11.2.2.2.2.2.2.2.2.1 q_11.2.2.2.2.2.2.2.2.2 q_4 q_7.1 q_11.1) (fun q_12 => some (q_12.1, q_12.2.1, q_12.2.2.1, q_12.2.2.2.1, q_12.2.2.2.2.1, q_12.2.2.2.2.2.1, q_12.2.2.2.2.2.2.1, q_12.2.2.2.2.2.2.2.1, q_12.2.2.2.2.2.2.2.2.1, q_12.2.2.2.2.2.2.2.2.2))))))))))))))))))))
set_option maxHeartbeats 4000000 in
set_option maxRecDepth 100000 in
theorem k_X6_lift (l : Launch) (hfl : l.stackTraces = false) (G : GC) : ∀ (d : Nat) (t1 : Nat) (p1 : Int32) (p2 : Int32) (p3 : Int32) (ta0 : Nat) (ta1 : Nat) (ta2 : Nat) (ta3 : Nat) (ta4 : Nat) (ta5 : Nat) (ta6 : Nat) (ta7 : Nat) (ta8 : Nat) (mm : Int32) (tf0 : Nat → Int32) (tf1 : Nat → Int32) (tf2 : Nat → Int32) (tf3 : Nat → Int32) (tf4 : Nat → Int32) (tf5 : Nat → Int32) (tf6 : Nat → Int32) (tf7 : Nat → Int32) (r9 : Int32) (mm_9 : Int32) (tf0_9 : Nat → Int32) (tf1_9 : Nat → Int32) (tf2_9 : Nat → Int32) (tf3_9 : Nat → Int32) (tf4_9 : Nat → Int32) (tf5_9 : Nat → Int32) (tf6_9 : Nat → Int32) (tf7_9 : Nat → Int32), f_X6_lift d mm tf0 tf1 tf2 tf3 tf4 tf5 tf6 tf7 p1 p2 p3 = some (r9, mm_9, tf0_9, tf1_9, tf2_9, tf3_9, tf4_9, tf5_9, tf6_9, tf7_9) → ∀ (sz : Nat), Met l yX6_lift (Cond.code yX6_lift cX6_lift 7 (some .int) :: W0) ({ frames := 2 + d, cells := 0, slots := 0, locals := 40 + d * 26 }) (va_Pc [.ref t1, .int p1, .int p2, .int p3] (WD G [(t1, .inr (8, [.ref ta0, .ref ta1, .ref ta2, .ref ta3, .ref ta4, .ref ta5, .ref ta6, .ref ta7, .ref ta8, .int mm])), (ta0, .inl (cyA G 0, 32768, .inl (tf0))), (ta1, .inl (cyA G 0, 32768, .inl (tf1))), (ta2, .inl (cyA G 0, 32768, .inl (tf2))), (ta3, .inl (cyA G 0, 32768, .inl (tf3))), (ta4, .inl (cyA G 0, 32768, .inl (tf4))), (ta5, .inl (cyA G 0, 32768, .inl (tf5))), (ta6, .inl (cyA G 0, 32768, .inl (tf6))), (ta7, .inl (cyA G 1, 32768, .inl (tf7)))] sz)) (va_Qi (fun (r : Int32) (_ : Unit) => r = r9) (fun _ t => PW G (va_A [(t1, .inr (8, [.ref ta0, .ref ta1, .ref ta2, .ref ta3, .ref ta4, .ref ta5, .ref ta6, .ref ta7, .ref ta8, .int mm])), (ta0, .inl (cyA G 0, 32768, .inl (tf0))), (ta1, .inl (cyA G 0, 32768, .inl (tf1))), (ta2, .inl (cyA G 0, 32768, .inl (tf2))), (ta3, .inl (cyA G 0, 32768, .inl (tf3))), (ta4, .inl (cyA G 0, 32768, .inl (tf4))), (ta5, .inl (cyA G 0, 32768, .inl (tf5))), (ta6, .inl (cyA G 0, 32768, .inl (tf6))), (ta7, .inl (cyA G 1, 32768, .inl (tf7)))] sz) [(t1, .inr (8, [.ref ta0, .ref ta1, .ref ta2, .ref ta3, .ref ta4, .ref ta5, .ref ta6, .ref ta7, .ref ta8, .int mm_9])), (ta0, .inl (cyA G 0, 32768, .inl (tf0_9))), (ta1, .inl (cyA G 0, 32768, .inl (tf1_9))), (ta2, .inl (cyA G 0, 32768, .inl (tf2_9))), (ta3, .inl (cyA G 0, 32768, .inl (tf3_9))), (ta4, .inl (cyA G 0, 32768, .inl (tf4_9))), (ta5, .inl (cyA G 0, 32768, .inl (tf5_9))), (ta6, .inl (cyA G 0, 32768, .inl (tf6_9))), (ta7, .inl (cyA G 1, 32768, .inl (tf7_9)))] t) (va_A [(t1, .inr (8, [.ref ta0, .ref ta1, .ref ta2, .ref ta3, .ref ta4, .ref ta5, .ref ta6, .ref ta7, .ref ta8, .int mm])), (ta0, .inl (cyA G 0, 32768, .inl (tf0))), (ta1, .inl (cyA G 0, 32768, .inl (tf1))), (ta2, .inl (cyA G 0, 32768, .inl (tf2))), (ta3, .inl (cyA G 0, 32768, .inl (tf3))), (ta4, .inl (cyA G 0, 32768, .inl (tf4))), (ta5, .inl (cyA G 0, 32768, .inl (tf5))), (ta6, .inl (cyA G 0, 32768, .inl (tf6))), (ta7, .inl (cyA G 1, 32768, .inl (tf7)))] sz)) 0 0 (va_A [(t1, .inr (8, [.ref ta0, .ref ta1, .ref ta2, .ref ta3, .ref ta4, .ref ta5, .ref ta6, .ref ta7, .ref ta8, .int mm])), (ta0, .inl (cyA G 0, 32768, .inl (tf0))), (ta1, .inl (cyA G 0, 32768, .inl (tf1))), (ta2, .inl (cyA G 0, 32768, .inl (tf2))), (ta3, .inl (cyA G 0, 32768, .inl (tf3))), (ta4, .inl (cyA G 0, 32768, .inl (tf4))), (ta5, .inl (cyA G 0, 32768, .inl (tf5))), (ta6, .inl (cyA G 0, 32768, .inl (tf6))), (ta7, .inl (cyA G 1, 32768, .inl (tf7)))] sz) := by
  intro d
  induction d with
  | zero =>
    intro t1 p1 p2 p3 ta0 ta1 ta2 ta3 ta4 ta5 ta6 ta7 ta8 mm tf0 tf1 tf2 tf3 tf4 tf5 tf6 tf7 r9 mm_9 tf0_9 tf1_9 tf2_9 tf3_9 tf4_9 tf5_9 tf6_9 tf7_9 hm
    rw [f_X6_lift] at hm
    cases hm
  | succ d ihd =>
    intro t1 p1 p2 p3 ta0 ta1 ta2 ta3 ta4 ta5 ta6 ta7 ta8 mm tf0 tf1 tf2 tf3 tf4 tf5 tf6 tf7 r9 mm_9 tf0_9 tf1_9 tf2_9 tf3_9 tf4_9 tf5_9 tf6_9 tf7_9 hm sz
    rw [f_X6_lift] at hm
    refine Met.ofW (cc := cX6_lift) (maxL := 7) (ret := (some .int)) (by decide) rfl ?_
    intro p e s m args below meth c s₁ B hml hv
    obtain ⟨rfl, hsz, hP, hK, hD0, hE⟩ := hv
    have hx := B.exec
    have hb := B.bytes
    have hr := B.returns
    have hts := w0_tail B.pre
    have hown : s.vm.findClass RX6 = some m.cls := findClass_of_methodNamed B.named
    have hlocks := B.notSynchronized
    subst hsz
    have hD := hD0.self (sz := s.heap.size)
    generalize hAe : va_A [(t1, .inr (8, [.ref ta0, .ref ta1, .ref ta2, .ref ta3, .ref ta4, .ref ta5, .ref ta6, .ref ta7, .ref ta8, .int mm])), (ta0, .inl (cyA G 0, 32768, .inl (tf0))), (ta1, .inl (cyA G 0, 32768, .inl (tf1))), (ta2, .inl (cyA G 0, 32768, .inl (tf2))), (ta3, .inl (cyA G 0, 32768, .inl (tf3))), (ta4, .inl (cyA G 0, 32768, .inl (tf4))), (ta5, .inl (cyA G 0, 32768, .inl (tf5))), (ta6, .inl (cyA G 0, 32768, .inl (tf6))), (ta7, .inl (cyA G 1, 32768, .inl (tf7)))] s.heap.size = A at hD hE ⊢
    have hA : ∀ q : Nat, s.heap.size ≤ q → A q := fun q h => by rw [← hAe]; exact Or.inr h
    have hS : va_S A s.heap s.heap [] := va_S.rf
    obtain ⟨H, hHe⟩ : ∃ H : Heap, H = s.heap := ⟨_, rfl⟩
    have hP : va_P (DG G) clP3 [(t1, .inr (8, [.ref ta0, .ref ta1, .ref ta2, .ref ta3, .ref ta4, .ref ta5, .ref ta6, .ref ta7, .ref ta8, .int mm])), (ta0, .inl (cyA G 0, 32768, .inl (tf0))), (ta1, .inl (cyA G 0, 32768, .inl (tf1))), (ta2, .inl (cyA G 0, 32768, .inl (tf2))), (ta3, .inl (cyA G 0, 32768, .inl (tf3))), (ta4, .inl (cyA G 0, 32768, .inl (tf4))), (ta5, .inl (cyA G 0, 32768, .inl (tf5))), (ta6, .inl (cyA G 0, 32768, .inl (tf6))), (ta7, .inl (cyA G 1, 32768, .inl (tf7)))] H := by rw [hHe]; exact hP
    have hS : va_S A s.heap H [] := by rw [hHe]; exact hS
    have hl := lv_entry ([.ref t1, .int p1, .int p2, .int p3]) (n := 7) (Nat.le_of_ble_eq_true rfl)
    rw [lg_entry_eq, ← hHe]
    generalize (lg_sl ([.ref t1, .int p1, .int p2, .int p3]) ++ List.replicate (7 - (lg_sl ([.ref t1, .int p1, .int p2, .int p3])).length) Slot.unset).toArray = ls at hl ⊢
    have hl : lv_has ls 7 [(0, .ref t1), (1, .int p1), (2, .int p2), (3, .int p3)] := hl
    refine lv_aload_n hx hb dX6_lift_0 rfl (lv_at hl 0 rfl) ?_
    refine lv_iload_n hx hb dX6_lift_1 rfl (lv_at hl 1 rfl) ?_
    obtain ⟨q_1, hq_1, hm⟩ := bind_some hm
    have hFc := va_free (wc := [(t1, .inr (8, [.ref ta0, .ref ta1, .ref ta2, .ref ta3, .ref ta4, .ref ta5, .ref ta6, .ref ta7, .ref ta8, .int mm])), (ta5, .inl (cyA G 0, 32768, .inl (tf5)))]) hD hS hA [0, 6] rfl
    refine va_calli (va_runV (As := [.int p1]) (rest := []) ⟨hx, hb, hml, hown, hts⟩ (k_X9_freeOf l hfl G t1 p1 ta0 ta1 ta2 ta3 ta4 ta5 ta6 ta7 ta8 mm tf5 q_1 hq_1 H.size) (cwV 1 hts (gV wm451 wm452 wm453 wm2 wm454) rfl rfl rfl (by decide +kernel) ⟨(by show 1 ≤ 2 + (d + 1); omega), (by show 21 ≤ 40 + (d + 1) * 26; omega)⟩) (pre_v (pre_s hK hP hD hS hE [0, 6] rfl rfl (by decide) hFc) (va_recv hK hP (ci := 8) (q0 := 0) rfl rfl)) rfl rfl hl.1 rfl (lv_room (Nat.le_of_ble_eq_true rfl)) dX6_lift_2 ⟨Nat.le_of_ble_eq_true rfl, Nat.le_of_ble_eq_true rfl⟩) hS (fun q _ h => hFc q h) hFc (fun r u t H locs ht hvm hw hB hz1 hk1 hS => ?_)
    rw [show r = q_1 from hw]
    obtain ⟨hP1, hD1⟩ := hB
    rw [ht] at hP1
    obtain ⟨hP, hD⟩ := va_join (wr := [(ta0, .inl (cyA G 0, 32768, .inl (tf0))), (ta1, .inl (cyA G 0, 32768, .inl (tf1))), (ta2, .inl (cyA G 0, 32768, .inl (tf2))), (ta3, .inl (cyA G 0, 32768, .inl (tf3))), (ta4, .inl (cyA G 0, 32768, .inl (tf4))), (ta6, .inl (cyA G 0, 32768, .inl (tf6))), (ta7, .inl (cyA G 1, 32768, .inl (tf7)))]) (w1 := [(t1, .inr (8, [.ref ta0, .ref ta1, .ref ta2, .ref ta3, .ref ta4, .ref ta5, .ref ta6, .ref ta7, .ref ta8, .int mm])), (ta5, .inl (cyA G 0, 32768, .inl (tf5)))]) hP hD [0, 6] [1, 2, 3, 4, 5, 7, 8] rfl rfl (by decide) (by decide) hk1 hFc hP1 hD1
    have hP : va_P (DG G) clP3 [(ta0, .inl (cyA G 0, 32768, .inl (tf0))), (ta1, .inl (cyA G 0, 32768, .inl (tf1))), (ta2, .inl (cyA G 0, 32768, .inl (tf2))), (ta3, .inl (cyA G 0, 32768, .inl (tf3))), (ta4, .inl (cyA G 0, 32768, .inl (tf4))), (ta6, .inl (cyA G 0, 32768, .inl (tf6))), (ta7, .inl (cyA G 1, 32768, .inl (tf7))), (t1, .inr (8, [.ref ta0, .ref ta1, .ref ta2, .ref ta3, .ref ta4, .ref ta5, .ref ta6, .ref ta7, .ref ta8, .int mm])), (ta5, .inl (cyA G 0, 32768, .inl (tf5)))] H := hP
    have hD : va_D A [(ta0, .inl (cyA G 0, 32768, .inl (tf0))), (ta1, .inl (cyA G 0, 32768, .inl (tf1))), (ta2, .inl (cyA G 0, 32768, .inl (tf2))), (ta3, .inl (cyA G 0, 32768, .inl (tf3))), (ta4, .inl (cyA G 0, 32768, .inl (tf4))), (ta6, .inl (cyA G 0, 32768, .inl (tf6))), (ta7, .inl (cyA G 1, 32768, .inl (tf7))), (t1, .inr (8, [.ref ta0, .ref ta1, .ref ta2, .ref ta3, .ref ta4, .ref ta5, .ref ta6, .ref ta7, .ref ta8, .int mm])), (ta5, .inl (cyA G 0, 32768, .inl (tf5)))] := hD
    refine W.widen (k := 0) (n := 0) (Nat.le_of_ble_eq_true rfl) (Nat.le_of_ble_eq_true rfl) ?_
    refine lv_iload_n hx hb dX6_lift_5 rfl (lv_at hl 3 rfl) ?_
    refine lv_icmp_le (tgt := 13) hx hb dX6_lift_6 (by decide) (fun c_2 => ?_) (fun c_2 => ?_)
    · rw [if_pos c_2] at hm
      refine lv_iload_n hx hb dX6_lift_13 rfl (lv_at hl 1 rfl) ?_
      simp only [Option.some.injEq, Prod.mk.injEq] at hm
      obtain ⟨rfl, rfl, rfl, rfl, rfl, rfl, rfl, rfl, rfl, rfl⟩ := hm
      have hP9 := hP.sub (ws' := [(t1, .inr (8, [.ref ta0, .ref ta1, .ref ta2, .ref ta3, .ref ta4, .ref ta5, .ref ta6, .ref ta7, .ref ta8, .int mm])), (ta0, .inl (cyA G 0, 32768, .inl (tf0))), (ta1, .inl (cyA G 0, 32768, .inl (tf1))), (ta2, .inl (cyA G 0, 32768, .inl (tf2))), (ta3, .inl (cyA G 0, 32768, .inl (tf3))), (ta4, .inl (cyA G 0, 32768, .inl (tf4))), (ta5, .inl (cyA G 0, 32768, .inl (tf5))), (ta6, .inl (cyA G 0, 32768, .inl (tf6))), (ta7, .inl (cyA G 1, 32768, .inl (tf7)))]) [7, 0, 1, 2, 3, 4, 8, 5, 6] rfl
      have hD9 := hD.sub (ws' := [(t1, .inr (8, [.ref ta0, .ref ta1, .ref ta2, .ref ta3, .ref ta4, .ref ta5, .ref ta6, .ref ta7, .ref ta8, .int mm])), (ta0, .inl (cyA G 0, 32768, .inl (tf0))), (ta1, .inl (cyA G 0, 32768, .inl (tf1))), (ta2, .inl (cyA G 0, 32768, .inl (tf2))), (ta3, .inl (cyA G 0, 32768, .inl (tf3))), (ta4, .inl (cyA G 0, 32768, .inl (tf4))), (ta5, .inl (cyA G 0, 32768, .inl (tf5))), (ta6, .inl (cyA G 0, 32768, .inl (tf6))), (ta7, .inl (cyA G 1, 32768, .inl (tf7)))]) [7, 0, 1, 2, 3, 4, 8, 5, 6] (by decide) rfl
      refine W.widen (k := 0) (n := 0) (Nat.le_of_ble_eq_true rfl) (Nat.le_of_ble_eq_true rfl) ?_
      exact W.iret (v := p1) hx hb hr (fun t ht hW => ⟨⟨p1, (), rfl, rfl, ⟨by rw [ht]; exact hP9, hD9⟩⟩, hS.F ht⟩) hS.2.2 dX6_lift_14 hlocks
    · rw [if_neg c_2] at hm
      refine lv_iload_n hx hb dX6_lift_9 rfl (lv_at hl 2 rfl) ?_
      refine lv_if_ne (tgt := 15) hx hb dX6_lift_10 (by decide) (fun c_3 => ?_) (fun c_3 => ?_)
      · rw [if_neg c_3] at hm
        refine lv_aload_n hx hb dX6_lift_15 rfl (lv_at hl 0 rfl) ?_
        refine lv_iload_n hx hb dX6_lift_16 rfl (lv_at hl 1 rfl) ?_
        obtain ⟨q_4, hq_4, hm⟩ := bind_some hm
        have hFc := va_free (wc := [(t1, .inr (8, [.ref ta0, .ref ta1, .ref ta2, .ref ta3, .ref ta4, .ref ta5, .ref ta6, .ref ta7, .ref ta8, .int mm])), (ta0, .inl (cyA G 0, 32768, .inl (tf0)))]) hD hS hA [7, 0] rfl
        refine va_calli (va_runV (As := [.int p1]) (rest := []) ⟨hx, hb, hml, hown, hts⟩ (k_X9_kindOf l hfl G t1 p1 ta0 ta1 ta2 ta3 ta4 ta5 ta6 ta7 ta8 mm tf0 q_4 hq_4 H.size) (cwV 1 hts (gV wm455 wm435 wm436 wm2 wm437) rfl rfl rfl (by decide +kernel) ⟨(by show 1 ≤ 2 + (d + 1); omega), (by show 21 ≤ 40 + (d + 1) * 26; omega)⟩) (pre_v (pre_s hK hP hD hS hE [7, 0] rfl rfl (by decide) hFc) (va_recv hK hP (ci := 8) (q0 := 7) rfl rfl)) rfl rfl hl.1 rfl (lv_room (Nat.le_of_ble_eq_true rfl)) dX6_lift_17 ⟨Nat.le_of_ble_eq_true rfl, Nat.le_of_ble_eq_true rfl⟩) hS (fun q _ h => hFc q h) hFc (fun r u t H locs ht hvm hw hB hz1 hk1 hS => ?_)
        rw [show r = q_4 from hw]
        obtain ⟨hP1, hD1⟩ := hB
        rw [ht] at hP1
        obtain ⟨hP, hD⟩ := va_join (wr := [(ta1, .inl (cyA G 0, 32768, .inl (tf1))), (ta2, .inl (cyA G 0, 32768, .inl (tf2))), (ta3, .inl (cyA G 0, 32768, .inl (tf3))), (ta4, .inl (cyA G 0, 32768, .inl (tf4))), (ta6, .inl (cyA G 0, 32768, .inl (tf6))), (ta7, .inl (cyA G 1, 32768, .inl (tf7))), (ta5, .inl (cyA G 0, 32768, .inl (tf5)))]) (w1 := [(t1, .inr (8, [.ref ta0, .ref ta1, .ref ta2, .ref ta3, .ref ta4, .ref ta5, .ref ta6, .ref ta7, .ref ta8, .int mm])), (ta0, .inl (cyA G 0, 32768, .inl (tf0)))]) hP hD [7, 0] [1, 2, 3, 4, 5, 6, 8] rfl rfl (by decide) (by decide) hk1 hFc hP1 hD1
        have hP : va_P (DG G) clP3 [(ta1, .inl (cyA G 0, 32768, .inl (tf1))), (ta2, .inl (cyA G 0, 32768, .inl (tf2))), (ta3, .inl (cyA G 0, 32768, .inl (tf3))), (ta4, .inl (cyA G 0, 32768, .inl (tf4))), (ta6, .inl (cyA G 0, 32768, .inl (tf6))), (ta7, .inl (cyA G 1, 32768, .inl (tf7))), (ta5, .inl (cyA G 0, 32768, .inl (tf5))), (t1, .inr (8, [.ref ta0, .ref ta1, .ref ta2, .ref ta3, .ref ta4, .ref ta5, .ref ta6, .ref ta7, .ref ta8, .int mm])), (ta0, .inl (cyA G 0, 32768, .inl (tf0)))] H := hP
        have hD : va_D A [(ta1, .inl (cyA G 0, 32768, .inl (tf1))), (ta2, .inl (cyA G 0, 32768, .inl (tf2))), (ta3, .inl (cyA G 0, 32768, .inl (tf3))), (ta4, .inl (cyA G 0, 32768, .inl (tf4))), (ta6, .inl (cyA G 0, 32768, .inl (tf6))), (ta7, .inl (cyA G 1, 32768, .inl (tf7))), (ta5, .inl (cyA G 0, 32768, .inl (tf5))), (t1, .inr (8, [.ref ta0, .ref ta1, .ref ta2, .ref ta3, .ref ta4, .ref ta5, .ref ta6, .ref ta7, .ref ta8, .int mm])), (ta0, .inl (cyA G 0, 32768, .inl (tf0)))] := hD
        refine W.widen (k := 0) (n := 0) (Nat.le_of_ble_eq_true rfl) (Nat.le_of_ble_eq_true rfl) ?_
        refine lv_istore (lv' := [(4, .int q_4), (0, .ref t1), (1, .int p1), (2, .int p2), (3, .int p3)]) hx hb dX6_lift_20 hl (by decide) rfl (fun ls hl => ?_)
        refine lv_iload hx hb dX6_lift_22 (lv_at hl 0 rfl) ?_
        refine lv_iconst (v := 1) hx hb dX6_lift_24 (by decide) ?_
        refine lv_icmp_ne (tgt := 41) hx hb dX6_lift_25 (by decide) (fun c_5 => ?_) (fun c_5 => ?_)
        · rw [if_neg c_5] at hm
          refine lv_aload_n hx hb dX6_lift_41 rfl (lv_at hl 1 rfl) ?_
          refine lv_aload_n hx hb dX6_lift_42 rfl (lv_at hl 1 rfl) ?_
          refine lv_iload_n hx hb dX6_lift_43 rfl (lv_at hl 2 rfl) ?_
          obtain ⟨q_6, hq_6, hm⟩ := bind_some hm
          have hFc := va_free (wc := [(t1, .inr (8, [.ref ta0, .ref ta1, .ref ta2, .ref ta3, .ref ta4, .ref ta5, .ref ta6, .ref ta7, .ref ta8, .int mm])), (ta1, .inl (cyA G 0, 32768, .inl (tf1)))]) hD hS hA [7, 0] rfl
          refine va_calli (va_runV (As := [.int p1]) (rest := [.ref t1]) ⟨hx, hb, hml, hown, hts⟩ (k_X9_firstOf l hfl G t1 p1 ta0 ta1 ta2 ta3 ta4 ta5 ta6 ta7 ta8 mm tf1 q_6 hq_6 H.size) (cwV 1 hts (gV wm456 wm431 wm432 wm2 wm433) rfl rfl rfl (by decide +kernel) ⟨(by show 1 ≤ 2 + (d + 1); omega), (by show 21 ≤ 40 + (d + 1) * 26; omega)⟩) (pre_v (pre_s hK hP hD hS hE [7, 0] rfl rfl (by decide) hFc) (va_recv hK hP (ci := 8) (q0 := 7) rfl rfl)) rfl rfl hl.1 rfl (lv_room (Nat.le_of_ble_eq_true rfl)) dX6_lift_44 ⟨Nat.le_of_ble_eq_true rfl, Nat.le_of_ble_eq_true rfl⟩) hS (fun q _ h => hFc q h) hFc (fun r u t H locs ht hvm hw hB hz1 hk1 hS => ?_)
          rw [show r = q_6 from hw]
          obtain ⟨hP1, hD1⟩ := hB
          rw [ht] at hP1
          obtain ⟨hP, hD⟩ := va_join (wr := [(ta2, .inl (cyA G 0, 32768, .inl (tf2))), (ta3, .inl (cyA G 0, 32768, .inl (tf3))), (ta4, .inl (cyA G 0, 32768, .inl (tf4))), (ta6, .inl (cyA G 0, 32768, .inl (tf6))), (ta7, .inl (cyA G 1, 32768, .inl (tf7))), (ta5, .inl (cyA G 0, 32768, .inl (tf5))), (ta0, .inl (cyA G 0, 32768, .inl (tf0)))]) (w1 := [(t1, .inr (8, [.ref ta0, .ref ta1, .ref ta2, .ref ta3, .ref ta4, .ref ta5, .ref ta6, .ref ta7, .ref ta8, .int mm])), (ta1, .inl (cyA G 0, 32768, .inl (tf1)))]) hP hD [7, 0] [1, 2, 3, 4, 5, 6, 8] rfl rfl (by decide) (by decide) hk1 hFc hP1 hD1
          have hP : va_P (DG G) clP3 [(ta2, .inl (cyA G 0, 32768, .inl (tf2))), (ta3, .inl (cyA G 0, 32768, .inl (tf3))), (ta4, .inl (cyA G 0, 32768, .inl (tf4))), (ta6, .inl (cyA G 0, 32768, .inl (tf6))), (ta7, .inl (cyA G 1, 32768, .inl (tf7))), (ta5, .inl (cyA G 0, 32768, .inl (tf5))), (ta0, .inl (cyA G 0, 32768, .inl (tf0))), (t1, .inr (8, [.ref ta0, .ref ta1, .ref ta2, .ref ta3, .ref ta4, .ref ta5, .ref ta6, .ref ta7, .ref ta8, .int mm])), (ta1, .inl (cyA G 0, 32768, .inl (tf1)))] H := hP
          have hD : va_D A [(ta2, .inl (cyA G 0, 32768, .inl (tf2))), (ta3, .inl (cyA G 0, 32768, .inl (tf3))), (ta4, .inl (cyA G 0, 32768, .inl (tf4))), (ta6, .inl (cyA G 0, 32768, .inl (tf6))), (ta7, .inl (cyA G 1, 32768, .inl (tf7))), (ta5, .inl (cyA G 0, 32768, .inl (tf5))), (ta0, .inl (cyA G 0, 32768, .inl (tf0))), (t1, .inr (8, [.ref ta0, .ref ta1, .ref ta2, .ref ta3, .ref ta4, .ref ta5, .ref ta6, .ref ta7, .ref ta8, .int mm])), (ta1, .inl (cyA G 0, 32768, .inl (tf1)))] := hD
          refine W.widen (k := 0) (n := 0) (Nat.le_of_ble_eq_true rfl) (Nat.le_of_ble_eq_true rfl) ?_
          refine lv_iload_n hx hb dX6_lift_47 rfl (lv_at hl 3 rfl) ?_
          refine lv_iload_n hx hb dX6_lift_48 rfl (lv_at hl 4 rfl) ?_
          obtain ⟨q_7, hq_7, hm⟩ := bind_some hm
          have hFc := va_free (wc := [(t1, .inr (8, [.ref ta0, .ref ta1, .ref ta2, .ref ta3, .ref ta4, .ref ta5, .ref ta6, .ref ta7, .ref ta8, .int mm])), (ta0, .inl (cyA G 0, 32768, .inl (tf0))), (ta1, .inl (cyA G 0, 32768, .inl (tf1))), (ta2, .inl (cyA G 0, 32768, .inl (tf2))), (ta3, .inl (cyA G 0, 32768, .inl (tf3))), (ta4, .inl (cyA G 0, 32768, .inl (tf4))), (ta5, .inl (cyA G 0, 32768, .inl (tf5))), (ta6, .inl (cyA G 0, 32768, .inl (tf6))), (ta7, .inl (cyA G 1, 32768, .inl (tf7)))]) hD hS hA [7, 6, 8, 0, 1, 2, 5, 3, 4] rfl
          refine va_calli (va_runS (As := [.ref t1, .int q_6, .int p2, .int p3]) (rest := []) ⟨hx, hb, hml, hown, hts⟩ (ihd t1 q_6 p2 p3 ta0 ta1 ta2 ta3 ta4 ta5 ta6 ta7 ta8 mm tf0 tf1 tf2 tf3 tf4 tf5 tf6 tf7 q_7.1 q_7.2.1 q_7.2.2.1 q_7.2.2.2.1 q_7.2.2.2.2.1 q_7.2.2.2.2.2.1 q_7.2.2.2.2.2.2.1 q_7.2.2.2.2.2.2.2.1 q_7.2.2.2.2.2.2.2.2.1 q_7.2.2.2.2.2.2.2.2.2 hq_7 H.size) (cwS 4 hts (gS wm458 wm449 wm20 wm450) rfl rfl rfl (by decide +kernel) ⟨(by show 2 + d + 1 ≤ 2 + (d + 1); omega), (by show 8 + (7 + 11) + (40 + d * 26) ≤ 40 + (d + 1) * 26; omega)⟩) (pre_s hK hP hD hS hE [7, 6, 8, 0, 1, 2, 5, 3, 4] rfl rfl (by decide) hFc) rfl rfl hl.1 rfl (lv_room (Nat.le_of_ble_eq_true rfl)) dX6_lift_49 ⟨Nat.le_of_ble_eq_true rfl, Nat.le_of_ble_eq_true rfl⟩) hS (fun q _ h => hFc q h) hFc (fun r u t H locs ht hvm hw hB hz1 hk1 hS => ?_)
          rw [show r = q_7.1 from hw]
          obtain ⟨hP1, hD1⟩ := hB
          rw [ht] at hP1
          obtain ⟨hP, hD⟩ := va_join (wr := []) (w1 := [(t1, .inr (8, [.ref ta0, .ref ta1, .ref ta2, .ref ta3, .ref ta4, .ref ta5, .ref ta6, .ref ta7, .ref ta8, .int q_7.2.1])), (ta0, .inl (cyA G 0, 32768, .inl (q_7.2.2.1))), (ta1, .inl (cyA G 0, 32768, .inl (q_7.2.2.2.1))), (ta2, .inl (cyA G 0, 32768, .inl (q_7.2.2.2.2.1))), (ta3, .inl (cyA G 0, 32768, .inl (q_7.2.2.2.2.2.1))), (ta4, .inl (cyA G 0, 32768, .inl (q_7.2.2.2.2.2.2.1))), (ta5, .inl (cyA G 0, 32768, .inl (q_7.2.2.2.2.2.2.2.1))), (ta6, .inl (cyA G 0, 32768, .inl (q_7.2.2.2.2.2.2.2.2.1))), (ta7, .inl (cyA G 1, 32768, .inl (q_7.2.2.2.2.2.2.2.2.2)))]) hP hD [7, 6, 8, 0, 1, 2, 5, 3, 4] [] rfl rfl (by decide) (by decide) hk1 hFc hP1 hD1
          have hP : va_P (DG G) clP3 [(t1, .inr (8, [.ref ta0, .ref ta1, .ref ta2, .ref ta3, .ref ta4, .ref ta5, .ref ta6, .ref ta7, .ref ta8, .int q_7.2.1])), (ta0, .inl (cyA G 0, 32768, .inl (q_7.2.2.1))), (ta1, .inl (cyA G 0, 32768, .inl (q_7.2.2.2.1))), (ta2, .inl (cyA G 0, 32768, .inl (q_7.2.2.2.2.1))), (ta3, .inl (cyA G 0, 32768, .inl (q_7.2.2.2.2.2.1))), (ta4, .inl (cyA G 0, 32768, .inl (q_7.2.2.2.2.2.2.1))), (ta5, .inl (cyA G 0, 32768, .inl (q_7.2.2.2.2.2.2.2.1))), (ta6, .inl (cyA G 0, 32768, .inl (q_7.2.2.2.2.2.2.2.2.1))), (ta7, .inl (cyA G 1, 32768, .inl (q_7.2.2.2.2.2.2.2.2.2)))] H := hP
          have hD : va_D A [(t1, .inr (8, [.ref ta0, .ref ta1, .ref ta2, .ref ta3, .ref ta4, .ref ta5, .ref ta6, .ref ta7, .ref ta8, .int q_7.2.1])), (ta0, .inl (cyA G 0, 32768, .inl (q_7.2.2.1))), (ta1, .inl (cyA G 0, 32768, .inl (q_7.2.2.2.1))), (ta2, .inl (cyA G 0, 32768, .inl (q_7.2.2.2.2.1))), (ta3, .inl (cyA G 0, 32768, .inl (q_7.2.2.2.2.2.1))), (ta4, .inl (cyA G 0, 32768, .inl (q_7.2.2.2.2.2.2.1))), (ta5, .inl (cyA G 0, 32768, .inl (q_7.2.2.2.2.2.2.2.1))), (ta6, .inl (cyA G 0, 32768, .inl (q_7.2.2.2.2.2.2.2.2.1))), (ta7, .inl (cyA G 1, 32768, .inl (q_7.2.2.2.2.2.2.2.2.2)))] := hD
          refine W.widen (k := 0) (n := 0) (Nat.le_of_ble_eq_true rfl) (Nat.le_of_ble_eq_true rfl) ?_
          refine lv_istore (lv' := [(5, .int q_7.1), (4, .int q_4), (0, .ref t1), (1, .int p1), (2, .int p2), (3, .int p3)]) hx hb dX6_lift_52 hl (by decide) rfl (fun ls hl => ?_)
          refine lv_iload hx hb dX6_lift_54 (lv_at hl 0 rfl) ?_
          refine lv_iconst (v := (-1)) hx hb dX6_lift_56 (by decide) ?_
          refine lv_icmp_ne (tgt := 62) hx hb dX6_lift_57 (by decide) (fun c_8 => ?_) (fun c_8 => ?_)
          · rw [if_neg c_8] at hm
            refine lv_aload_n hx hb dX6_lift_62 rfl (lv_at hl 2 rfl) ?_
            refine lv_aload_n hx hb dX6_lift_63 rfl (lv_at hl 2 rfl) ?_
            refine lv_iload_n hx hb dX6_lift_64 rfl (lv_at hl 3 rfl) ?_
            obtain ⟨q_9, hq_9, hm⟩ := bind_some hm
            have hFc := va_free (wc := [(t1, .inr (8, [.ref ta0, .ref ta1, .ref ta2, .ref ta3, .ref ta4, .ref ta5, .ref ta6, .ref ta7, .ref ta8, .int q_7.2.1])), (ta2, .inl (cyA G 0, 32768, .inl (q_7.2.2.2.2.1)))]) hD hS hA [0, 3] rfl
            refine va_calli (va_runV (As := [.int p1]) (rest := [.ref t1]) ⟨hx, hb, hml, hown, hts⟩ (k_X9_secondOf l hfl G t1 p1 ta0 ta1 ta2 ta3 ta4 ta5 ta6 ta7 ta8 q_7.2.1 q_7.2.2.2.2.1 q_9 hq_9 H.size) (cwV 1 hts (gV wm459 wm460 wm461 wm2 wm462) rfl rfl rfl (by decide +kernel) ⟨(by show 1 ≤ 2 + (d + 1); omega), (by show 21 ≤ 40 + (d + 1) * 26; omega)⟩) (pre_v (pre_s hK hP hD hS hE [0, 3] rfl rfl (by decide) hFc) (va_recv hK hP (ci := 8) (q0 := 0) rfl rfl)) rfl rfl hl.1 rfl (lv_room (Nat.le_of_ble_eq_true rfl)) dX6_lift_65 ⟨Nat.le_of_ble_eq_true rfl, Nat.le_of_ble_eq_true rfl⟩) hS (fun q _ h => hFc q h) hFc (fun r u t H locs ht hvm hw hB hz1 hk1 hS => ?_)
            rw [show r = q_9 from hw]
            obtain ⟨hP1, hD1⟩ := hB
            rw [ht] at hP1
            obtain ⟨hP, hD⟩ := va_join (wr := [(ta0, .inl (cyA G 0, 32768, .inl (q_7.2.2.1))), (ta1, .inl (cyA G 0, 32768, .inl (q_7.2.2.2.1))), (ta3, .inl (cyA G 0, 32768, .inl (q_7.2.2.2.2.2.1))), (ta4, .inl (cyA G 0, 32768, .inl (q_7.2.2.2.2.2.2.1))), (ta5, .inl (cyA G 0, 32768, .inl (q_7.2.2.2.2.2.2.2.1))), (ta6, .inl (cyA G 0, 32768, .inl (q_7.2.2.2.2.2.2.2.2.1))), (ta7, .inl (cyA G 1, 32768, .inl (q_7.2.2.2.2.2.2.2.2.2)))]) (w1 := [(t1, .inr (8, [.ref ta0, .ref ta1, .ref ta2, .ref ta3, .ref ta4, .ref ta5, .ref ta6, .ref ta7, .ref ta8, .int q_7.2.1])), (ta2, .inl (cyA G 0, 32768, .inl (q_7.2.2.2.2.1)))]) hP hD [0, 3] [1, 2, 4, 5, 6, 7, 8] rfl rfl (by decide) (by decide) hk1 hFc hP1 hD1
            have hP : va_P (DG G) clP3 [(ta0, .inl (cyA G 0, 32768, .inl (q_7.2.2.1))), (ta1, .inl (cyA G 0, 32768, .inl (q_7.2.2.2.1))), (ta3, .inl (cyA G 0, 32768, .inl (q_7.2.2.2.2.2.1))), (ta4, .inl (cyA G 0, 32768, .inl (q_7.2.2.2.2.2.2.1))), (ta5, .inl (cyA G 0, 32768, .inl (q_7.2.2.2.2.2.2.2.1))), (ta6, .inl (cyA G 0, 32768, .inl (q_7.2.2.2.2.2.2.2.2.1))), (ta7, .inl (cyA G 1, 32768, .inl (q_7.2.2.2.2.2.2.2.2.2))), (t1, .inr (8, [.ref ta0, .ref ta1, .ref ta2, .ref ta3, .ref ta4, .ref ta5, .ref ta6, .ref ta7, .ref ta8, .int q_7.2.1])), (ta2, .inl (cyA G 0, 32768, .inl (q_7.2.2.2.2.1)))] H := hP
            have hD : va_D A [(ta0, .inl (cyA G 0, 32768, .inl (q_7.2.2.1))), (ta1, .inl (cyA G 0, 32768, .inl (q_7.2.2.2.1))), (ta3, .inl (cyA G 0, 32768, .inl (q_7.2.2.2.2.2.1))), (ta4, .inl (cyA G 0, 32768, .inl (q_7.2.2.2.2.2.2.1))), (ta5, .inl (cyA G 0, 32768, .inl (q_7.2.2.2.2.2.2.2.1))), (ta6, .inl (cyA G 0, 32768, .inl (q_7.2.2.2.2.2.2.2.2.1))), (ta7, .inl (cyA G 1, 32768, .inl (q_7.2.2.2.2.2.2.2.2.2))), (t1, .inr (8, [.ref ta0, .ref ta1, .ref ta2, .ref ta3, .ref ta4, .ref ta5, .ref ta6, .ref ta7, .ref ta8, .int q_7.2.1])), (ta2, .inl (cyA G 0, 32768, .inl (q_7.2.2.2.2.1)))] := hD
            refine W.widen (k := 0) (n := 0) (Nat.le_of_ble_eq_true rfl) (Nat.le_of_ble_eq_true rfl) ?_
            refine lv_iload_n hx hb dX6_lift_68 rfl (lv_at hl 4 rfl) ?_
            refine lv_iload hx hb dX6_lift_69 (lv_at hl 1 rfl) ?_
            refine lv_bipush (v := 7) hx hb dX6_lift_71 (by decide) ?_
            refine lv_icmp_ne (tgt := 80) hx hb dX6_lift_73 (by decide) (fun c_10 => ?_) (fun c_10 => ?_)
            · rw [if_neg c_10] at hm
              refine lv_iload_n hx hb dX6_lift_80 rfl (lv_at hl 5 rfl) ?_
              refine lv_iconst (v := 1) hx hb dX6_lift_81 (by decide) ?_
              refine lv_iadd hx hb dX6_lift_82 ?_
              obtain ⟨q_11, hq_11, hm⟩ := bind_some hm
              have hFc := va_free (wc := [(t1, .inr (8, [.ref ta0, .ref ta1, .ref ta2, .ref ta3, .ref ta4, .ref ta5, .ref ta6, .ref ta7, .ref ta8, .int q_7.2.1])), (ta0, .inl (cyA G 0, 32768, .inl (q_7.2.2.1))), (ta1, .inl (cyA G 0, 32768, .inl (q_7.2.2.2.1))), (ta2, .inl (cyA G 0, 32768, .inl (q_7.2.2.2.2.1))), (ta3, .inl (cyA G 0, 32768, .inl (q_7.2.2.2.2.2.1))), (ta4, .inl (cyA G 0, 32768, .inl (q_7.2.2.2.2.2.2.1))), (ta5, .inl (cyA G 0, 32768, .inl (q_7.2.2.2.2.2.2.2.1))), (ta6, .inl (cyA G 0, 32768, .inl (q_7.2.2.2.2.2.2.2.2.1))), (ta7, .inl (cyA G 1, 32768, .inl (q_7.2.2.2.2.2.2.2.2.2)))]) hD hS hA [7, 0, 1, 8, 2, 3, 4, 5, 6] rfl
              refine va_calli (va_runS (As := [.ref t1, .int q_9, .int p2, .int (p3 + 1)]) (rest := []) ⟨hx, hb, hml, hown, hts⟩ (ihd t1 q_9 p2 (p3 + 1) ta0 ta1 ta2 ta3 ta4 ta5 ta6 ta7 ta8 q_7.2.1 q_7.2.2.1 q_7.2.2.2.1 q_7.2.2.2.2.1 q_7.2.2.2.2.2.1 q_7.2.2.2.2.2.2.1 q_7.2.2.2.2.2.2.2.1 q_7.2.2.2.2.2.2.2.2.1 q_7.2.2.2.2.2.2.2.2.2 q_11.1 q_11.2.1 q_11.2.2.1 q_11.2.2.2.1 q_11.2.2.2.2.1 q_11.2.2.2.2.2.1 q_11.2.2.2.2.2.2.1 q_11.2.2.2.2.2.2.2.1 q_11.2.2.2.2.2.2.2.2.1 q_11.2.2.2.2.2.2.2.2.2 hq_11 H.size) (cwS 4 hts (gS wm458 wm449 wm20 wm450) rfl rfl rfl (by decide +kernel) ⟨(by show 2 + d + 1 ≤ 2 + (d + 1); omega), (by show 8 + (7 + 11) + (40 + d * 26) ≤ 40 + (d + 1) * 26; omega)⟩) (pre_s hK hP hD hS hE [7, 0, 1, 8, 2, 3, 4, 5, 6] rfl rfl (by decide) hFc) rfl rfl hl.1 rfl (lv_room (Nat.le_of_ble_eq_true rfl)) dX6_lift_83 ⟨Nat.le_of_ble_eq_true rfl, Nat.le_of_ble_eq_true rfl⟩) hS (fun q _ h => hFc q h) hFc (fun r u t H locs ht hvm hw hB hz1 hk1 hS => ?_)
              rw [show r = q_11.1 from hw]
              obtain ⟨hP1, hD1⟩ := hB
              rw [ht] at hP1
              obtain ⟨hP, hD⟩ := va_join (wr := []) (w1 := [(t1, .inr (8, [.ref ta0, .ref ta1, .ref ta2, .ref ta3, .ref ta4, .ref ta5, .ref ta6, .ref ta7, .ref ta8, .int q_11.2.1])), (ta0, .inl (cyA G 0, 32768, .inl (q_11.2.2.1))), (ta1, .inl (cyA G 0, 32768, .inl (q_11.2.2.2.1))), (ta2, .inl (cyA G 0, 32768, .inl (q_11.2.2.2.2.1))), (ta3, .inl (cyA G 0, 32768, .inl (q_11.2.2.2.2.2.1))), (ta4, .inl (cyA G 0, 32768, .inl (q_11.2.2.2.2.2.2.1))), (ta5, .inl (cyA G 0, 32768, .inl (q_11.2.2.2.2.2.2.2.1))), (ta6, .inl (cyA G 0, 32768, .inl (q_11.2.2.2.2.2.2.2.2.1))), (ta7, .inl (cyA G 1, 32768, .inl (q_11.2.2.2.2.2.2.2.2.2)))]) hP hD [7, 0, 1, 8, 2, 3, 4, 5, 6] [] rfl rfl (by decide) (by decide) hk1 hFc hP1 hD1
              have hP : va_P (DG G) clP3 [(t1, .inr (8, [.ref ta0, .ref ta1, .ref ta2, .ref ta3, .ref ta4, .ref ta5, .ref ta6, .ref ta7, .ref ta8, .int q_11.2.1])), (ta0, .inl (cyA G 0, 32768, .inl (q_11.2.2.1))), (ta1, .inl (cyA G 0, 32768, .inl (q_11.2.2.2.1))), (ta2, .inl (cyA G 0, 32768, .inl (q_11.2.2.2.2.1))), (ta3, .inl (cyA G 0, 32768, .inl (q_11.2.2.2.2.2.1))), (ta4, .inl (cyA G 0, 32768, .inl (q_11.2.2.2.2.2.2.1))), (ta5, .inl (cyA G 0, 32768, .inl (q_11.2.2.2.2.2.2.2.1))), (ta6, .inl (cyA G 0, 32768, .inl (q_11.2.2.2.2.2.2.2.2.1))), (ta7, .inl (cyA G 1, 32768, .inl (q_11.2.2.2.2.2.2.2.2.2)))] H := hP
              have hD : va_D A [(t1, .inr (8, [.ref ta0, .ref ta1, .ref ta2, .ref ta3, .ref ta4, .ref ta5, .ref ta6, .ref ta7, .ref ta8, .int q_11.2.1])), (ta0, .inl (cyA G 0, 32768, .inl (q_11.2.2.1))), (ta1, .inl (cyA G 0, 32768, .inl (q_11.2.2.2.1))), (ta2, .inl (cyA G 0, 32768, .inl (q_11.2.2.2.2.1))), (ta3, .inl (cyA G 0, 32768, .inl (q_11.2.2.2.2.2.1))), (ta4, .inl (cyA G 0, 32768, .inl (q_11.2.2.2.2.2.2.1))), (ta5, .inl (cyA G 0, 32768, .inl (q_11.2.2.2.2.2.2.2.1))), (ta6, .inl (cyA G 0, 32768, .inl (q_11.2.2.2.2.2.2.2.2.1))), (ta7, .inl (cyA G 1, 32768, .inl (q_11.2.2.2.2.2.2.2.2.2)))] := hD
              refine W.widen (k := 0) (n := 0) (Nat.le_of_ble_eq_true rfl) (Nat.le_of_ble_eq_true rfl) ?_
              refine lv_istore (lv' := [(6, .int q_11.1), (5, .int q_7.1), (4, .int q_4), (0, .ref t1), (1, .int p1), (2, .int p2), (3, .int p3)]) hx hb dX6_lift_86 hl (by decide) rfl (fun ls hl => ?_)
              refine lv_aload_n hx hb dX6_lift_88 rfl (lv_at hl 3 rfl) ?_
              refine lv_iload hx hb dX6_lift_89 (lv_at hl 2 rfl) ?_
              refine lv_iload hx hb dX6_lift_91 (lv_at hl 1 rfl) ?_
              refine lv_iload hx hb dX6_lift_93 (lv_at hl 0 rfl) ?_
              obtain ⟨q_12, hq_12, hm⟩ := bind_some hm
              have hFc := va_free (wc := [(t1, .inr (8, [.ref ta0, .ref ta1, .ref ta2, .ref ta3, .ref ta4, .ref ta5, .ref ta6, .ref ta7, .ref ta8, .int q_11.2.1])), (ta0, .inl (cyA G 0, 32768, .inl (q_11.2.2.1))), (ta1, .inl (cyA G 0, 32768, .inl (q_11.2.2.2.1))), (ta2, .inl (cyA G 0, 32768, .inl (q_11.2.2.2.2.1))), (ta3, .inl (cyA G 0, 32768, .inl (q_11.2.2.2.2.2.1))), (ta4, .inl (cyA G 0, 32768, .inl (q_11.2.2.2.2.2.2.1))), (ta5, .inl (cyA G 0, 32768, .inl (q_11.2.2.2.2.2.2.2.1))), (ta6, .inl (cyA G 0, 32768, .inl (q_11.2.2.2.2.2.2.2.2.1))), (ta7, .inl (cyA G 1, 32768, .inl (q_11.2.2.2.2.2.2.2.2.2)))]) hD hS hA [0, 1, 2, 3, 4, 5, 6, 7, 8] rfl
              refine va_calli (va_runV (As := [.int q_4, .int q_7.1, .int q_11.1]) (rest := []) ⟨hx, hb, hml, hown, hts⟩ (k_X9_pair l hfl G t1 q_4 q_7.1 q_11.1 ta0 ta1 ta2 ta3 ta4 ta5 ta6 ta7 ta8 q_11.2.1 q_11.2.2.1 q_11.2.2.2.1 q_11.2.2.2.2.1 q_11.2.2.2.2.2.1 q_11.2.2.2.2.2.2.1 q_11.2.2.2.2.2.2.2.1 q_11.2.2.2.2.2.2.2.2.1 q_11.2.2.2.2.2.2.2.2.2 q_12.1 q_12.2.1 q_12.2.2.1 q_12.2.2.2.1 q_12.2.2.2.2.1 q_12.2.2.2.2.2.1 q_12.2.2.2.2.2.2.1 q_12.2.2.2.2.2.2.2.1 q_12.2.2.2.2.2.2.2.2.1 q_12.2.2.2.2.2.2.2.2.2 hq_12 H.size) (cwV 3 hts (gV wm463 wm464 wm465 wm2 wm466) rfl rfl rfl (by decide +kernel) ⟨(by show 2 ≤ 2 + (d + 1); omega), (by show 40 ≤ 40 + (d + 1) * 26; omega)⟩) (pre_v (pre_s hK hP hD hS hE [0, 1, 2, 3, 4, 5, 6, 7, 8] rfl rfl (by decide) hFc) (va_recv hK hP (ci := 8) (q0 := 0) rfl rfl)) rfl rfl hl.1 rfl (lv_room (Nat.le_of_ble_eq_true rfl)) dX6_lift_95 ⟨Nat.le_of_ble_eq_true rfl, Nat.le_of_ble_eq_true rfl⟩) hS (fun q _ h => hFc q h) hFc (fun r u t H locs ht hvm hw hB hz1 hk1 hS => ?_)
              rw [show r = q_12.1 from hw]
              obtain ⟨hP1, hD1⟩ := hB
              rw [ht] at hP1
              obtain ⟨hP, hD⟩ := va_join (wr := []) (w1 := [(t1, .inr (8, [.ref ta0, .ref ta1, .ref ta2, .ref ta3, .ref ta4, .ref ta5, .ref ta6, .ref ta7, .ref ta8, .int q_12.2.1])), (ta0, .inl (cyA G 0, 32768, .inl (q_12.2.2.1))), (ta1, .inl (cyA G 0, 32768, .inl (q_12.2.2.2.1))), (ta2, .inl (cyA G 0, 32768, .inl (q_12.2.2.2.2.1))), (ta3, .inl (cyA G 0, 32768, .inl (q_12.2.2.2.2.2.1))), (ta4, .inl (cyA G 0, 32768, .inl (q_12.2.2.2.2.2.2.1))), (ta5, .inl (cyA G 0, 32768, .inl (q_12.2.2.2.2.2.2.2.1))), (ta6, .inl (cyA G 0, 32768, .inl (q_12.2.2.2.2.2.2.2.2.1))), (ta7, .inl (cyA G 1, 32768, .inl (q_12.2.2.2.2.2.2.2.2.2)))]) hP hD [0, 1, 2, 3, 4, 5, 6, 7, 8] [] rfl rfl (by decide) (by decide) hk1 hFc hP1 hD1
              have hP : va_P (DG G) clP3 [(t1, .inr (8, [.ref ta0, .ref ta1, .ref ta2, .ref ta3, .ref ta4, .ref ta5, .ref ta6, .ref ta7, .ref ta8, .int q_12.2.1])), (ta0, .inl (cyA G 0, 32768, .inl (q_12.2.2.1))), (ta1, .inl (cyA G 0, 32768, .inl (q_12.2.2.2.1))), (ta2, .inl (cyA G 0, 32768, .inl (q_12.2.2.2.2.1))), (ta3, .inl (cyA G 0, 32768, .inl (q_12.2.2.2.2.2.1))), (ta4, .inl (cyA G 0, 32768, .inl (q_12.2.2.2.2.2.2.1))), (ta5, .inl (cyA G 0, 32768, .inl (q_12.2.2.2.2.2.2.2.1))), (ta6, .inl (cyA G 0, 32768, .inl (q_12.2.2.2.2.2.2.2.2.1))), (ta7, .inl (cyA G 1, 32768, .inl (q_12.2.2.2.2.2.2.2.2.2)))] H := hP
              have hD : va_D A [(t1, .inr (8, [.ref ta0, .ref ta1, .ref ta2, .ref ta3, .ref ta4, .ref ta5, .ref ta6, .ref ta7, .ref ta8, .int q_12.2.1])), (ta0, .inl (cyA G 0, 32768, .inl (q_12.2.2.1))), (ta1, .inl (cyA G 0, 32768, .inl (q_12.2.2.2.1))), (ta2, .inl (cyA G 0, 32768, .inl (q_12.2.2.2.2.1))), (ta3, .inl (cyA G 0, 32768, .inl (q_12.2.2.2.2.2.1))), (ta4, .inl (cyA G 0, 32768, .inl (q_12.2.2.2.2.2.2.1))), (ta5, .inl (cyA G 0, 32768, .inl (q_12.2.2.2.2.2.2.2.1))), (ta6, .inl (cyA G 0, 32768, .inl (q_12.2.2.2.2.2.2.2.2.1))), (ta7, .inl (cyA G 1, 32768, .inl (q_12.2.2.2.2.2.2.2.2.2)))] := hD
              refine W.widen (k := 0) (n := 0) (Nat.le_of_ble_eq_true rfl) (Nat.le_of_ble_eq_true rfl) ?_
              simp only [Option.some.injEq, Prod.mk.injEq] at hm
              obtain ⟨rfl, rfl, rfl, rfl, rfl, rfl, rfl, rfl, rfl, rfl⟩ := hm
              have hP9 := hP.sub (ws' := [(t1, .inr (8, [.ref ta0, .ref ta1, .ref ta2, .ref ta3, .ref ta4, .ref ta5, .ref ta6, .ref ta7, .ref ta8, .int q_12.2.1])), (ta0, .inl (cyA G 0, 32768, .inl (q_12.2.2.1))), (ta1, .inl (cyA G 0, 32768, .inl (q_12.2.2.2.1))), (ta2, .inl (cyA G 0, 32768, .inl (q_12.2.2.2.2.1))), (ta3, .inl (cyA G 0, 32768, .inl (q_12.2.2.2.2.2.1))), (ta4, .inl (cyA G 0, 32768, .inl (q_12.2.2.2.2.2.2.1))), (ta5, .inl (cyA G 0, 32768, .inl (q_12.2.2.2.2.2.2.2.1))), (ta6, .inl (cyA G 0, 32768, .inl (q_12.2.2.2.2.2.2.2.2.1))), (ta7, .inl (cyA G 1, 32768, .inl (q_12.2.2.2.2.2.2.2.2.2)))]) [0, 1, 2, 3, 4, 5, 6, 7, 8] rfl
              have hD9 := hD.sub (ws' := [(t1, .inr (8, [.ref ta0, .ref ta1, .ref ta2, .ref ta3, .ref ta4, .ref ta5, .ref ta6, .ref ta7, .ref ta8, .int q_12.2.1])), (ta0, .inl (cyA G 0, 32768, .inl (q_12.2.2.1))), (ta1, .inl (cyA G 0, 32768, .inl (q_12.2.2.2.1))), (ta2, .inl (cyA G 0, 32768, .inl (q_12.2.2.2.2.1))), (ta3, .inl (cyA G 0, 32768, .inl (q_12.2.2.2.2.2.1))), (ta4, .inl (cyA G 0, 32768, .inl (q_12.2.2.2.2.2.2.1))), (ta5, .inl (cyA G 0, 32768, .inl (q_12.2.2.2.2.2.2.2.1))), (ta6, .inl (cyA G 0, 32768, .inl (q_12.2.2.2.2.2.2.2.2.1))), (ta7, .inl (cyA G 1, 32768, .inl (q_12.2.2.2.2.2.2.2.2.2)))]) [0, 1, 2, 3, 4, 5, 6, 7, 8] (by decide) rfl
              refine W.widen (k := 0) (n := 0) (Nat.le_of_ble_eq_true rfl) (Nat.le_of_ble_eq_true rfl) ?_
              exact W.iret (v := q_12.1) hx hb hr (fun t ht hW => ⟨⟨q_12.1, (), rfl, rfl, ⟨by rw [ht]; exact hP9, hD9⟩⟩, hS.F ht⟩) hS.2.2 dX6_lift_98 hlocks
            · rw [if_pos c_10] at hm
              refine lv_iload_n hx hb dX6_lift_76 rfl (lv_at hl 5 rfl) ?_
              refine lv_goto (tgt := 83) hx hb dX6_lift_77 (by decide) ?_
              obtain ⟨q_13, hq_13, hm⟩ := bind_some hm
              have hFc := va_free (wc := [(t1, .inr (8, [.ref ta0, .ref ta1, .ref ta2, .ref ta3, .ref ta4, .ref ta5, .ref ta6, .ref ta7, .ref ta8, .int q_7.2.1])), (ta0, .inl (cyA G 0, 32768, .inl (q_7.2.2.1))), (ta1, .inl (cyA G 0, 32768, .inl (q_7.2.2.2.1))), (ta2, .inl (cyA G 0, 32768, .inl (q_7.2.2.2.2.1))), (ta3, .inl (cyA G 0, 32768, .inl (q_7.2.2.2.2.2.1))), (ta4, .inl (cyA G 0, 32768, .inl (q_7.2.2.2.2.2.2.1))), (ta5, .inl (cyA G 0, 32768, .inl (q_7.2.2.2.2.2.2.2.1))), (ta6, .inl (cyA G 0, 32768, .inl (q_7.2.2.2.2.2.2.2.2.1))), (ta7, .inl (cyA G 1, 32768, .inl (q_7.2.2.2.2.2.2.2.2.2)))]) hD hS hA [7, 0, 1, 8, 2, 3, 4, 5, 6] rfl
              refine va_calli (va_runS (As := [.ref t1, .int q_9, .int p2, .int p3]) (rest := []) ⟨hx, hb, hml, hown, hts⟩ (ihd t1 q_9 p2 p3 ta0 ta1 ta2 ta3 ta4 ta5 ta6 ta7 ta8 q_7.2.1 q_7.2.2.1 q_7.2.2.2.1 q_7.2.2.2.2.1 q_7.2.2.2.2.2.1 q_7.2.2.2.2.2.2.1 q_7.2.2.2.2.2.2.2.1 q_7.2.2.2.2.2.2.2.2.1 q_7.2.2.2.2.2.2.2.2.2 q_13.1 q_13.2.1 q_13.2.2.1 q_13.2.2.2.1 q_13.2.2.2.2.1 q_13.2.2.2.2.2.1 q_13.2.2.2.2.2.2.1 q_13.2.2.2.2.2.2.2.1 q_13.2.2.2.2.2.2.2.2.1 q_13.2.2.2.2.2.2.2.2.2 hq_13 H.size) (cwS 4 hts (gS wm458 wm449 wm20 wm450) rfl rfl rfl (by decide +kernel) ⟨(by show 2 + d + 1 ≤ 2 + (d + 1); omega), (by show 8 + (7 + 11) + (40 + d * 26) ≤ 40 + (d + 1) * 26; omega)⟩) (pre_s hK hP hD hS hE [7, 0, 1, 8, 2, 3, 4, 5, 6] rfl rfl (by decide) hFc) rfl rfl hl.1 rfl (lv_room (Nat.le_of_ble_eq_true rfl)) dX6_lift_83 ⟨Nat.le_of_ble_eq_true rfl, Nat.le_of_ble_eq_true rfl⟩) hS (fun q _ h => hFc q h) hFc (fun r u t H locs ht hvm hw hB hz1 hk1 hS => ?_)
              rw [show r = q_13.1 from hw]
              obtain ⟨hP1, hD1⟩ := hB
              rw [ht] at hP1
              obtain ⟨hP, hD⟩ := va_join (wr := []) (w1 := [(t1, .inr (8, [.ref ta0, .ref ta1, .ref ta2, .ref ta3, .ref ta4, .ref ta5, .ref ta6, .ref ta7, .ref ta8, .int q_13.2.1])), (ta0, .inl (cyA G 0, 32768, .inl (q_13.2.2.1))), (ta1, .inl (cyA G 0, 32768, .inl (q_13.2.2.2.1))), (ta2, .inl (cyA G 0, 32768, .inl (q_13.2.2.2.2.1))), (ta3, .inl (cyA G 0, 32768, .inl (q_13.2.2.2.2.2.1))), (ta4, .inl (cyA G 0, 32768, .inl (q_13.2.2.2.2.2.2.1))), (ta5, .inl (cyA G 0, 32768, .inl (q_13.2.2.2.2.2.2.2.1))), (ta6, .inl (cyA G 0, 32768, .inl (q_13.2.2.2.2.2.2.2.2.1))), (ta7, .inl (cyA G 1, 32768, .inl (q_13.2.2.2.2.2.2.2.2.2)))]) hP hD [7, 0, 1, 8, 2, 3, 4, 5, 6] [] rfl rfl (by decide) (by decide) hk1 hFc hP1 hD1
              have hP : va_P (DG G) clP3 [(t1, .inr (8, [.ref ta0, .ref ta1, .ref ta2, .ref ta3, .ref ta4, .ref ta5, .ref ta6, .ref ta7, .ref ta8, .int q_13.2.1])), (ta0, .inl (cyA G 0, 32768, .inl (q_13.2.2.1))), (ta1, .inl (cyA G 0, 32768, .inl (q_13.2.2.2.1))), (ta2, .inl (cyA G 0, 32768, .inl (q_13.2.2.2.2.1))), (ta3, .inl (cyA G 0, 32768, .inl (q_13.2.2.2.2.2.1))), (ta4, .inl (cyA G 0, 32768, .inl (q_13.2.2.2.2.2.2.1))), (ta5, .inl (cyA G 0, 32768, .inl (q_13.2.2.2.2.2.2.2.1))), (ta6, .inl (cyA G 0, 32768, .inl (q_13.2.2.2.2.2.2.2.2.1))), (ta7, .inl (cyA G 1, 32768, .inl (q_13.2.2.2.2.2.2.2.2.2)))] H := hP
              have hD : va_D A [(t1, .inr (8, [.ref ta0, .ref ta1, .ref ta2, .ref ta3, .ref ta4, .ref ta5, .ref ta6, .ref ta7, .ref ta8, .int q_13.2.1])), (ta0, .inl (cyA G 0, 32768, .inl (q_13.2.2.1))), (ta1, .inl (cyA G 0, 32768, .inl (q_13.2.2.2.1))), (ta2, .inl (cyA G 0, 32768, .inl (q_13.2.2.2.2.1))), (ta3, .inl (cyA G 0, 32768, .inl (q_13.2.2.2.2.2.1))), (ta4, .inl (cyA G 0, 32768, .inl (q_13.2.2.2.2.2.2.1))), (ta5, .inl (cyA G 0, 32768, .inl (q_13.2.2.2.2.2.2.2.1))), (ta6, .inl (cyA G 0, 32768, .inl (q_13.2.2.2.2.2.2.2.2.1))), (ta7, .inl (cyA G 1, 32768, .inl (q_13.2.2.2.2.2.2.2.2.2)))] := hD
              refine W.widen (k := 0) (n := 0) (Nat.le_of_ble_eq_true rfl) (Nat.le_of_ble_eq_true rfl) ?_
              refine lv_istore (lv' := [(6, .int q_13.1), (5, .int q_7.1), (4, .int q_4), (0, .ref t1), (1, .int p1), (2, .int p2), (3, .int p3)]) hx hb dX6_lift_86 hl (by decide) rfl (fun ls hl => ?_)
              refine lv_aload_n hx hb dX6_lift_88 rfl (lv_at hl 3 rfl) ?_
              refine lv_iload hx hb dX6_lift_89 (lv_at hl 2 rfl) ?_
              refine lv_iload hx hb dX6_lift_91 (lv_at hl 1 rfl) ?_
              refine lv_iload hx hb dX6_lift_93 (lv_at hl 0 rfl) ?_
              obtain ⟨q_14, hq_14, hm⟩ := bind_some hm
              have hFc := va_free (wc := [(t1, .inr (8, [.ref ta0, .ref ta1, .ref ta2, .ref ta3, .ref ta4, .ref ta5, .ref ta6, .ref ta7, .ref ta8, .int q_13.2.1])), (ta0, .inl (cyA G 0, 32768, .inl (q_13.2.2.1))), (ta1, .inl (cyA G 0, 32768, .inl (q_13.2.2.2.1))), (ta2, .inl (cyA G 0, 32768, .inl (q_13.2.2.2.2.1))), (ta3, .inl (cyA G 0, 32768, .inl (q_13.2.2.2.2.2.1))), (ta4, .inl (cyA G 0, 32768, .inl (q_13.2.2.2.2.2.2.1))), (ta5, .inl (cyA G 0, 32768, .inl (q_13.2.2.2.2.2.2.2.1))), (ta6, .inl (cyA G 0, 32768, .inl (q_13.2.2.2.2.2.2.2.2.1))), (ta7, .inl (cyA G 1, 32768, .inl (q_13.2.2.2.2.2.2.2.2.2)))]) hD hS hA [0, 1, 2, 3, 4, 5, 6, 7, 8] rfl
              refine va_calli (va_runV (As := [.int q_4, .int q_7.1, .int q_13.1]) (rest := []) ⟨hx, hb, hml, hown, hts⟩ (k_X9_pair l hfl G t1 q_4 q_7.1 q_13.1 ta0 ta1 ta2 ta3 ta4 ta5 ta6 ta7 ta8 q_13.2.1 q_13.2.2.1 q_13.2.2.2.1 q_13.2.2.2.2.1 q_13.2.2.2.2.2.1 q_13.2.2.2.2.2.2.1 q_13.2.2.2.2.2.2.2.1 q_13.2.2.2.2.2.2.2.2.1 q_13.2.2.2.2.2.2.2.2.2 q_14.1 q_14.2.1 q_14.2.2.1 q_14.2.2.2.1 q_14.2.2.2.2.1 q_14.2.2.2.2.2.1 q_14.2.2.2.2.2.2.1 q_14.2.2.2.2.2.2.2.1 q_14.2.2.2.2.2.2.2.2.1 q_14.2.2.2.2.2.2.2.2.2 hq_14 H.size) (cwV 3 hts (gV wm463 wm464 wm465 wm2 wm466) rfl rfl rfl (by decide +kernel) ⟨(by show 2 ≤ 2 + (d + 1); omega), (by show 40 ≤ 40 + (d + 1) * 26; omega)⟩) (pre_v (pre_s hK hP hD hS hE [0, 1, 2, 3, 4, 5, 6, 7, 8] rfl rfl (by decide) hFc) (va_recv hK hP (ci := 8) (q0 := 0) rfl rfl)) rfl rfl hl.1 rfl (lv_room (Nat.le_of_ble_eq_true rfl)) dX6_lift_95 ⟨Nat.le_of_ble_eq_true rfl, Nat.le_of_ble_eq_true rfl⟩) hS (fun q _ h => hFc q h) hFc (fun r u t H locs ht hvm hw hB hz1 hk1 hS => ?_)
              rw [show r = q_14.1 from hw]
              obtain ⟨hP1, hD1⟩ := hB
              rw [ht] at hP1
              obtain ⟨hP, hD⟩ := va_join (wr := []) (w1 := [(t1, .inr (8, [.ref ta0, .ref ta1, .ref ta2, .ref ta3, .ref ta4, .ref ta5, .ref ta6, .ref ta7, .ref ta8, .int q_14.2.1])), (ta0, .inl (cyA G 0, 32768, .inl (q_14.2.2.1))), (ta1, .inl (cyA G 0, 32768, .inl (q_14.2.2.2.1))), (ta2, .inl (cyA G 0, 32768, .inl (q_14.2.2.2.2.1))), (ta3, .inl (cyA G 0, 32768, .inl (q_14.2.2.2.2.2.1))), (ta4, .inl (cyA G 0, 32768, .inl (q_14.2.2.2.2.2.2.1))), (ta5, .inl (cyA G 0, 32768, .inl (q_14.2.2.2.2.2.2.2.1))), (ta6, .inl (cyA G 0, 32768, .inl (q_14.2.2.2.2.2.2.2.2.1))), (ta7, .inl (cyA G 1, 32768, .inl (q_14.2.2.2.2.2.2.2.2.2)))]) hP hD [0, 1, 2, 3, 4, 5, 6, 7, 8] [] rfl rfl (by decide) (by decide) hk1 hFc hP1 hD1
              have hP : va_P (DG G) clP3 [(t1, .inr (8, [.ref ta0, .ref ta1, .ref ta2, .ref ta3, .ref ta4, .ref ta5, .ref ta6, .ref ta7, .ref ta8, .int q_14.2.1])), (ta0, .inl (cyA G 0, 32768, .inl (q_14.2.2.1))), (ta1, .inl (cyA G 0, 32768, .inl (q_14.2.2.2.1))), (ta2, .inl (cyA G 0, 32768, .inl (q_14.2.2.2.2.1))), (ta3, .inl (cyA G 0, 32768, .inl (q_14.2.2.2.2.2.1))), (ta4, .inl (cyA G 0, 32768, .inl (q_14.2.2.2.2.2.2.1))), (ta5, .inl (cyA G 0, 32768, .inl (q_14.2.2.2.2.2.2.2.1))), (ta6, .inl (cyA G 0, 32768, .inl (q_14.2.2.2.2.2.2.2.2.1))), (ta7, .inl (cyA G 1, 32768, .inl (q_14.2.2.2.2.2.2.2.2.2)))] H := hP
              have hD : va_D A [(t1, .inr (8, [.ref ta0, .ref ta1, .ref ta2, .ref ta3, .ref ta4, .ref ta5, .ref ta6, .ref ta7, .ref ta8, .int q_14.2.1])), (ta0, .inl (cyA G 0, 32768, .inl (q_14.2.2.1))), (ta1, .inl (cyA G 0, 32768, .inl (q_14.2.2.2.1))), (ta2, .inl (cyA G 0, 32768, .inl (q_14.2.2.2.2.1))), (ta3, .inl (cyA G 0, 32768, .inl (q_14.2.2.2.2.2.1))), (ta4, .inl (cyA G 0, 32768, .inl (q_14.2.2.2.2.2.2.1))), (ta5, .inl (cyA G 0, 32768, .inl (q_14.2.2.2.2.2.2.2.1))), (ta6, .inl (cyA G 0, 32768, .inl (q_14.2.2.2.2.2.2.2.2.1))), (ta7, .inl (cyA G 1, 32768, .inl (q_14.2.2.2.2.2.2.2.2.2)))] := hD
              refine W.widen (k := 0) (n := 0) (Nat.le_of_ble_eq_true rfl) (Nat.le_of_ble_eq_true rfl) ?_
              simp only [Option.some.injEq, Prod.mk.injEq] at hm
              obtain ⟨rfl, rfl, rfl, rfl, rfl, rfl, rfl, rfl, rfl, rfl⟩ := hm
              have hP9 := hP.sub (ws' := [(t1, .inr (8, [.ref ta0, .ref ta1, .ref ta2, .ref ta3, .ref ta4, .ref ta5, .ref ta6, .ref ta7, .ref ta8, .int q_14.2.1])), (ta0, .inl (cyA G 0, 32768, .inl (q_14.2.2.1))), (ta1, .inl (cyA G 0, 32768, .inl (q_14.2.2.2.1))), (ta2, .inl (cyA G 0, 32768, .inl (q_14.2.2.2.2.1))), (ta3, .inl (cyA G 0, 32768, .inl (q_14.2.2.2.2.2.1))), (ta4, .inl (cyA G 0, 32768, .inl (q_14.2.2.2.2.2.2.1))), (ta5, .inl (cyA G 0, 32768, .inl (q_14.2.2.2.2.2.2.2.1))), (ta6, .inl (cyA G 0, 32768, .inl (q_14.2.2.2.2.2.2.2.2.1))), (ta7, .inl (cyA G 1, 32768, .inl (q_14.2.2.2.2.2.2.2.2.2)))]) [0, 1, 2, 3, 4, 5, 6, 7, 8] rfl
              have hD9 := hD.sub (ws' := [(t1, .inr (8, [.ref ta0, .ref ta1, .ref ta2, .ref ta3, .ref ta4, .ref ta5, .ref ta6, .ref ta7, .ref ta8, .int q_14.2.1])), (ta0, .inl (cyA G 0, 32768, .inl (q_14.2.2.1))), (ta1, .inl (cyA G 0, 32768, .inl (q_14.2.2.2.1))), (ta2, .inl (cyA G 0, 32768, .inl (q_14.2.2.2.2.1))), (ta3, .inl (cyA G 0, 32768, .inl (q_14.2.2.2.2.2.1))), (ta4, .inl (cyA G 0, 32768, .inl (q_14.2.2.2.2.2.2.1))), (ta5, .inl (cyA G 0, 32768, .inl (q_14.2.2.2.2.2.2.2.1))), (ta6, .inl (cyA G 0, 32768, .inl (q_14.2.2.2.2.2.2.2.2.1))), (ta7, .inl (cyA G 1, 32768, .inl (q_14.2.2.2.2.2.2.2.2.2)))]) [0, 1, 2, 3, 4, 5, 6, 7, 8] (by decide) rfl
              refine W.widen (k := 0) (n := 0) (Nat.le_of_ble_eq_true rfl) (Nat.le_of_ble_eq_true rfl) ?_
              exact W.iret (v := q_14.1) hx hb hr (fun t ht hW => ⟨⟨q_14.1, (), rfl, rfl, ⟨by rw [ht]; exact hP9, hD9⟩⟩, hS.F ht⟩) hS.2.2 dX6_lift_98 hlocks
          · rw [if_pos c_8] at hm
            refine lv_iconst (v := (-1)) hx hb dX6_lift_60 (by decide) ?_
            simp only [Option.some.injEq, Prod.mk.injEq] at hm
            obtain ⟨rfl, rfl, rfl, rfl, rfl, rfl, rfl, rfl, rfl, rfl⟩ := hm
            have hP9 := hP.sub (ws' := [(t1, .inr (8, [.ref ta0, .ref ta1, .ref ta2, .ref ta3, .ref ta4, .ref ta5, .ref ta6, .ref ta7, .ref ta8, .int q_7.2.1])), (ta0, .inl (cyA G 0, 32768, .inl (q_7.2.2.1))), (ta1, .inl (cyA G 0, 32768, .inl (q_7.2.2.2.1))), (ta2, .inl (cyA G 0, 32768, .inl (q_7.2.2.2.2.1))), (ta3, .inl (cyA G 0, 32768, .inl (q_7.2.2.2.2.2.1))), (ta4, .inl (cyA G 0, 32768, .inl (q_7.2.2.2.2.2.2.1))), (ta5, .inl (cyA G 0, 32768, .inl (q_7.2.2.2.2.2.2.2.1))), (ta6, .inl (cyA G 0, 32768, .inl (q_7.2.2.2.2.2.2.2.2.1))), (ta7, .inl (cyA G 1, 32768, .inl (q_7.2.2.2.2.2.2.2.2.2)))]) [0, 1, 2, 3, 4, 5, 6, 7, 8] rfl
            have hD9 := hD.sub (ws' := [(t1, .inr (8, [.ref ta0, .ref ta1, .ref ta2, .ref ta3, .ref ta4, .ref ta5, .ref ta6, .ref ta7, .ref ta8, .int q_7.2.1])), (ta0, .inl (cyA G 0, 32768, .inl (q_7.2.2.1))), (ta1, .inl (cyA G 0, 32768, .inl (q_7.2.2.2.1))), (ta2, .inl (cyA G 0, 32768, .inl (q_7.2.2.2.2.1))), (ta3, .inl (cyA G 0, 32768, .inl (q_7.2.2.2.2.2.1))), (ta4, .inl (cyA G 0, 32768, .inl (q_7.2.2.2.2.2.2.1))), (ta5, .inl (cyA G 0, 32768, .inl (q_7.2.2.2.2.2.2.2.1))), (ta6, .inl (cyA G 0, 32768, .inl (q_7.2.2.2.2.2.2.2.2.1))), (ta7, .inl (cyA G 1, 32768, .inl (q_7.2.2.2.2.2.2.2.2.2)))]) [0, 1, 2, 3, 4, 5, 6, 7, 8] (by decide) rfl
            refine W.widen (k := 0) (n := 0) (Nat.le_of_ble_eq_true rfl) (Nat.le_of_ble_eq_true rfl) ?_
            exact W.iret (v := (-1)) hx hb hr (fun t ht hW => ⟨⟨(-1), (), rfl, rfl, ⟨by rw [ht]; exact hP9, hD9⟩⟩, hS.F ht⟩) hS.2.2 dX6_lift_61 hlocks
        · rw [if_pos c_5] at hm
          refine lv_aload_n hx hb dX6_lift_28 rfl (lv_at hl 1 rfl) ?_
          refine lv_iconst (v := 1) hx hb dX6_lift_29 (by decide) ?_
          refine lv_aload_n hx hb dX6_lift_30 rfl (lv_at hl 1 rfl) ?_
          refine lv_iload_n hx hb dX6_lift_31 rfl (lv_at hl 2 rfl) ?_
          obtain ⟨q_15, hq_15, hm⟩ := bind_some hm
          have hFc := va_free (wc := [(t1, .inr (8, [.ref ta0, .ref ta1, .ref ta2, .ref ta3, .ref ta4, .ref ta5, .ref ta6, .ref ta7, .ref ta8, .int mm])), (ta1, .inl (cyA G 0, 32768, .inl (tf1)))]) hD hS hA [7, 0] rfl
          refine va_calli (va_runV (As := [.int p1]) (rest := [.int 1, .ref t1]) ⟨hx, hb, hml, hown, hts⟩ (k_X9_firstOf l hfl G t1 p1 ta0 ta1 ta2 ta3 ta4 ta5 ta6 ta7 ta8 mm tf1 q_15 hq_15 H.size) (cwV 1 hts (gV wm456 wm431 wm432 wm2 wm433) rfl rfl rfl (by decide +kernel) ⟨(by show 1 ≤ 2 + (d + 1); omega), (by show 21 ≤ 40 + (d + 1) * 26; omega)⟩) (pre_v (pre_s hK hP hD hS hE [7, 0] rfl rfl (by decide) hFc) (va_recv hK hP (ci := 8) (q0 := 7) rfl rfl)) rfl rfl hl.1 rfl (lv_room (Nat.le_of_ble_eq_true rfl)) dX6_lift_32 ⟨Nat.le_of_ble_eq_true rfl, Nat.le_of_ble_eq_true rfl⟩) hS (fun q _ h => hFc q h) hFc (fun r u t H locs ht hvm hw hB hz1 hk1 hS => ?_)
          rw [show r = q_15 from hw]
          obtain ⟨hP1, hD1⟩ := hB
          rw [ht] at hP1
          obtain ⟨hP, hD⟩ := va_join (wr := [(ta2, .inl (cyA G 0, 32768, .inl (tf2))), (ta3, .inl (cyA G 0, 32768, .inl (tf3))), (ta4, .inl (cyA G 0, 32768, .inl (tf4))), (ta6, .inl (cyA G 0, 32768, .inl (tf6))), (ta7, .inl (cyA G 1, 32768, .inl (tf7))), (ta5, .inl (cyA G 0, 32768, .inl (tf5))), (ta0, .inl (cyA G 0, 32768, .inl (tf0)))]) (w1 := [(t1, .inr (8, [.ref ta0, .ref ta1, .ref ta2, .ref ta3, .ref ta4, .ref ta5, .ref ta6, .ref ta7, .ref ta8, .int mm])), (ta1, .inl (cyA G 0, 32768, .inl (tf1)))]) hP hD [7, 0] [1, 2, 3, 4, 5, 6, 8] rfl rfl (by decide) (by decide) hk1 hFc hP1 hD1
          have hP : va_P (DG G) clP3 [(ta2, .inl (cyA G 0, 32768, .inl (tf2))), (ta3, .inl (cyA G 0, 32768, .inl (tf3))), (ta4, .inl (cyA G 0, 32768, .inl (tf4))), (ta6, .inl (cyA G 0, 32768, .inl (tf6))), (ta7, .inl (cyA G 1, 32768, .inl (tf7))), (ta5, .inl (cyA G 0, 32768, .inl (tf5))), (ta0, .inl (cyA G 0, 32768, .inl (tf0))), (t1, .inr (8, [.ref ta0, .ref ta1, .ref ta2, .ref ta3, .ref ta4, .ref ta5, .ref ta6, .ref ta7, .ref ta8, .int mm])), (ta1, .inl (cyA G 0, 32768, .inl (tf1)))] H := hP
          have hD : va_D A [(ta2, .inl (cyA G 0, 32768, .inl (tf2))), (ta3, .inl (cyA G 0, 32768, .inl (tf3))), (ta4, .inl (cyA G 0, 32768, .inl (tf4))), (ta6, .inl (cyA G 0, 32768, .inl (tf6))), (ta7, .inl (cyA G 1, 32768, .inl (tf7))), (ta5, .inl (cyA G 0, 32768, .inl (tf5))), (ta0, .inl (cyA G 0, 32768, .inl (tf0))), (t1, .inr (8, [.ref ta0, .ref ta1, .ref ta2, .ref ta3, .ref ta4, .ref ta5, .ref ta6, .ref ta7, .ref ta8, .int mm])), (ta1, .inl (cyA G 0, 32768, .inl (tf1)))] := hD
          refine W.widen (k := 0) (n := 0) (Nat.le_of_ble_eq_true rfl) (Nat.le_of_ble_eq_true rfl) ?_
          refine lv_iload_n hx hb dX6_lift_35 rfl (lv_at hl 3 rfl) ?_
          refine lv_iadd hx hb dX6_lift_36 ?_
          obtain ⟨q_16, hq_16, hm⟩ := bind_some hm
          have hFc := va_free (wc := [(t1, .inr (8, [.ref ta0, .ref ta1, .ref ta2, .ref ta3, .ref ta4, .ref ta5, .ref ta6, .ref ta7, .ref ta8, .int mm])), (ta0, .inl (cyA G 0, 32768, .inl (tf0))), (ta1, .inl (cyA G 0, 32768, .inl (tf1))), (ta2, .inl (cyA G 0, 32768, .inl (tf2))), (ta3, .inl (cyA G 0, 32768, .inl (tf3))), (ta4, .inl (cyA G 0, 32768, .inl (tf4))), (ta5, .inl (cyA G 0, 32768, .inl (tf5))), (ta6, .inl (cyA G 0, 32768, .inl (tf6))), (ta7, .inl (cyA G 1, 32768, .inl (tf7)))]) hD hS hA [7, 6, 8, 0, 1, 2, 5, 3, 4] rfl
          refine va_calli (va_runV (As := [.int 1, .int (q_15 + p2)]) (rest := []) ⟨hx, hb, hml, hown, hts⟩ (k_X9_leaf l hfl G t1 1 (q_15 + p2) ta0 ta1 ta2 ta3 ta4 ta5 ta6 ta7 ta8 mm tf0 tf1 tf2 tf3 tf4 tf5 tf6 tf7 q_16.1 q_16.2.1 q_16.2.2.1 q_16.2.2.2.1 q_16.2.2.2.2.1 q_16.2.2.2.2.2.1 q_16.2.2.2.2.2.2.1 q_16.2.2.2.2.2.2.2.1 q_16.2.2.2.2.2.2.2.2.1 q_16.2.2.2.2.2.2.2.2.2 hq_16 H.size) (cwV 2 hts (gV wm457 wm439 wm440 wm2 wm441) rfl rfl rfl (by decide +kernel) ⟨(by show 1 ≤ 2 + (d + 1); omega), (by show 23 ≤ 40 + (d + 1) * 26; omega)⟩) (pre_v (pre_s hK hP hD hS hE [7, 6, 8, 0, 1, 2, 5, 3, 4] rfl rfl (by decide) hFc) (va_recv hK hP (ci := 8) (q0 := 7) rfl rfl)) rfl rfl hl.1 rfl (lv_room (Nat.le_of_ble_eq_true rfl)) dX6_lift_37 ⟨Nat.le_of_ble_eq_true rfl, Nat.le_of_ble_eq_true rfl⟩) hS (fun q _ h => hFc q h) hFc (fun r u t H locs ht hvm hw hB hz1 hk1 hS => ?_)
          rw [show r = q_16.1 from hw]
          obtain ⟨hP1, hD1⟩ := hB
          rw [ht] at hP1
          obtain ⟨hP, hD⟩ := va_join (wr := []) (w1 := [(t1, .inr (8, [.ref ta0, .ref ta1, .ref ta2, .ref ta3, .ref ta4, .ref ta5, .ref ta6, .ref ta7, .ref ta8, .int q_16.2.1])), (ta0, .inl (cyA G 0, 32768, .inl (q_16.2.2.1))), (ta1, .inl (cyA G 0, 32768, .inl (q_16.2.2.2.1))), (ta2, .inl (cyA G 0, 32768, .inl (q_16.2.2.2.2.1))), (ta3, .inl (cyA G 0, 32768, .inl (q_16.2.2.2.2.2.1))), (ta4, .inl (cyA G 0, 32768, .inl (q_16.2.2.2.2.2.2.1))), (ta5, .inl (cyA G 0, 32768, .inl (q_16.2.2.2.2.2.2.2.1))), (ta6, .inl (cyA G 0, 32768, .inl (q_16.2.2.2.2.2.2.2.2.1))), (ta7, .inl (cyA G 1, 32768, .inl (q_16.2.2.2.2.2.2.2.2.2)))]) hP hD [7, 6, 8, 0, 1, 2, 5, 3, 4] [] rfl rfl (by decide) (by decide) hk1 hFc hP1 hD1
          have hP : va_P (DG G) clP3 [(t1, .inr (8, [.ref ta0, .ref ta1, .ref ta2, .ref ta3, .ref ta4, .ref ta5, .ref ta6, .ref ta7, .ref ta8, .int q_16.2.1])), (ta0, .inl (cyA G 0, 32768, .inl (q_16.2.2.1))), (ta1, .inl (cyA G 0, 32768, .inl (q_16.2.2.2.1))), (ta2, .inl (cyA G 0, 32768, .inl (q_16.2.2.2.2.1))), (ta3, .inl (cyA G 0, 32768, .inl (q_16.2.2.2.2.2.1))), (ta4, .inl (cyA G 0, 32768, .inl (q_16.2.2.2.2.2.2.1))), (ta5, .inl (cyA G 0, 32768, .inl (q_16.2.2.2.2.2.2.2.1))), (ta6, .inl (cyA G 0, 32768, .inl (q_16.2.2.2.2.2.2.2.2.1))), (ta7, .inl (cyA G 1, 32768, .inl (q_16.2.2.2.2.2.2.2.2.2)))] H := hP
          have hD : va_D A [(t1, .inr (8, [.ref ta0, .ref ta1, .ref ta2, .ref ta3, .ref ta4, .ref ta5, .ref ta6, .ref ta7, .ref ta8, .int q_16.2.1])), (ta0, .inl (cyA G 0, 32768, .inl (q_16.2.2.1))), (ta1, .inl (cyA G 0, 32768, .inl (q_16.2.2.2.1))), (ta2, .inl (cyA G 0, 32768, .inl (q_16.2.2.2.2.1))), (ta3, .inl (cyA G 0, 32768, .inl (q_16.2.2.2.2.2.1))), (ta4, .inl (cyA G 0, 32768, .inl (q_16.2.2.2.2.2.2.1))), (ta5, .inl (cyA G 0, 32768, .inl (q_16.2.2.2.2.2.2.2.1))), (ta6, .inl (cyA G 0, 32768, .inl (q_16.2.2.2.2.2.2.2.2.1))), (ta7, .inl (cyA G 1, 32768, .inl (q_16.2.2.2.2.2.2.2.2.2)))] := hD
          refine W.widen (k := 0) (n := 0) (Nat.le_of_ble_eq_true rfl) (Nat.le_of_ble_eq_true rfl) ?_
          simp only [Option.some.injEq, Prod.mk.injEq] at hm
          obtain ⟨rfl, rfl, rfl, rfl, rfl, rfl, rfl, rfl, rfl, rfl⟩ := hm
          have hP9 := hP.sub (ws' := [(t1, .inr (8, [.ref ta0, .ref ta1, .ref ta2, .ref ta3, .ref ta4, .ref ta5, .ref ta6, .ref ta7, .ref ta8, .int q_16.2.1])), (ta0, .inl (cyA G 0, 32768, .inl (q_16.2.2.1))), (ta1, .inl (cyA G 0, 32768, .inl (q_16.2.2.2.1))), (ta2, .inl (cyA G 0, 32768, .inl (q_16.2.2.2.2.1))), (ta3, .inl (cyA G 0, 32768, .inl (q_16.2.2.2.2.2.1))), (ta4, .inl (cyA G 0, 32768, .inl (q_16.2.2.2.2.2.2.1))), (ta5, .inl (cyA G 0, 32768, .inl (q_16.2.2.2.2.2.2.2.1))), (ta6, .inl (cyA G 0, 32768, .inl (q_16.2.2.2.2.2.2.2.2.1))), (ta7, .inl (cyA G 1, 32768, .inl (q_16.2.2.2.2.2.2.2.2.2)))]) [0, 1, 2, 3, 4, 5, 6, 7, 8] rfl
          have hD9 := hD.sub (ws' := [(t1, .inr (8, [.ref ta0, .ref ta1, .ref ta2, .ref ta3, .ref ta4, .ref ta5, .ref ta6, .ref ta7, .ref ta8, .int q_16.2.1])), (ta0, .inl (cyA G 0, 32768, .inl (q_16.2.2.1))), (ta1, .inl (cyA G 0, 32768, .inl (q_16.2.2.2.1))), (ta2, .inl (cyA G 0, 32768, .inl (q_16.2.2.2.2.1))), (ta3, .inl (cyA G 0, 32768, .inl (q_16.2.2.2.2.2.1))), (ta4, .inl (cyA G 0, 32768, .inl (q_16.2.2.2.2.2.2.1))), (ta5, .inl (cyA G 0, 32768, .inl (q_16.2.2.2.2.2.2.2.1))), (ta6, .inl (cyA G 0, 32768, .inl (q_16.2.2.2.2.2.2.2.2.1))), (ta7, .inl (cyA G 1, 32768, .inl (q_16.2.2.2.2.2.2.2.2.2)))]) [0, 1, 2, 3, 4, 5, 6, 7, 8] (by decide) rfl
          refine W.widen (k := 0) (n := 0) (Nat.le_of_ble_eq_true rfl) (Nat.le_of_ble_eq_true rfl) ?_
          exact W.iret (v := q_16.1) hx hb hr (fun t ht hW => ⟨⟨q_16.1, (), rfl, rfl, ⟨by rw [ht]; exact hP9, hD9⟩⟩, hS.F ht⟩) hS.2.2 dX6_lift_40 hlocks
      · rw [if_pos c_3] at hm
        refine lv_iload_n hx hb dX6_lift_13 rfl (lv_at hl 1 rfl) ?_
        simp only [Option.some.injEq, Prod.mk.injEq] at hm
        obtain ⟨rfl, rfl, rfl, rfl, rfl, rfl, rfl, rfl, rfl, rfl⟩ := hm
        have hP9 := hP.sub (ws' := [(t1, .inr (8, [.ref ta0, .ref ta1, .ref ta2, .ref ta3, .ref ta4, .ref ta5, .ref ta6, .ref ta7, .ref ta8, .int mm])), (ta0, .inl (cyA G 0, 32768, .inl (tf0))), (ta1, .inl (cyA G 0, 32768, .inl (tf1))), (ta2, .inl (cyA G 0, 32768, .inl (tf2))), (ta3, .inl (cyA G 0, 32768, .inl (tf3))), (ta4, .inl (cyA G 0, 32768, .inl (tf4))), (ta5, .inl (cyA G 0, 32768, .inl (tf5))), (ta6, .inl (cyA G 0, 32768, .inl (tf6))), (ta7, .inl (cyA G 1, 32768, .inl (tf7)))]) [7, 0, 1, 2, 3, 4, 8, 5, 6] rfl
        have hD9 := hD.sub (ws' := [(t1, .inr (8, [.ref ta0, .ref ta1, .ref ta2, .ref ta3, .ref ta4, .ref ta5, .ref ta6, .ref ta7, .ref ta8, .int mm])), (ta0, .inl (cyA G 0, 32768, .inl (tf0))), (ta1, .inl (cyA G 0, 32768, .inl (tf1))), (ta2, .inl (cyA G 0, 32768, .inl (tf2))), (ta3, .inl (cyA G 0, 32768, .inl (tf3))), (ta4, .inl (cyA G 0, 32768, .inl (tf4))), (ta5, .inl (cyA G 0, 32768, .inl (tf5))), (ta6, .inl (cyA G 0, 32768, .inl (tf6))), (ta7, .inl (cyA G 1, 32768, .inl (tf7)))]) [7, 0, 1, 2, 3, 4, 8, 5, 6] (by decide) rfl
        refine W.widen (k := 0) (n := 0) (Nat.le_of_ble_eq_true rfl) (Nat.le_of_ble_eq_true rfl) ?_
        exact W.iret (v := p1) hx hb hr (fun t ht hW => ⟨⟨p1, (), rfl, rfl, ⟨by rw [ht]; exact hP9, hD9⟩⟩, hS.F ht⟩) hS.2.2 dX6_lift_14 hlocks
def f_X6_put : Nat → (Int32) → (Nat → Int32) → (Nat → Int32) → (Nat → Int32) → (Nat → Int32) → (Nat → Int32) → (Nat → Int32) → (Nat → Int32) → (Nat → Int32) → (Int32) → (Int32) → (Int32) → Option (Int32 × Int32 × (Nat → Int32) × (Nat → Int32) × (Nat → Int32) × (Nat → Int32) × (Nat → Int32) × (Nat → Int32) × (Nat → Int32) × (Nat → Int32))
  | 0, _, _, _, _, _, _, _, _, _, _, _, _ => none
  | d + 1, mm, tf0, tf1, tf2, tf3, tf4, tf5, tf6, tf7, p1, p2, p3 => (Option.bind (f_X9_freeOf mm tf5 p1) (fun q_1 => (if p3 < q_1 then (Option.bind (f_X9_kindOf mm tf0 p1) (fun q_3 => (if q_3 = 1 then (Option.bind (f_X9_firstOf mm tf1 p1) (fun q_14 => (if q_14 = p3 then (Option.bind (f_X6_lift 200 mm tf0 tf1 tf2 tf3 tf4 tf5 tf6 tf7 p2 p3 0) (fun q_17 => some (q_17.1, q_17.2.1, q_17.2.2.1, q_17.2.2.2.1, q_17.2.2.2.2.1, q_17.2.2.2.2.2.1, q_17.2.2.2.2.2.2.1, q_17.2.2.2.2.2.2.2.1, q_17.2.2.2.2.2.2.2.2.1, q_17.2.2.2.2.2.2.2.2.2))) else (Option.bind (f_X9_leaf mm tf0 tf1 tf2 tf3 tf4 tf5 tf6 tf7 1 (q_14 - 1)) (fun q_16 => some (q_16.1, q_16.2.1, q_16.2.2.1, q_16.2.2.2.1, q_16.2.2.2.2.1, q_16.2.2.2.2.2.1, q_16.2.2.2.2.2.2.1, q_16.2.2.2.2.2.2.2.1, q_16.2.2.2.2.2.2.2.2.1, q_16.2.2.2.2.2.2.2.2.2)))))) else (Option.bind (f_X9_firstOf mm tf1 p1) (fun q_5 => (Option.bind (f_X6_put d mm tf0 tf1 tf2 tf3 tf4 tf5 tf6 tf7 q_5 p2 p3) (fun q_6 => (if q_6.1 = (-1) then some ((-1), q_6.2.1, q_6.2.2.1, q_6.2.2.2.1, q_6.2.2.2.2.1, q_6.2.2.2.2.2.1, q_6.2.2.2.2.2.2.1, q_6.2.2.2.2.2.2.2.1, q_6.2.2.2.2.2.2.2.2.1, q_6.2.2.2.2.2.2.2.2.2) else (Option.bind (f_X9_secondOf q_6.2.1 q_6.2.2.2.2.1 p1) (fun q_8 => (if q_3 = 7 then (Option.bind (f_X6_put d q_6.2.1 q_6.2.2.1 q_6.2.2.2.1 q_6.2.2.2.2.1 q_6.2.2.2.2.2.1 q_6.2.2.2.2.2.2.1 q_6.2.2.2.2.2.2.2.1 q_6.2.2.2.2.2.2.2.2.1 q_6.2.2.2.2.2.2.2.2.2 q_8 p2 p3) (fun q_12 => (Option.bind (f_X9_pair q_12.2.1 q_12.2.2.1 q_12.2.2.2.1 q_12.2.2.2.2.1 q_12.2.2.2.2.2.1 q_12.2.2.2.2.2.2.1 q_12.2.2.2.2.2.2.2.1 q_12.2.2.2.2.2.2.2.2.1 q_12.2.2.2.2.2.2.2.2.2 q_3 q_6.1 q_12.1) (fun q_13 => some (q_13.1, q_13.2.1, q_13.2.2.1, q_13.2.2.2.1, q_13.2.2.2.2.1, q_13.2.2.2.2.2.1, q_13.2.2.2.2.2.2.1, q_13.2.2.2.2.2.2.2.1, q_13.2.2.2.2.2.2.2.2.1, q_13.2.2.2.2.2.2.2.2.2))))) else (Option.bind (f_X6_put d q_6.2.1 q_6.2.2.1 q_6.2.2.2.1 q_6.2.2.2.2.1 q_6.2.2.2.2.2.1 q_6.2.2.2.2.2.2.1 q_6.2.2.2.2.2.2.2.1 q_6.2.2.2.2.2.2.2.2.1 q_6.2.2.2.2.2.2.2.2.2 q_8 p2 (p3 + 1)) (fun q_10 => (Option.bind (f_X9_pair q_10.2.1 q_10.2.2.1 q_10.2.2.2.1 q_10.2.2.2.2.1 q_10.2.2.2.2.2.1 q_10.2.2.2.2.2.2.1 q_10.2.2.2.2.2.2.2.1 q_10.2.2.2.2.2.2.2.2.1 q_10.2.2.2.2.2.2.2.2.2 q_3 q_6.1 q_10.1) (fun q_11 => some (q_11.1, q_11.2.1, q_11.2.2.1, q_11.2.2.2.1, q_11.2.2.2.2.1, q_11.2.2.2.2.2.1, q_11.2.2.2.2.2.2.1, q_11.2.2.2.2.2.2.2.1, q_11.2.2.2.2.2.2.2.2.1, q_11.2.2.2.2.2.2.2.2.2)))))))))))))))) else some (p1, mm, tf0, tf1, tf2, tf3, tf4, tf5, tf6, tf7))))
set_option maxHeartbeats 4000000 in
set_option maxRecDepth 100000 in
theorem k_X6_put (l : Launch) (hfl : l.stackTraces = false) (G : GC) : ∀ (d : Nat) (t1 : Nat) (p1 : Int32) (p2 : Int32) (p3 : Int32) (ta0 : Nat) (ta1 : Nat) (ta2 : Nat) (ta3 : Nat) (ta4 : Nat) (ta5 : Nat) (ta6 : Nat) (ta7 : Nat) (ta8 : Nat) (mm : Int32) (tf0 : Nat → Int32) (tf1 : Nat → Int32) (tf2 : Nat → Int32) (tf3 : Nat → Int32) (tf4 : Nat → Int32) (tf5 : Nat → Int32) (tf6 : Nat → Int32) (tf7 : Nat → Int32) (r9 : Int32) (mm_9 : Int32) (tf0_9 : Nat → Int32) (tf1_9 : Nat → Int32) (tf2_9 : Nat → Int32) (tf3_9 : Nat → Int32) (tf4_9 : Nat → Int32) (tf5_9 : Nat → Int32) (tf6_9 : Nat → Int32) (tf7_9 : Nat → Int32), f_X6_put d mm tf0 tf1 tf2 tf3 tf4 tf5 tf6 tf7 p1 p2 p3 = some (r9, mm_9, tf0_9, tf1_9, tf2_9, tf3_9, tf4_9, tf5_9, tf6_9, tf7_9) → ∀ (sz : Nat), Met l yX6_put (Cond.code yX6_put cX6_put 7 (some .int) :: W0) ({ frames := 203 + d, cells := 0, slots := 0, locals := 5266 + d * 26 }) (va_Pc [.ref t1, .int p1, .int p2, .int p3] (WD G [(t1, .inr (8, [.ref ta0, .ref ta1, .ref ta2, .ref ta3, .ref ta4, .ref ta5, .ref ta6, .ref ta7, .ref ta8, .int mm])), (ta0, .inl (cyA G 0, 32768, .inl (tf0))), (ta1, .inl (cyA G 0, 32768, .inl (tf1))), (ta2, .inl (cyA G 0, 32768, .inl (tf2))), (ta3, .inl (cyA G 0, 32768, .inl (tf3))), (ta4, .inl (cyA G 0, 32768, .inl (tf4))), (ta5, .inl (cyA G 0, 32768, .inl (tf5))), (ta6, .inl (cyA G 0, 32768, .inl (tf6))), (ta7, .inl (cyA G 1, 32768, .inl (tf7)))] sz)) (va_Qi (fun (r : Int32) (_ : Unit) => r = r9) (fun _ t => PW G (va_A [(t1, .inr (8, [.ref ta0, .ref ta1, .ref ta2, .ref ta3, .ref ta4, .ref ta5, .ref ta6, .ref ta7, .ref ta8, .int mm])), (ta0, .inl (cyA G 0, 32768, .inl (tf0))), (ta1, .inl (cyA G 0, 32768, .inl (tf1))), (ta2, .inl (cyA G 0, 32768, .inl (tf2))), (ta3, .inl (cyA G 0, 32768, .inl (tf3))), (ta4, .inl (cyA G 0, 32768, .inl (tf4))), (ta5, .inl (cyA G 0, 32768, .inl (tf5))), (ta6, .inl (cyA G 0, 32768, .inl (tf6))), (ta7, .inl (cyA G 1, 32768, .inl (tf7)))] sz) [(t1, .inr (8, [.ref ta0, .ref ta1, .ref ta2, .ref ta3, .ref ta4, .ref ta5, .ref ta6, .ref ta7, .ref ta8, .int mm_9])), (ta0, .inl (cyA G 0, 32768, .inl (tf0_9))), (ta1, .inl (cyA G 0, 32768, .inl (tf1_9))), (ta2, .inl (cyA G 0, 32768, .inl (tf2_9))), (ta3, .inl (cyA G 0, 32768, .inl (tf3_9))), (ta4, .inl (cyA G 0, 32768, .inl (tf4_9))), (ta5, .inl (cyA G 0, 32768, .inl (tf5_9))), (ta6, .inl (cyA G 0, 32768, .inl (tf6_9))), (ta7, .inl (cyA G 1, 32768, .inl (tf7_9)))] t) (va_A [(t1, .inr (8, [.ref ta0, .ref ta1, .ref ta2, .ref ta3, .ref ta4, .ref ta5, .ref ta6, .ref ta7, .ref ta8, .int mm])), (ta0, .inl (cyA G 0, 32768, .inl (tf0))), (ta1, .inl (cyA G 0, 32768, .inl (tf1))), (ta2, .inl (cyA G 0, 32768, .inl (tf2))), (ta3, .inl (cyA G 0, 32768, .inl (tf3))), (ta4, .inl (cyA G 0, 32768, .inl (tf4))), (ta5, .inl (cyA G 0, 32768, .inl (tf5))), (ta6, .inl (cyA G 0, 32768, .inl (tf6))), (ta7, .inl (cyA G 1, 32768, .inl (tf7)))] sz)) 0 0 (va_A [(t1, .inr (8, [.ref ta0, .ref ta1, .ref ta2, .ref ta3, .ref ta4, .ref ta5, .ref ta6, .ref ta7, .ref ta8, .int mm])), (ta0, .inl (cyA G 0, 32768, .inl (tf0))), (ta1, .inl (cyA G 0, 32768, .inl (tf1))), (ta2, .inl (cyA G 0, 32768, .inl (tf2))), (ta3, .inl (cyA G 0, 32768, .inl (tf3))), (ta4, .inl (cyA G 0, 32768, .inl (tf4))), (ta5, .inl (cyA G 0, 32768, .inl (tf5))), (ta6, .inl (cyA G 0, 32768, .inl (tf6))), (ta7, .inl (cyA G 1, 32768, .inl (tf7)))] sz) := by
  intro d
  induction d with
  | zero =>
    intro t1 p1 p2 p3 ta0 ta1 ta2 ta3 ta4 ta5 ta6 ta7 ta8 mm tf0 tf1 tf2 tf3 tf4 tf5 tf6 tf7 r9 mm_9 tf0_9 tf1_9 tf2_9 tf3_9 tf4_9 tf5_9 tf6_9 tf7_9 hm
    rw [f_X6_put] at hm
    cases hm
  | succ d ihd =>
    intro t1 p1 p2 p3 ta0 ta1 ta2 ta3 ta4 ta5 ta6 ta7 ta8 mm tf0 tf1 tf2 tf3 tf4 tf5 tf6 tf7 r9 mm_9 tf0_9 tf1_9 tf2_9 tf3_9 tf4_9 tf5_9 tf6_9 tf7_9 hm sz
    rw [f_X6_put] at hm
    refine Met.ofW (cc := cX6_put) (maxL := 7) (ret := (some .int)) (by decide) rfl ?_
    intro p e s m args below meth c s₁ B hml hv
    obtain ⟨rfl, hsz, hP, hK, hD0, hE⟩ := hv
    have hx := B.exec
    have hb := B.bytes
    have hr := B.returns
    have hts := w0_tail B.pre
    have hown : s.vm.findClass RX6 = some m.cls := findClass_of_methodNamed B.named
    have hlocks := B.notSynchronized
    subst hsz
    have hD := hD0.self (sz := s.heap.size)
    generalize hAe : va_A [(t1, .inr (8, [.ref ta0, .ref ta1, .ref ta2, .ref ta3, .ref ta4, .ref ta5, .ref ta6, .ref ta7, .ref ta8, .int mm])), (ta0, .inl (cyA G 0, 32768, .inl (tf0))), (ta1, .inl (cyA G 0, 32768, .inl (tf1))), (ta2, .inl (cyA G 0, 32768, .inl (tf2))), (ta3, .inl (cyA G 0, 32768, .inl (tf3))), (ta4, .inl (cyA G 0, 32768, .inl (tf4))), (ta5, .inl (cyA G 0, 32768, .inl (tf5))), (ta6, .inl (cyA G 0, 32768, .inl (tf6))), (ta7, .inl (cyA G 1, 32768, .inl (tf7)))] s.heap.size = A at hD hE ⊢
    have hA : ∀ q : Nat, s.heap.size ≤ q → A q := fun q h => by rw [← hAe]; exact Or.inr h
    have hS : va_S A s.heap s.heap [] := va_S.rf
    obtain ⟨H, hHe⟩ : ∃ H : Heap, H = s.heap := ⟨_, rfl⟩
    have hP : va_P (DG G) clP3 [(t1, .inr (8, [.ref ta0, .ref ta1, .ref ta2, .ref ta3, .ref ta4, .ref ta5, .ref ta6, .ref ta7, .ref ta8, .int mm])), (ta0, .inl (cyA G 0, 32768, .inl (tf0))), (ta1, .inl (cyA G 0, 32768, .inl (tf1))), (ta2, .inl (cyA G 0, 32768, .inl (tf2))), (ta3, .inl (cyA G 0, 32768, .inl (tf3))), (ta4, .inl (cyA G 0, 32768, .inl (tf4))), (ta5, .inl (cyA G 0, 32768, .inl (tf5))), (ta6, .inl (cyA G 0, 32768, .inl (tf6))), (ta7, .inl (cyA G 1, 32768, .inl (tf7)))] H := by rw [hHe]; exact hP
    have hS : va_S A s.heap H [] := by rw [hHe]; exact hS
    have hl := lv_entry ([.ref t1, .int p1, .int p2, .int p3]) (n := 7) (Nat.le_of_ble_eq_true rfl)
    rw [lg_entry_eq, ← hHe]
    generalize (lg_sl ([.ref t1, .int p1, .int p2, .int p3]) ++ List.replicate (7 - (lg_sl ([.ref t1, .int p1, .int p2, .int p3])).length) Slot.unset).toArray = ls at hl ⊢
    have hl : lv_has ls 7 [(0, .ref t1), (1, .int p1), (2, .int p2), (3, .int p3)] := hl
    refine lv_aload_n hx hb dX6_put_0 rfl (lv_at hl 0 rfl) ?_
    refine lv_iload_n hx hb dX6_put_1 rfl (lv_at hl 1 rfl) ?_
    obtain ⟨q_1, hq_1, hm⟩ := bind_some hm
    have hFc := va_free (wc := [(t1, .inr (8, [.ref ta0, .ref ta1, .ref ta2, .ref ta3, .ref ta4, .ref ta5, .ref ta6, .ref ta7, .ref ta8, .int mm])), (ta5, .inl (cyA G 0, 32768, .inl (tf5)))]) hD hS hA [0, 6] rfl
    refine va_calli (va_runV (As := [.int p1]) (rest := []) ⟨hx, hb, hml, hown, hts⟩ (k_X9_freeOf l hfl G t1 p1 ta0 ta1 ta2 ta3 ta4 ta5 ta6 ta7 ta8 mm tf5 q_1 hq_1 H.size) (cwV 1 hts (gV wm451 wm452 wm453 wm2 wm454) rfl rfl rfl (by decide +kernel) ⟨(by show 1 ≤ 203 + (d + 1); omega), (by show 21 ≤ 5266 + (d + 1) * 26; omega)⟩) (pre_v (pre_s hK hP hD hS hE [0, 6] rfl rfl (by decide) hFc) (va_recv hK hP (ci := 8) (q0 := 0) rfl rfl)) rfl rfl hl.1 rfl (lv_room (Nat.le_of_ble_eq_true rfl)) dX6_put_2 ⟨Nat.le_of_ble_eq_true rfl, Nat.le_of_ble_eq_true rfl⟩) hS (fun q _ h => hFc q h) hFc (fun r u t H locs ht hvm hw hB hz1 hk1 hS => ?_)
    rw [show r = q_1 from hw]
    obtain ⟨hP1, hD1⟩ := hB
    rw [ht] at hP1
    obtain ⟨hP, hD⟩ := va_join (wr := [(ta0, .inl (cyA G 0, 32768, .inl (tf0))), (ta1, .inl (cyA G 0, 32768, .inl (tf1))), (ta2, .inl (cyA G 0, 32768, .inl (tf2))), (ta3, .inl (cyA G 0, 32768, .inl (tf3))), (ta4, .inl (cyA G 0, 32768, .inl (tf4))), (ta6, .inl (cyA G 0, 32768, .inl (tf6))), (ta7, .inl (cyA G 1, 32768, .inl (tf7)))]) (w1 := [(t1, .inr (8, [.ref ta0, .ref ta1, .ref ta2, .ref ta3, .ref ta4, .ref ta5, .ref ta6, .ref ta7, .ref ta8, .int mm])), (ta5, .inl (cyA G 0, 32768, .inl (tf5)))]) hP hD [0, 6] [1, 2, 3, 4, 5, 7, 8] rfl rfl (by decide) (by decide) hk1 hFc hP1 hD1
    have hP : va_P (DG G) clP3 [(ta0, .inl (cyA G 0, 32768, .inl (tf0))), (ta1, .inl (cyA G 0, 32768, .inl (tf1))), (ta2, .inl (cyA G 0, 32768, .inl (tf2))), (ta3, .inl (cyA G 0, 32768, .inl (tf3))), (ta4, .inl (cyA G 0, 32768, .inl (tf4))), (ta6, .inl (cyA G 0, 32768, .inl (tf6))), (ta7, .inl (cyA G 1, 32768, .inl (tf7))), (t1, .inr (8, [.ref ta0, .ref ta1, .ref ta2, .ref ta3, .ref ta4, .ref ta5, .ref ta6, .ref ta7, .ref ta8, .int mm])), (ta5, .inl (cyA G 0, 32768, .inl (tf5)))] H := hP
    have hD : va_D A [(ta0, .inl (cyA G 0, 32768, .inl (tf0))), (ta1, .inl (cyA G 0, 32768, .inl (tf1))), (ta2, .inl (cyA G 0, 32768, .inl (tf2))), (ta3, .inl (cyA G 0, 32768, .inl (tf3))), (ta4, .inl (cyA G 0, 32768, .inl (tf4))), (ta6, .inl (cyA G 0, 32768, .inl (tf6))), (ta7, .inl (cyA G 1, 32768, .inl (tf7))), (t1, .inr (8, [.ref ta0, .ref ta1, .ref ta2, .ref ta3, .ref ta4, .ref ta5, .ref ta6, .ref ta7, .ref ta8, .int mm])), (ta5, .inl (cyA G 0, 32768, .inl (tf5)))] := hD
    refine W.widen (k := 0) (n := 0) (Nat.le_of_ble_eq_true rfl) (Nat.le_of_ble_eq_true rfl) ?_
    refine lv_iload_n hx hb dX6_put_5 rfl (lv_at hl 3 rfl) ?_
    refine lv_icmp_gt (tgt := 11) hx hb dX6_put_6 (by decide) (fun c_2 => ?_) (fun c_2 => ?_)
    · rw [if_pos c_2] at hm
      refine lv_aload_n hx hb dX6_put_11 rfl (lv_at hl 0 rfl) ?_
      refine lv_iload_n hx hb dX6_put_12 rfl (lv_at hl 1 rfl) ?_
      obtain ⟨q_3, hq_3, hm⟩ := bind_some hm
      have hFc := va_free (wc := [(t1, .inr (8, [.ref ta0, .ref ta1, .ref ta2, .ref ta3, .ref ta4, .ref ta5, .ref ta6, .ref ta7, .ref ta8, .int mm])), (ta0, .inl (cyA G 0, 32768, .inl (tf0)))]) hD hS hA [7, 0] rfl
      refine va_calli (va_runV (As := [.int p1]) (rest := []) ⟨hx, hb, hml, hown, hts⟩ (k_X9_kindOf l hfl G t1 p1 ta0 ta1 ta2 ta3 ta4 ta5 ta6 ta7 ta8 mm tf0 q_3 hq_3 H.size) (cwV 1 hts (gV wm455 wm435 wm436 wm2 wm437) rfl rfl rfl (by decide +kernel) ⟨(by show 1 ≤ 203 + (d + 1); omega), (by show 21 ≤ 5266 + (d + 1) * 26; omega)⟩) (pre_v (pre_s hK hP hD hS hE [7, 0] rfl rfl (by decide) hFc) (va_recv hK hP (ci := 8) (q0 := 7) rfl rfl)) rfl rfl hl.1 rfl (lv_room (Nat.le_of_ble_eq_true rfl)) dX6_put_13 ⟨Nat.le_of_ble_eq_true rfl, Nat.le_of_ble_eq_true rfl⟩) hS (fun q _ h => hFc q h) hFc (fun r u t H locs ht hvm hw hB hz1 hk1 hS => ?_)
      rw [show r = q_3 from hw]
      obtain ⟨hP1, hD1⟩ := hB
      rw [ht] at hP1
      obtain ⟨hP, hD⟩ := va_join (wr := [(ta1, .inl (cyA G 0, 32768, .inl (tf1))), (ta2, .inl (cyA G 0, 32768, .inl (tf2))), (ta3, .inl (cyA G 0, 32768, .inl (tf3))), (ta4, .inl (cyA G 0, 32768, .inl (tf4))), (ta6, .inl (cyA G 0, 32768, .inl (tf6))), (ta7, .inl (cyA G 1, 32768, .inl (tf7))), (ta5, .inl (cyA G 0, 32768, .inl (tf5)))]) (w1 := [(t1, .inr (8, [.ref ta0, .ref ta1, .ref ta2, .ref ta3, .ref ta4, .ref ta5, .ref ta6, .ref ta7, .ref ta8, .int mm])), (ta0, .inl (cyA G 0, 32768, .inl (tf0)))]) hP hD [7, 0] [1, 2, 3, 4, 5, 6, 8] rfl rfl (by decide) (by decide) hk1 hFc hP1 hD1
      have hP : va_P (DG G) clP3 [(ta1, .inl (cyA G 0, 32768, .inl (tf1))), (ta2, .inl (cyA G 0, 32768, .inl (tf2))), (ta3, .inl (cyA G 0, 32768, .inl (tf3))), (ta4, .inl (cyA G 0, 32768, .inl (tf4))), (ta6, .inl (cyA G 0, 32768, .inl (tf6))), (ta7, .inl (cyA G 1, 32768, .inl (tf7))), (ta5, .inl (cyA G 0, 32768, .inl (tf5))), (t1, .inr (8, [.ref ta0, .ref ta1, .ref ta2, .ref ta3, .ref ta4, .ref ta5, .ref ta6, .ref ta7, .ref ta8, .int mm])), (ta0, .inl (cyA G 0, 32768, .inl (tf0)))] H := hP
      have hD : va_D A [(ta1, .inl (cyA G 0, 32768, .inl (tf1))), (ta2, .inl (cyA G 0, 32768, .inl (tf2))), (ta3, .inl (cyA G 0, 32768, .inl (tf3))), (ta4, .inl (cyA G 0, 32768, .inl (tf4))), (ta6, .inl (cyA G 0, 32768, .inl (tf6))), (ta7, .inl (cyA G 1, 32768, .inl (tf7))), (ta5, .inl (cyA G 0, 32768, .inl (tf5))), (t1, .inr (8, [.ref ta0, .ref ta1, .ref ta2, .ref ta3, .ref ta4, .ref ta5, .ref ta6, .ref ta7, .ref ta8, .int mm])), (ta0, .inl (cyA G 0, 32768, .inl (tf0)))] := hD
      refine W.widen (k := 0) (n := 0) (Nat.le_of_ble_eq_true rfl) (Nat.le_of_ble_eq_true rfl) ?_
      refine lv_istore (lv' := [(4, .int q_3), (0, .ref t1), (1, .int p1), (2, .int p2), (3, .int p3)]) hx hb dX6_put_16 hl (by decide) rfl (fun ls hl => ?_)
      refine lv_iload hx hb dX6_put_18 (lv_at hl 0 rfl) ?_
      refine lv_iconst (v := 1) hx hb dX6_put_20 (by decide) ?_
      refine lv_icmp_ne (tgt := 57) hx hb dX6_put_21 (by decide) (fun c_4 => ?_) (fun c_4 => ?_)
      · rw [if_neg c_4] at hm
        refine lv_aload_n hx hb dX6_put_57 rfl (lv_at hl 1 rfl) ?_
        refine lv_aload_n hx hb dX6_put_58 rfl (lv_at hl 1 rfl) ?_
        refine lv_iload_n hx hb dX6_put_59 rfl (lv_at hl 2 rfl) ?_
        obtain ⟨q_5, hq_5, hm⟩ := bind_some hm
        have hFc := va_free (wc := [(t1, .inr (8, [.ref ta0, .ref ta1, .ref ta2, .ref ta3, .ref ta4, .ref ta5, .ref ta6, .ref ta7, .ref ta8, .int mm])), (ta1, .inl (cyA G 0, 32768, .inl (tf1)))]) hD hS hA [7, 0] rfl
        refine va_calli (va_runV (As := [.int p1]) (rest := [.ref t1]) ⟨hx, hb, hml, hown, hts⟩ (k_X9_firstOf l hfl G t1 p1 ta0 ta1 ta2 ta3 ta4 ta5 ta6 ta7 ta8 mm tf1 q_5 hq_5 H.size) (cwV 1 hts (gV wm456 wm431 wm432 wm2 wm433) rfl rfl rfl (by decide +kernel) ⟨(by show 1 ≤ 203 + (d + 1); omega), (by show 21 ≤ 5266 + (d + 1) * 26; omega)⟩) (pre_v (pre_s hK hP hD hS hE [7, 0] rfl rfl (by decide) hFc) (va_recv hK hP (ci := 8) (q0 := 7) rfl rfl)) rfl rfl hl.1 rfl (lv_room (Nat.le_of_ble_eq_true rfl)) dX6_put_60 ⟨Nat.le_of_ble_eq_true rfl, Nat.le_of_ble_eq_true rfl⟩) hS (fun q _ h => hFc q h) hFc (fun r u t H locs ht hvm hw hB hz1 hk1 hS => ?_)
        rw [show r = q_5 from hw]
        obtain ⟨hP1, hD1⟩ := hB
        rw [ht] at hP1
        obtain ⟨hP, hD⟩ := va_join (wr := [(ta2, .inl (cyA G 0, 32768, .inl (tf2))), (ta3, .inl (cyA G 0, 32768, .inl (tf3))), (ta4, .inl (cyA G 0, 32768, .inl (tf4))), (ta6, .inl (cyA G 0, 32768, .inl (tf6))), (ta7, .inl (cyA G 1, 32768, .inl (tf7))), (ta5, .inl (cyA G 0, 32768, .inl (tf5))), (ta0, .inl (cyA G 0, 32768, .inl (tf0)))]) (w1 := [(t1, .inr (8, [.ref ta0, .ref ta1, .ref ta2, .ref ta3, .ref ta4, .ref ta5, .ref ta6, .ref ta7, .ref ta8, .int mm])), (ta1, .inl (cyA G 0, 32768, .inl (tf1)))]) hP hD [7, 0] [1, 2, 3, 4, 5, 6, 8] rfl rfl (by decide) (by decide) hk1 hFc hP1 hD1
        have hP : va_P (DG G) clP3 [(ta2, .inl (cyA G 0, 32768, .inl (tf2))), (ta3, .inl (cyA G 0, 32768, .inl (tf3))), (ta4, .inl (cyA G 0, 32768, .inl (tf4))), (ta6, .inl (cyA G 0, 32768, .inl (tf6))), (ta7, .inl (cyA G 1, 32768, .inl (tf7))), (ta5, .inl (cyA G 0, 32768, .inl (tf5))), (ta0, .inl (cyA G 0, 32768, .inl (tf0))), (t1, .inr (8, [.ref ta0, .ref ta1, .ref ta2, .ref ta3, .ref ta4, .ref ta5, .ref ta6, .ref ta7, .ref ta8, .int mm])), (ta1, .inl (cyA G 0, 32768, .inl (tf1)))] H := hP
        have hD : va_D A [(ta2, .inl (cyA G 0, 32768, .inl (tf2))), (ta3, .inl (cyA G 0, 32768, .inl (tf3))), (ta4, .inl (cyA G 0, 32768, .inl (tf4))), (ta6, .inl (cyA G 0, 32768, .inl (tf6))), (ta7, .inl (cyA G 1, 32768, .inl (tf7))), (ta5, .inl (cyA G 0, 32768, .inl (tf5))), (ta0, .inl (cyA G 0, 32768, .inl (tf0))), (t1, .inr (8, [.ref ta0, .ref ta1, .ref ta2, .ref ta3, .ref ta4, .ref ta5, .ref ta6, .ref ta7, .ref ta8, .int mm])), (ta1, .inl (cyA G 0, 32768, .inl (tf1)))] := hD
        refine W.widen (k := 0) (n := 0) (Nat.le_of_ble_eq_true rfl) (Nat.le_of_ble_eq_true rfl) ?_
        refine lv_iload_n hx hb dX6_put_63 rfl (lv_at hl 3 rfl) ?_
        refine lv_iload_n hx hb dX6_put_64 rfl (lv_at hl 4 rfl) ?_
        obtain ⟨q_6, hq_6, hm⟩ := bind_some hm
        have hFc := va_free (wc := [(t1, .inr (8, [.ref ta0, .ref ta1, .ref ta2, .ref ta3, .ref ta4, .ref ta5, .ref ta6, .ref ta7, .ref ta8, .int mm])), (ta0, .inl (cyA G 0, 32768, .inl (tf0))), (ta1, .inl (cyA G 0, 32768, .inl (tf1))), (ta2, .inl (cyA G 0, 32768, .inl (tf2))), (ta3, .inl (cyA G 0, 32768, .inl (tf3))), (ta4, .inl (cyA G 0, 32768, .inl (tf4))), (ta5, .inl (cyA G 0, 32768, .inl (tf5))), (ta6, .inl (cyA G 0, 32768, .inl (tf6))), (ta7, .inl (cyA G 1, 32768, .inl (tf7)))]) hD hS hA [7, 6, 8, 0, 1, 2, 5, 3, 4] rfl
        refine va_calli (va_runS (As := [.ref t1, .int q_5, .int p2, .int p3]) (rest := []) ⟨hx, hb, hml, hown, hts⟩ (ihd t1 q_5 p2 p3 ta0 ta1 ta2 ta3 ta4 ta5 ta6 ta7 ta8 mm tf0 tf1 tf2 tf3 tf4 tf5 tf6 tf7 q_6.1 q_6.2.1 q_6.2.2.1 q_6.2.2.2.1 q_6.2.2.2.2.1 q_6.2.2.2.2.2.1 q_6.2.2.2.2.2.2.1 q_6.2.2.2.2.2.2.2.1 q_6.2.2.2.2.2.2.2.2.1 q_6.2.2.2.2.2.2.2.2.2 hq_6 H.size) (cwS 4 hts (gS wm534 wm532 wm20 wm533) rfl rfl rfl (by decide +kernel) ⟨(by show 203 + d + 1 ≤ 203 + (d + 1); omega), (by show 8 + (7 + 11) + (5266 + d * 26) ≤ 5266 + (d + 1) * 26; omega)⟩) (pre_s hK hP hD hS hE [7, 6, 8, 0, 1, 2, 5, 3, 4] rfl rfl (by decide) hFc) rfl rfl hl.1 rfl (lv_room (Nat.le_of_ble_eq_true rfl)) dX6_put_65 ⟨Nat.le_of_ble_eq_true rfl, Nat.le_of_ble_eq_true rfl⟩) hS (fun q _ h => hFc q h) hFc (fun r u t H locs ht hvm hw hB hz1 hk1 hS => ?_)
        rw [show r = q_6.1 from hw]
        obtain ⟨hP1, hD1⟩ := hB
        rw [ht] at hP1
        obtain ⟨hP, hD⟩ := va_join (wr := []) (w1 := [(t1, .inr (8, [.ref ta0, .ref ta1, .ref ta2, .ref ta3, .ref ta4, .ref ta5, .ref ta6, .ref ta7, .ref ta8, .int q_6.2.1])), (ta0, .inl (cyA G 0, 32768, .inl (q_6.2.2.1))), (ta1, .inl (cyA G 0, 32768, .inl (q_6.2.2.2.1))), (ta2, .inl (cyA G 0, 32768, .inl (q_6.2.2.2.2.1))), (ta3, .inl (cyA G 0, 32768, .inl (q_6.2.2.2.2.2.1))), (ta4, .inl (cyA G 0, 32768, .inl (q_6.2.2.2.2.2.2.1))), (ta5, .inl (cyA G 0, 32768, .inl (q_6.2.2.2.2.2.2.2.1))), (ta6, .inl (cyA G 0, 32768, .inl (q_6.2.2.2.2.2.2.2.2.1))), (ta7, .inl (cyA G 1, 32768, .inl (q_6.2.2.2.2.2.2.2.2.2)))]) hP hD [7, 6, 8, 0, 1, 2, 5, 3, 4] [] rfl rfl (by decide) (by decide) hk1 hFc hP1 hD1
        have hP : va_P (DG G) clP3 [(t1, .inr (8, [.ref ta0, .ref ta1, .ref ta2, .ref ta3, .ref ta4, .ref ta5, .ref ta6, .ref ta7, .ref ta8, .int q_6.2.1])), (ta0, .inl (cyA G 0, 32768, .inl (q_6.2.2.1))), (ta1, .inl (cyA G 0, 32768, .inl (q_6.2.2.2.1))), (ta2, .inl (cyA G 0, 32768, .inl (q_6.2.2.2.2.1))), (ta3, .inl (cyA G 0, 32768, .inl (q_6.2.2.2.2.2.1))), (ta4, .inl (cyA G 0, 32768, .inl (q_6.2.2.2.2.2.2.1))), (ta5, .inl (cyA G 0, 32768, .inl (q_6.2.2.2.2.2.2.2.1))), (ta6, .inl (cyA G 0, 32768, .inl (q_6.2.2.2.2.2.2.2.2.1))), (ta7, .inl (cyA G 1, 32768, .inl (q_6.2.2.2.2.2.2.2.2.2)))] H := hP
        have hD : va_D A [(t1, .inr (8, [.ref ta0, .ref ta1, .ref ta2, .ref ta3, .ref ta4, .ref ta5, .ref ta6, .ref ta7, .ref ta8, .int q_6.2.1])), (ta0, .inl (cyA G 0, 32768, .inl (q_6.2.2.1))), (ta1, .inl (cyA G 0, 32768, .inl (q_6.2.2.2.1))), (ta2, .inl (cyA G 0, 32768, .inl (q_6.2.2.2.2.1))), (ta3, .inl (cyA G 0, 32768, .inl (q_6.2.2.2.2.2.1))), (ta4, .inl (cyA G 0, 32768, .inl (q_6.2.2.2.2.2.2.1))), (ta5, .inl (cyA G 0, 32768, .inl (q_6.2.2.2.2.2.2.2.1))), (ta6, .inl (cyA G 0, 32768, .inl (q_6.2.2.2.2.2.2.2.2.1))), (ta7, .inl (cyA G 1, 32768, .inl (q_6.2.2.2.2.2.2.2.2.2)))] := hD
        refine W.widen (k := 0) (n := 0) (Nat.le_of_ble_eq_true rfl) (Nat.le_of_ble_eq_true rfl) ?_
        refine lv_istore (lv' := [(5, .int q_6.1), (4, .int q_3), (0, .ref t1), (1, .int p1), (2, .int p2), (3, .int p3)]) hx hb dX6_put_68 hl (by decide) rfl (fun ls hl => ?_)
        refine lv_iload hx hb dX6_put_70 (lv_at hl 0 rfl) ?_
        refine lv_iconst (v := (-1)) hx hb dX6_put_72 (by decide) ?_
        refine lv_icmp_ne (tgt := 78) hx hb dX6_put_73 (by decide) (fun c_7 => ?_) (fun c_7 => ?_)
        · rw [if_neg c_7] at hm
          refine lv_aload_n hx hb dX6_put_78 rfl (lv_at hl 2 rfl) ?_
          refine lv_aload_n hx hb dX6_put_79 rfl (lv_at hl 2 rfl) ?_
          refine lv_iload_n hx hb dX6_put_80 rfl (lv_at hl 3 rfl) ?_
          obtain ⟨q_8, hq_8, hm⟩ := bind_some hm
          have hFc := va_free (wc := [(t1, .inr (8, [.ref ta0, .ref ta1, .ref ta2, .ref ta3, .ref ta4, .ref ta5, .ref ta6, .ref ta7, .ref ta8, .int q_6.2.1])), (ta2, .inl (cyA G 0, 32768, .inl (q_6.2.2.2.2.1)))]) hD hS hA [0, 3] rfl
          refine va_calli (va_runV (As := [.int p1]) (rest := [.ref t1]) ⟨hx, hb, hml, hown, hts⟩ (k_X9_secondOf l hfl G t1 p1 ta0 ta1 ta2 ta3 ta4 ta5 ta6 ta7 ta8 q_6.2.1 q_6.2.2.2.2.1 q_8 hq_8 H.size) (cwV 1 hts (gV wm459 wm460 wm461 wm2 wm462) rfl rfl rfl (by decide +kernel) ⟨(by show 1 ≤ 203 + (d + 1); omega), (by show 21 ≤ 5266 + (d + 1) * 26; omega)⟩) (pre_v (pre_s hK hP hD hS hE [0, 3] rfl rfl (by decide) hFc) (va_recv hK hP (ci := 8) (q0 := 0) rfl rfl)) rfl rfl hl.1 rfl (lv_room (Nat.le_of_ble_eq_true rfl)) dX6_put_81 ⟨Nat.le_of_ble_eq_true rfl, Nat.le_of_ble_eq_true rfl⟩) hS (fun q _ h => hFc q h) hFc (fun r u t H locs ht hvm hw hB hz1 hk1 hS => ?_)
          rw [show r = q_8 from hw]
          obtain ⟨hP1, hD1⟩ := hB
          rw [ht] at hP1
          obtain ⟨hP, hD⟩ := va_join (wr := [(ta0, .inl (cyA G 0, 32768, .inl (q_6.2.2.1))), (ta1, .inl (cyA G 0, 32768, .inl (q_6.2.2.2.1))), (ta3, .inl (cyA G 0, 32768, .inl (q_6.2.2.2.2.2.1))), (ta4, .inl (cyA G 0, 32768, .inl (q_6.2.2.2.2.2.2.1))), (ta5, .inl (cyA G 0, 32768, .inl (q_6.2.2.2.2.2.2.2.1))), (ta6, .inl (cyA G 0, 32768, .inl (q_6.2.2.2.2.2.2.2.2.1))), (ta7, .inl (cyA G 1, 32768, .inl (q_6.2.2.2.2.2.2.2.2.2)))]) (w1 := [(t1, .inr (8, [.ref ta0, .ref ta1, .ref ta2, .ref ta3, .ref ta4, .ref ta5, .ref ta6, .ref ta7, .ref ta8, .int q_6.2.1])), (ta2, .inl (cyA G 0, 32768, .inl (q_6.2.2.2.2.1)))]) hP hD [0, 3] [1, 2, 4, 5, 6, 7, 8] rfl rfl (by decide) (by decide) hk1 hFc hP1 hD1
          have hP : va_P (DG G) clP3 [(ta0, .inl (cyA G 0, 32768, .inl (q_6.2.2.1))), (ta1, .inl (cyA G 0, 32768, .inl (q_6.2.2.2.1))), (ta3, .inl (cyA G 0, 32768, .inl (q_6.2.2.2.2.2.1))), (ta4, .inl (cyA G 0, 32768, .inl (q_6.2.2.2.2.2.2.1))), (ta5, .inl (cyA G 0, 32768, .inl (q_6.2.2.2.2.2.2.2.1))), (ta6, .inl (cyA G 0, 32768, .inl (q_6.2.2.2.2.2.2.2.2.1))), (ta7, .inl (cyA G 1, 32768, .inl (q_6.2.2.2.2.2.2.2.2.2))), (t1, .inr (8, [.ref ta0, .ref ta1, .ref ta2, .ref ta3, .ref ta4, .ref ta5, .ref ta6, .ref ta7, .ref ta8, .int q_6.2.1])), (ta2, .inl (cyA G 0, 32768, .inl (q_6.2.2.2.2.1)))] H := hP
          have hD : va_D A [(ta0, .inl (cyA G 0, 32768, .inl (q_6.2.2.1))), (ta1, .inl (cyA G 0, 32768, .inl (q_6.2.2.2.1))), (ta3, .inl (cyA G 0, 32768, .inl (q_6.2.2.2.2.2.1))), (ta4, .inl (cyA G 0, 32768, .inl (q_6.2.2.2.2.2.2.1))), (ta5, .inl (cyA G 0, 32768, .inl (q_6.2.2.2.2.2.2.2.1))), (ta6, .inl (cyA G 0, 32768, .inl (q_6.2.2.2.2.2.2.2.2.1))), (ta7, .inl (cyA G 1, 32768, .inl (q_6.2.2.2.2.2.2.2.2.2))), (t1, .inr (8, [.ref ta0, .ref ta1, .ref ta2, .ref ta3, .ref ta4, .ref ta5, .ref ta6, .ref ta7, .ref ta8, .int q_6.2.1])), (ta2, .inl (cyA G 0, 32768, .inl (q_6.2.2.2.2.1)))] := hD
          refine W.widen (k := 0) (n := 0) (Nat.le_of_ble_eq_true rfl) (Nat.le_of_ble_eq_true rfl) ?_
          refine lv_iload_n hx hb dX6_put_84 rfl (lv_at hl 4 rfl) ?_
          refine lv_iload hx hb dX6_put_85 (lv_at hl 1 rfl) ?_
          refine lv_bipush (v := 7) hx hb dX6_put_87 (by decide) ?_
          refine lv_icmp_ne (tgt := 96) hx hb dX6_put_89 (by decide) (fun c_9 => ?_) (fun c_9 => ?_)
          · rw [if_neg c_9] at hm
            refine lv_iload_n hx hb dX6_put_96 rfl (lv_at hl 5 rfl) ?_
            refine lv_iconst (v := 1) hx hb dX6_put_97 (by decide) ?_
            refine lv_iadd hx hb dX6_put_98 ?_
            obtain ⟨q_10, hq_10, hm⟩ := bind_some hm
            have hFc := va_free (wc := [(t1, .inr (8, [.ref ta0, .ref ta1, .ref ta2, .ref ta3, .ref ta4, .ref ta5, .ref ta6, .ref ta7, .ref ta8, .int q_6.2.1])), (ta0, .inl (cyA G 0, 32768, .inl (q_6.2.2.1))), (ta1, .inl (cyA G 0, 32768, .inl (q_6.2.2.2.1))), (ta2, .inl (cyA G 0, 32768, .inl (q_6.2.2.2.2.1))), (ta3, .inl (cyA G 0, 32768, .inl (q_6.2.2.2.2.2.1))), (ta4, .inl (cyA G 0, 32768, .inl (q_6.2.2.2.2.2.2.1))), (ta5, .inl (cyA G 0, 32768, .inl (q_6.2.2.2.2.2.2.2.1))), (ta6, .inl (cyA G 0, 32768, .inl (q_6.2.2.2.2.2.2.2.2.1))), (ta7, .inl (cyA G 1, 32768, .inl (q_6.2.2.2.2.2.2.2.2.2)))]) hD hS hA [7, 0, 1, 8, 2, 3, 4, 5, 6] rfl
            refine va_calli (va_runS (As := [.ref t1, .int q_8, .int p2, .int (p3 + 1)]) (rest := []) ⟨hx, hb, hml, hown, hts⟩ (ihd t1 q_8 p2 (p3 + 1) ta0 ta1 ta2 ta3 ta4 ta5 ta6 ta7 ta8 q_6.2.1 q_6.2.2.1 q_6.2.2.2.1 q_6.2.2.2.2.1 q_6.2.2.2.2.2.1 q_6.2.2.2.2.2.2.1 q_6.2.2.2.2.2.2.2.1 q_6.2.2.2.2.2.2.2.2.1 q_6.2.2.2.2.2.2.2.2.2 q_10.1 q_10.2.1 q_10.2.2.1 q_10.2.2.2.1 q_10.2.2.2.2.1 q_10.2.2.2.2.2.1 q_10.2.2.2.2.2.2.1 q_10.2.2.2.2.2.2.2.1 q_10.2.2.2.2.2.2.2.2.1 q_10.2.2.2.2.2.2.2.2.2 hq_10 H.size) (cwS 4 hts (gS wm534 wm532 wm20 wm533) rfl rfl rfl (by decide +kernel) ⟨(by show 203 + d + 1 ≤ 203 + (d + 1); omega), (by show 8 + (7 + 11) + (5266 + d * 26) ≤ 5266 + (d + 1) * 26; omega)⟩) (pre_s hK hP hD hS hE [7, 0, 1, 8, 2, 3, 4, 5, 6] rfl rfl (by decide) hFc) rfl rfl hl.1 rfl (lv_room (Nat.le_of_ble_eq_true rfl)) dX6_put_99 ⟨Nat.le_of_ble_eq_true rfl, Nat.le_of_ble_eq_true rfl⟩) hS (fun q _ h => hFc q h) hFc (fun r u t H locs ht hvm hw hB hz1 hk1 hS => ?_)
            rw [show r = q_10.1 from hw]
            obtain ⟨hP1, hD1⟩ := hB
            rw [ht] at hP1
            obtain ⟨hP, hD⟩ := va_join (wr := []) (w1 := [(t1, .inr (8, [.ref ta0, .ref ta1, .ref ta2, .ref ta3, .ref ta4, .ref ta5, .ref ta6, .ref ta7, .ref ta8, .int q_10.2.1])), (ta0, .inl (cyA G 0, 32768, .inl (q_10.2.2.1))), (ta1, .inl (cyA G 0, 32768, .inl (q_10.2.2.2.1))), (ta2, .inl (cyA G 0, 32768, .inl (q_10.2.2.2.2.1))), (ta3, .inl (cyA G 0, 32768, .inl (q_10.2.2.2.2.2.1))), (ta4, .inl (cyA G 0, 32768, .inl (q_10.2.2.2.2.2.2.1))), (ta5, .inl (cyA G 0, 32768, .inl (q_10.2.2.2.2.2.2.2.1))), (ta6, .inl (cyA G 0, 32768, .inl (q_10.2.2.2.2.2.2.2.2.1))), (ta7, .inl (cyA G 1, 32768, .inl (q_10.2.2.2.2.2.2.2.2.2)))]) hP hD [7, 0, 1, 8, 2, 3, 4, 5, 6] [] rfl rfl (by decide) (by decide) hk1 hFc hP1 hD1
            have hP : va_P (DG G) clP3 [(t1, .inr (8, [.ref ta0, .ref ta1, .ref ta2, .ref ta3, .ref ta4, .ref ta5, .ref ta6, .ref ta7, .ref ta8, .int q_10.2.1])), (ta0, .inl (cyA G 0, 32768, .inl (q_10.2.2.1))), (ta1, .inl (cyA G 0, 32768, .inl (q_10.2.2.2.1))), (ta2, .inl (cyA G 0, 32768, .inl (q_10.2.2.2.2.1))), (ta3, .inl (cyA G 0, 32768, .inl (q_10.2.2.2.2.2.1))), (ta4, .inl (cyA G 0, 32768, .inl (q_10.2.2.2.2.2.2.1))), (ta5, .inl (cyA G 0, 32768, .inl (q_10.2.2.2.2.2.2.2.1))), (ta6, .inl (cyA G 0, 32768, .inl (q_10.2.2.2.2.2.2.2.2.1))), (ta7, .inl (cyA G 1, 32768, .inl (q_10.2.2.2.2.2.2.2.2.2)))] H := hP
            have hD : va_D A [(t1, .inr (8, [.ref ta0, .ref ta1, .ref ta2, .ref ta3, .ref ta4, .ref ta5, .ref ta6, .ref ta7, .ref ta8, .int q_10.2.1])), (ta0, .inl (cyA G 0, 32768, .inl (q_10.2.2.1))), (ta1, .inl (cyA G 0, 32768, .inl (q_10.2.2.2.1))), (ta2, .inl (cyA G 0, 32768, .inl (q_10.2.2.2.2.1))), (ta3, .inl (cyA G 0, 32768, .inl (q_10.2.2.2.2.2.1))), (ta4, .inl (cyA G 0, 32768, .inl (q_10.2.2.2.2.2.2.1))), (ta5, .inl (cyA G 0, 32768, .inl (q_10.2.2.2.2.2.2.2.1))), (ta6, .inl (cyA G 0, 32768, .inl (q_10.2.2.2.2.2.2.2.2.1))), (ta7, .inl (cyA G 1, 32768, .inl (q_10.2.2.2.2.2.2.2.2.2)))] := hD
            refine W.widen (k := 0) (n := 0) (Nat.le_of_ble_eq_true rfl) (Nat.le_of_ble_eq_true rfl) ?_
            refine lv_istore (lv' := [(6, .int q_10.1), (5, .int q_6.1), (4, .int q_3), (0, .ref t1), (1, .int p1), (2, .int p2), (3, .int p3)]) hx hb dX6_put_102 hl (by decide) rfl (fun ls hl => ?_)
            refine lv_aload_n hx hb dX6_put_104 rfl (lv_at hl 3 rfl) ?_
            refine lv_iload hx hb dX6_put_105 (lv_at hl 2 rfl) ?_
            refine lv_iload hx hb dX6_put_107 (lv_at hl 1 rfl) ?_
            refine lv_iload hx hb dX6_put_109 (lv_at hl 0 rfl) ?_
            obtain ⟨q_11, hq_11, hm⟩ := bind_some hm
            have hFc := va_free (wc := [(t1, .inr (8, [.ref ta0, .ref ta1, .ref ta2, .ref ta3, .ref ta4, .ref ta5, .ref ta6, .ref ta7, .ref ta8, .int q_10.2.1])), (ta0, .inl (cyA G 0, 32768, .inl (q_10.2.2.1))), (ta1, .inl (cyA G 0, 32768, .inl (q_10.2.2.2.1))), (ta2, .inl (cyA G 0, 32768, .inl (q_10.2.2.2.2.1))), (ta3, .inl (cyA G 0, 32768, .inl (q_10.2.2.2.2.2.1))), (ta4, .inl (cyA G 0, 32768, .inl (q_10.2.2.2.2.2.2.1))), (ta5, .inl (cyA G 0, 32768, .inl (q_10.2.2.2.2.2.2.2.1))), (ta6, .inl (cyA G 0, 32768, .inl (q_10.2.2.2.2.2.2.2.2.1))), (ta7, .inl (cyA G 1, 32768, .inl (q_10.2.2.2.2.2.2.2.2.2)))]) hD hS hA [0, 1, 2, 3, 4, 5, 6, 7, 8] rfl
            refine va_calli (va_runV (As := [.int q_3, .int q_6.1, .int q_10.1]) (rest := []) ⟨hx, hb, hml, hown, hts⟩ (k_X9_pair l hfl G t1 q_3 q_6.1 q_10.1 ta0 ta1 ta2 ta3 ta4 ta5 ta6 ta7 ta8 q_10.2.1 q_10.2.2.1 q_10.2.2.2.1 q_10.2.2.2.2.1 q_10.2.2.2.2.2.1 q_10.2.2.2.2.2.2.1 q_10.2.2.2.2.2.2.2.1 q_10.2.2.2.2.2.2.2.2.1 q_10.2.2.2.2.2.2.2.2.2 q_11.1 q_11.2.1 q_11.2.2.1 q_11.2.2.2.1 q_11.2.2.2.2.1 q_11.2.2.2.2.2.1 q_11.2.2.2.2.2.2.1 q_11.2.2.2.2.2.2.2.1 q_11.2.2.2.2.2.2.2.2.1 q_11.2.2.2.2.2.2.2.2.2 hq_11 H.size) (cwV 3 hts (gV wm463 wm464 wm465 wm2 wm466) rfl rfl rfl (by decide +kernel) ⟨(by show 2 ≤ 203 + (d + 1); omega), (by show 40 ≤ 5266 + (d + 1) * 26; omega)⟩) (pre_v (pre_s hK hP hD hS hE [0, 1, 2, 3, 4, 5, 6, 7, 8] rfl rfl (by decide) hFc) (va_recv hK hP (ci := 8) (q0 := 0) rfl rfl)) rfl rfl hl.1 rfl (lv_room (Nat.le_of_ble_eq_true rfl)) dX6_put_111 ⟨Nat.le_of_ble_eq_true rfl, Nat.le_of_ble_eq_true rfl⟩) hS (fun q _ h => hFc q h) hFc (fun r u t H locs ht hvm hw hB hz1 hk1 hS => ?_)
            rw [show r = q_11.1 from hw]
            obtain ⟨hP1, hD1⟩ := hB
            rw [ht] at hP1
            obtain ⟨hP, hD⟩ := va_join (wr := []) (w1 := [(t1, .inr (8, [.ref ta0, .ref ta1, .ref ta2, .ref ta3, .ref ta4, .ref ta5, .ref ta6, .ref ta7, .ref ta8, .int q_11.2.1])), (ta0, .inl (cyA G 0, 32768, .inl (q_11.2.2.1))), (ta1, .inl (cyA G 0, 32768, .inl (q_11.2.2.2.1))), (ta2, .inl (cyA G 0, 32768, .inl (q_11.2.2.2.2.1))), (ta3, .inl (cyA G 0, 32768, .inl (q_11.2.2.2.2.2.1))), (ta4, .inl (cyA G 0, 32768, .inl (q_11.2.2.2.2.2.2.1))), (ta5, .inl (cyA G 0, 32768, .inl (q_11.2.2.2.2.2.2.2.1))), (ta6, .inl (cyA G 0, 32768, .inl (q_11.2.2.2.2.2.2.2.2.1))), (ta7, .inl (cyA G 1, 32768, .inl (q_11.2.2.2.2.2.2.2.2.2)))]) hP hD [0, 1, 2, 3, 4, 5, 6, 7, 8] [] rfl rfl (by decide) (by decide) hk1 hFc hP1 hD1
            have hP : va_P (DG G) clP3 [(t1, .inr (8, [.ref ta0, .ref ta1, .ref ta2, .ref ta3, .ref ta4, .ref ta5, .ref ta6, .ref ta7, .ref ta8, .int q_11.2.1])), (ta0, .inl (cyA G 0, 32768, .inl (q_11.2.2.1))), (ta1, .inl (cyA G 0, 32768, .inl (q_11.2.2.2.1))), (ta2, .inl (cyA G 0, 32768, .inl (q_11.2.2.2.2.1))), (ta3, .inl (cyA G 0, 32768, .inl (q_11.2.2.2.2.2.1))), (ta4, .inl (cyA G 0, 32768, .inl (q_11.2.2.2.2.2.2.1))), (ta5, .inl (cyA G 0, 32768, .inl (q_11.2.2.2.2.2.2.2.1))), (ta6, .inl (cyA G 0, 32768, .inl (q_11.2.2.2.2.2.2.2.2.1))), (ta7, .inl (cyA G 1, 32768, .inl (q_11.2.2.2.2.2.2.2.2.2)))] H := hP
            have hD : va_D A [(t1, .inr (8, [.ref ta0, .ref ta1, .ref ta2, .ref ta3, .ref ta4, .ref ta5, .ref ta6, .ref ta7, .ref ta8, .int q_11.2.1])), (ta0, .inl (cyA G 0, 32768, .inl (q_11.2.2.1))), (ta1, .inl (cyA G 0, 32768, .inl (q_11.2.2.2.1))), (ta2, .inl (cyA G 0, 32768, .inl (q_11.2.2.2.2.1))), (ta3, .inl (cyA G 0, 32768, .inl (q_11.2.2.2.2.2.1))), (ta4, .inl (cyA G 0, 32768, .inl (q_11.2.2.2.2.2.2.1))), (ta5, .inl (cyA G 0, 32768, .inl (q_11.2.2.2.2.2.2.2.1))), (ta6, .inl (cyA G 0, 32768, .inl (q_11.2.2.2.2.2.2.2.2.1))), (ta7, .inl (cyA G 1, 32768, .inl (q_11.2.2.2.2.2.2.2.2.2)))] := hD
            refine W.widen (k := 0) (n := 0) (Nat.le_of_ble_eq_true rfl) (Nat.le_of_ble_eq_true rfl) ?_
            simp only [Option.some.injEq, Prod.mk.injEq] at hm
            obtain ⟨rfl, rfl, rfl, rfl, rfl, rfl, rfl, rfl, rfl, rfl⟩ := hm
            have hP9 := hP.sub (ws' := [(t1, .inr (8, [.ref ta0, .ref ta1, .ref ta2, .ref ta3, .ref ta4, .ref ta5, .ref ta6, .ref ta7, .ref ta8, .int q_11.2.1])), (ta0, .inl (cyA G 0, 32768, .inl (q_11.2.2.1))), (ta1, .inl (cyA G 0, 32768, .inl (q_11.2.2.2.1))), (ta2, .inl (cyA G 0, 32768, .inl (q_11.2.2.2.2.1))), (ta3, .inl (cyA G 0, 32768, .inl (q_11.2.2.2.2.2.1))), (ta4, .inl (cyA G 0, 32768, .inl (q_11.2.2.2.2.2.2.1))), (ta5, .inl (cyA G 0, 32768, .inl (q_11.2.2.2.2.2.2.2.1))), (ta6, .inl (cyA G 0, 32768, .inl (q_11.2.2.2.2.2.2.2.2.1))), (ta7, .inl (cyA G 1, 32768, .inl (q_11.2.2.2.2.2.2.2.2.2)))]) [0, 1, 2, 3, 4, 5, 6, 7, 8] rfl
            have hD9 := hD.sub (ws' := [(t1, .inr (8, [.ref ta0, .ref ta1, .ref ta2, .ref ta3, .ref ta4, .ref ta5, .ref ta6, .ref ta7, .ref ta8, .int q_11.2.1])), (ta0, .inl (cyA G 0, 32768, .inl (q_11.2.2.1))), (ta1, .inl (cyA G 0, 32768, .inl (q_11.2.2.2.1))), (ta2, .inl (cyA G 0, 32768, .inl (q_11.2.2.2.2.1))), (ta3, .inl (cyA G 0, 32768, .inl (q_11.2.2.2.2.2.1))), (ta4, .inl (cyA G 0, 32768, .inl (q_11.2.2.2.2.2.2.1))), (ta5, .inl (cyA G 0, 32768, .inl (q_11.2.2.2.2.2.2.2.1))), (ta6, .inl (cyA G 0, 32768, .inl (q_11.2.2.2.2.2.2.2.2.1))), (ta7, .inl (cyA G 1, 32768, .inl (q_11.2.2.2.2.2.2.2.2.2)))]) [0, 1, 2, 3, 4, 5, 6, 7, 8] (by decide) rfl
            refine W.widen (k := 0) (n := 0) (Nat.le_of_ble_eq_true rfl) (Nat.le_of_ble_eq_true rfl) ?_
            exact W.iret (v := q_11.1) hx hb hr (fun t ht hW => ⟨⟨q_11.1, (), rfl, rfl, ⟨by rw [ht]; exact hP9, hD9⟩⟩, hS.F ht⟩) hS.2.2 dX6_put_114 hlocks
          · rw [if_pos c_9] at hm
            refine lv_iload_n hx hb dX6_put_92 rfl (lv_at hl 5 rfl) ?_
            refine lv_goto (tgt := 99) hx hb dX6_put_93 (by decide) ?_
            obtain ⟨q_12, hq_12, hm⟩ := bind_some hm
            have hFc := va_free (wc := [(t1, .inr (8, [.ref ta0, .ref ta1, .ref ta2, .ref ta3, .ref ta4, .ref ta5, .ref ta6, .ref ta7, .ref ta8, .int q_6.2.1])), (ta0, .inl (cyA G 0, 32768, .inl (q_6.2.2.1))), (ta1, .inl (cyA G 0, 32768, .inl (q_6.2.2.2.1))), (ta2, .inl (cyA G 0, 32768, .inl (q_6.2.2.2.2.1))), (ta3, .inl (cyA G 0, 32768, .inl (q_6.2.2.2.2.2.1))), (ta4, .inl (cyA G 0, 32768, .inl (q_6.2.2.2.2.2.2.1))), (ta5, .inl (cyA G 0, 32768, .inl (q_6.2.2.2.2.2.2.2.1))), (ta6, .inl (cyA G 0, 32768, .inl (q_6.2.2.2.2.2.2.2.2.1))), (ta7, .inl (cyA G 1, 32768, .inl (q_6.2.2.2.2.2.2.2.2.2)))]) hD hS hA [7, 0, 1, 8, 2, 3, 4, 5, 6] rfl
            refine va_calli (va_runS (As := [.ref t1, .int q_8, .int p2, .int p3]) (rest := []) ⟨hx, hb, hml, hown, hts⟩ (ihd t1 q_8 p2 p3 ta0 ta1 ta2 ta3 ta4 ta5 ta6 ta7 ta8 q_6.2.1 q_6.2.2.1 q_6.2.2.2.1 q_6.2.2.2.2.1 q_6.2.2.2.2.2.1 q_6.2.2.2.2.2.2.1 q_6.2.2.2.2.2.2.2.1 q_6.2.2.2.2.2.2.2.2.1 q_6.2.2.2.2.2.2.2.2.2 q_12.1 q_12.2.1 q_12.2.2.1 q_12.2.2.2.1 q_12.2.2.2.2.1 q_12.2.2.2.2.2.1 q_12.2.2.2.2.2.2.1 q_12.2.2.2.2.2.2.2.1 q_12.2.2.2.2.2.2.2.2.1 q_12.2.2.2.2.2.2.2.2.2 hq_12 H.size) (cwS 4 hts (gS wm534 wm532 wm20 wm533) rfl rfl rfl (by decide +kernel) ⟨(by show 203 + d + 1 ≤ 203 + (d + 1); omega), (by show 8 + (7 + 11) + (5266 + d * 26) ≤ 5266 + (d + 1) * 26; omega)⟩) (pre_s hK hP hD hS hE [7, 0, 1, 8, 2, 3, 4, 5, 6] rfl rfl (by decide) hFc) rfl rfl hl.1 rfl (lv_room (Nat.le_of_ble_eq_true rfl)) dX6_put_99 ⟨Nat.le_of_ble_eq_true rfl, Nat.le_of_ble_eq_true rfl⟩) hS (fun q _ h => hFc q h) hFc (fun r u t H locs ht hvm hw hB hz1 hk1 hS => ?_)
            rw [show r = q_12.1 from hw]
            obtain ⟨hP1, hD1⟩ := hB
            rw [ht] at hP1
            obtain ⟨hP, hD⟩ := va_join (wr := []) (w1 := [(t1, .inr (8, [.ref ta0, .ref ta1, .ref ta2, .ref ta3, .ref ta4, .ref ta5, .ref ta6, .ref ta7, .ref ta8, .int q_12.2.1])), (ta0, .inl (cyA G 0, 32768, .inl (q_12.2.2.1))), (ta1, .inl (cyA G 0, 32768, .inl (q_12.2.2.2.1))), (ta2, .inl (cyA G 0, 32768, .inl (q_12.2.2.2.2.1))), (ta3, .inl (cyA G 0, 32768, .inl (q_12.2.2.2.2.2.1))), (ta4, .inl (cyA G 0, 32768, .inl (q_12.2.2.2.2.2.2.1))), (ta5, .inl (cyA G 0, 32768, .inl (q_12.2.2.2.2.2.2.2.1))), (ta6, .inl (cyA G 0, 32768, .inl (q_12.2.2.2.2.2.2.2.2.1))), (ta7, .inl (cyA G 1, 32768, .inl (q_12.2.2.2.2.2.2.2.2.2)))]) hP hD [7, 0, 1, 8, 2, 3, 4, 5, 6] [] rfl rfl (by decide) (by decide) hk1 hFc hP1 hD1
            have hP : va_P (DG G) clP3 [(t1, .inr (8, [.ref ta0, .ref ta1, .ref ta2, .ref ta3, .ref ta4, .ref ta5, .ref ta6, .ref ta7, .ref ta8, .int q_12.2.1])), (ta0, .inl (cyA G 0, 32768, .inl (q_12.2.2.1))), (ta1, .inl (cyA G 0, 32768, .inl (q_12.2.2.2.1))), (ta2, .inl (cyA G 0, 32768, .inl (q_12.2.2.2.2.1))), (ta3, .inl (cyA G 0, 32768, .inl (q_12.2.2.2.2.2.1))), (ta4, .inl (cyA G 0, 32768, .inl (q_12.2.2.2.2.2.2.1))), (ta5, .inl (cyA G 0, 32768, .inl (q_12.2.2.2.2.2.2.2.1))), (ta6, .inl (cyA G 0, 32768, .inl (q_12.2.2.2.2.2.2.2.2.1))), (ta7, .inl (cyA G 1, 32768, .inl (q_12.2.2.2.2.2.2.2.2.2)))] H := hP
            have hD : va_D A [(t1, .inr (8, [.ref ta0, .ref ta1, .ref ta2, .ref ta3, .ref ta4, .ref ta5, .ref ta6, .ref ta7, .ref ta8, .int q_12.2.1])), (ta0, .inl (cyA G 0, 32768, .inl (q_12.2.2.1))), (ta1, .inl (cyA G 0, 32768, .inl (q_12.2.2.2.1))), (ta2, .inl (cyA G 0, 32768, .inl (q_12.2.2.2.2.1))), (ta3, .inl (cyA G 0, 32768, .inl (q_12.2.2.2.2.2.1))), (ta4, .inl (cyA G 0, 32768, .inl (q_12.2.2.2.2.2.2.1))), (ta5, .inl (cyA G 0, 32768, .inl (q_12.2.2.2.2.2.2.2.1))), (ta6, .inl (cyA G 0, 32768, .inl (q_12.2.2.2.2.2.2.2.2.1))), (ta7, .inl (cyA G 1, 32768, .inl (q_12.2.2.2.2.2.2.2.2.2)))] := hD
            refine W.widen (k := 0) (n := 0) (Nat.le_of_ble_eq_true rfl) (Nat.le_of_ble_eq_true rfl) ?_
            refine lv_istore (lv' := [(6, .int q_12.1), (5, .int q_6.1), (4, .int q_3), (0, .ref t1), (1, .int p1), (2, .int p2), (3, .int p3)]) hx hb dX6_put_102 hl (by decide) rfl (fun ls hl => ?_)
            refine lv_aload_n hx hb dX6_put_104 rfl (lv_at hl 3 rfl) ?_
            refine lv_iload hx hb dX6_put_105 (lv_at hl 2 rfl) ?_
            refine lv_iload hx hb dX6_put_107 (lv_at hl 1 rfl) ?_
            refine lv_iload hx hb dX6_put_109 (lv_at hl 0 rfl) ?_
            obtain ⟨q_13, hq_13, hm⟩ := bind_some hm
            have hFc := va_free (wc := [(t1, .inr (8, [.ref ta0, .ref ta1, .ref ta2, .ref ta3, .ref ta4, .ref ta5, .ref ta6, .ref ta7, .ref ta8, .int q_12.2.1])), (ta0, .inl (cyA G 0, 32768, .inl (q_12.2.2.1))), (ta1, .inl (cyA G 0, 32768, .inl (q_12.2.2.2.1))), (ta2, .inl (cyA G 0, 32768, .inl (q_12.2.2.2.2.1))), (ta3, .inl (cyA G 0, 32768, .inl (q_12.2.2.2.2.2.1))), (ta4, .inl (cyA G 0, 32768, .inl (q_12.2.2.2.2.2.2.1))), (ta5, .inl (cyA G 0, 32768, .inl (q_12.2.2.2.2.2.2.2.1))), (ta6, .inl (cyA G 0, 32768, .inl (q_12.2.2.2.2.2.2.2.2.1))), (ta7, .inl (cyA G 1, 32768, .inl (q_12.2.2.2.2.2.2.2.2.2)))]) hD hS hA [0, 1, 2, 3, 4, 5, 6, 7, 8] rfl
            refine va_calli (va_runV (As := [.int q_3, .int q_6.1, .int q_12.1]) (rest := []) ⟨hx, hb, hml, hown, hts⟩ (k_X9_pair l hfl G t1 q_3 q_6.1 q_12.1 ta0 ta1 ta2 ta3 ta4 ta5 ta6 ta7 ta8 q_12.2.1 q_12.2.2.1 q_12.2.2.2.1 q_12.2.2.2.2.1 q_12.2.2.2.2.2.1 q_12.2.2.2.2.2.2.1 q_12.2.2.2.2.2.2.2.1 q_12.2.2.2.2.2.2.2.2.1 q_12.2.2.2.2.2.2.2.2.2 q_13.1 q_13.2.1 q_13.2.2.1 q_13.2.2.2.1 q_13.2.2.2.2.1 q_13.2.2.2.2.2.1 q_13.2.2.2.2.2.2.1 q_13.2.2.2.2.2.2.2.1 q_13.2.2.2.2.2.2.2.2.1 q_13.2.2.2.2.2.2.2.2.2 hq_13 H.size) (cwV 3 hts (gV wm463 wm464 wm465 wm2 wm466) rfl rfl rfl (by decide +kernel) ⟨(by show 2 ≤ 203 + (d + 1); omega), (by show 40 ≤ 5266 + (d + 1) * 26; omega)⟩) (pre_v (pre_s hK hP hD hS hE [0, 1, 2, 3, 4, 5, 6, 7, 8] rfl rfl (by decide) hFc) (va_recv hK hP (ci := 8) (q0 := 0) rfl rfl)) rfl rfl hl.1 rfl (lv_room (Nat.le_of_ble_eq_true rfl)) dX6_put_111 ⟨Nat.le_of_ble_eq_true rfl, Nat.le_of_ble_eq_true rfl⟩) hS (fun q _ h => hFc q h) hFc (fun r u t H locs ht hvm hw hB hz1 hk1 hS => ?_)
            rw [show r = q_13.1 from hw]
            obtain ⟨hP1, hD1⟩ := hB
            rw [ht] at hP1
            obtain ⟨hP, hD⟩ := va_join (wr := []) (w1 := [(t1, .inr (8, [.ref ta0, .ref ta1, .ref ta2, .ref ta3, .ref ta4, .ref ta5, .ref ta6, .ref ta7, .ref ta8, .int q_13.2.1])), (ta0, .inl (cyA G 0, 32768, .inl (q_13.2.2.1))), (ta1, .inl (cyA G 0, 32768, .inl (q_13.2.2.2.1))), (ta2, .inl (cyA G 0, 32768, .inl (q_13.2.2.2.2.1))), (ta3, .inl (cyA G 0, 32768, .inl (q_13.2.2.2.2.2.1))), (ta4, .inl (cyA G 0, 32768, .inl (q_13.2.2.2.2.2.2.1))), (ta5, .inl (cyA G 0, 32768, .inl (q_13.2.2.2.2.2.2.2.1))), (ta6, .inl (cyA G 0, 32768, .inl (q_13.2.2.2.2.2.2.2.2.1))), (ta7, .inl (cyA G 1, 32768, .inl (q_13.2.2.2.2.2.2.2.2.2)))]) hP hD [0, 1, 2, 3, 4, 5, 6, 7, 8] [] rfl rfl (by decide) (by decide) hk1 hFc hP1 hD1
            have hP : va_P (DG G) clP3 [(t1, .inr (8, [.ref ta0, .ref ta1, .ref ta2, .ref ta3, .ref ta4, .ref ta5, .ref ta6, .ref ta7, .ref ta8, .int q_13.2.1])), (ta0, .inl (cyA G 0, 32768, .inl (q_13.2.2.1))), (ta1, .inl (cyA G 0, 32768, .inl (q_13.2.2.2.1))), (ta2, .inl (cyA G 0, 32768, .inl (q_13.2.2.2.2.1))), (ta3, .inl (cyA G 0, 32768, .inl (q_13.2.2.2.2.2.1))), (ta4, .inl (cyA G 0, 32768, .inl (q_13.2.2.2.2.2.2.1))), (ta5, .inl (cyA G 0, 32768, .inl (q_13.2.2.2.2.2.2.2.1))), (ta6, .inl (cyA G 0, 32768, .inl (q_13.2.2.2.2.2.2.2.2.1))), (ta7, .inl (cyA G 1, 32768, .inl (q_13.2.2.2.2.2.2.2.2.2)))] H := hP
            have hD : va_D A [(t1, .inr (8, [.ref ta0, .ref ta1, .ref ta2, .ref ta3, .ref ta4, .ref ta5, .ref ta6, .ref ta7, .ref ta8, .int q_13.2.1])), (ta0, .inl (cyA G 0, 32768, .inl (q_13.2.2.1))), (ta1, .inl (cyA G 0, 32768, .inl (q_13.2.2.2.1))), (ta2, .inl (cyA G 0, 32768, .inl (q_13.2.2.2.2.1))), (ta3, .inl (cyA G 0, 32768, .inl (q_13.2.2.2.2.2.1))), (ta4, .inl (cyA G 0, 32768, .inl (q_13.2.2.2.2.2.2.1))), (ta5, .inl (cyA G 0, 32768, .inl (q_13.2.2.2.2.2.2.2.1))), (ta6, .inl (cyA G 0, 32768, .inl (q_13.2.2.2.2.2.2.2.2.1))), (ta7, .inl (cyA G 1, 32768, .inl (q_13.2.2.2.2.2.2.2.2.2)))] := hD
            refine W.widen (k := 0) (n := 0) (Nat.le_of_ble_eq_true rfl) (Nat.le_of_ble_eq_true rfl) ?_
            simp only [Option.some.injEq, Prod.mk.injEq] at hm
            obtain ⟨rfl, rfl, rfl, rfl, rfl, rfl, rfl, rfl, rfl, rfl⟩ := hm
            have hP9 := hP.sub (ws' := [(t1, .inr (8, [.ref ta0, .ref ta1, .ref ta2, .ref ta3, .ref ta4, .ref ta5, .ref ta6, .ref ta7, .ref ta8, .int q_13.2.1])), (ta0, .inl (cyA G 0, 32768, .inl (q_13.2.2.1))), (ta1, .inl (cyA G 0, 32768, .inl (q_13.2.2.2.1))), (ta2, .inl (cyA G 0, 32768, .inl (q_13.2.2.2.2.1))), (ta3, .inl (cyA G 0, 32768, .inl (q_13.2.2.2.2.2.1))), (ta4, .inl (cyA G 0, 32768, .inl (q_13.2.2.2.2.2.2.1))), (ta5, .inl (cyA G 0, 32768, .inl (q_13.2.2.2.2.2.2.2.1))), (ta6, .inl (cyA G 0, 32768, .inl (q_13.2.2.2.2.2.2.2.2.1))), (ta7, .inl (cyA G 1, 32768, .inl (q_13.2.2.2.2.2.2.2.2.2)))]) [0, 1, 2, 3, 4, 5, 6, 7, 8] rfl
            have hD9 := hD.sub (ws' := [(t1, .inr (8, [.ref ta0, .ref ta1, .ref ta2, .ref ta3, .ref ta4, .ref ta5, .ref ta6, .ref ta7, .ref ta8, .int q_13.2.1])), (ta0, .inl (cyA G 0, 32768, .inl (q_13.2.2.1))), (ta1, .inl (cyA G 0, 32768, .inl (q_13.2.2.2.1))), (ta2, .inl (cyA G 0, 32768, .inl (q_13.2.2.2.2.1))), (ta3, .inl (cyA G 0, 32768, .inl (q_13.2.2.2.2.2.1))), (ta4, .inl (cyA G 0, 32768, .inl (q_13.2.2.2.2.2.2.1))), (ta5, .inl (cyA G 0, 32768, .inl (q_13.2.2.2.2.2.2.2.1))), (ta6, .inl (cyA G 0, 32768, .inl (q_13.2.2.2.2.2.2.2.2.1))), (ta7, .inl (cyA G 1, 32768, .inl (q_13.2.2.2.2.2.2.2.2.2)))]) [0, 1, 2, 3, 4, 5, 6, 7, 8] (by decide) rfl
            refine W.widen (k := 0) (n := 0) (Nat.le_of_ble_eq_true rfl) (Nat.le_of_ble_eq_true rfl) ?_
            exact W.iret (v := q_13.1) hx hb hr (fun t ht hW => ⟨⟨q_13.1, (), rfl, rfl, ⟨by rw [ht]; exact hP9, hD9⟩⟩, hS.F ht⟩) hS.2.2 dX6_put_114 hlocks
        · rw [if_pos c_7] at hm
          refine lv_iconst (v := (-1)) hx hb dX6_put_76 (by decide) ?_
          simp only [Option.some.injEq, Prod.mk.injEq] at hm
          obtain ⟨rfl, rfl, rfl, rfl, rfl, rfl, rfl, rfl, rfl, rfl⟩ := hm
          have hP9 := hP.sub (ws' := [(t1, .inr (8, [.ref ta0, .ref ta1, .ref ta2, .ref ta3, .ref ta4, .ref ta5, .ref ta6, .ref ta7, .ref ta8, .int q_6.2.1])), (ta0, .inl (cyA G 0, 32768, .inl (q_6.2.2.1))), (ta1, .inl (cyA G 0, 32768, .inl (q_6.2.2.2.1))), (ta2, .inl (cyA G 0, 32768, .inl (q_6.2.2.2.2.1))), (ta3, .inl (cyA G 0, 32768, .inl (q_6.2.2.2.2.2.1))), (ta4, .inl (cyA G 0, 32768, .inl (q_6.2.2.2.2.2.2.1))), (ta5, .inl (cyA G 0, 32768, .inl (q_6.2.2.2.2.2.2.2.1))), (ta6, .inl (cyA G 0, 32768, .inl (q_6.2.2.2.2.2.2.2.2.1))), (ta7, .inl (cyA G 1, 32768, .inl (q_6.2.2.2.2.2.2.2.2.2)))]) [0, 1, 2, 3, 4, 5, 6, 7, 8] rfl
          have hD9 := hD.sub (ws' := [(t1, .inr (8, [.ref ta0, .ref ta1, .ref ta2, .ref ta3, .ref ta4, .ref ta5, .ref ta6, .ref ta7, .ref ta8, .int q_6.2.1])), (ta0, .inl (cyA G 0, 32768, .inl (q_6.2.2.1))), (ta1, .inl (cyA G 0, 32768, .inl (q_6.2.2.2.1))), (ta2, .inl (cyA G 0, 32768, .inl (q_6.2.2.2.2.1))), (ta3, .inl (cyA G 0, 32768, .inl (q_6.2.2.2.2.2.1))), (ta4, .inl (cyA G 0, 32768, .inl (q_6.2.2.2.2.2.2.1))), (ta5, .inl (cyA G 0, 32768, .inl (q_6.2.2.2.2.2.2.2.1))), (ta6, .inl (cyA G 0, 32768, .inl (q_6.2.2.2.2.2.2.2.2.1))), (ta7, .inl (cyA G 1, 32768, .inl (q_6.2.2.2.2.2.2.2.2.2)))]) [0, 1, 2, 3, 4, 5, 6, 7, 8] (by decide) rfl
          refine W.widen (k := 0) (n := 0) (Nat.le_of_ble_eq_true rfl) (Nat.le_of_ble_eq_true rfl) ?_
          exact W.iret (v := (-1)) hx hb hr (fun t ht hW => ⟨⟨(-1), (), rfl, rfl, ⟨by rw [ht]; exact hP9, hD9⟩⟩, hS.F ht⟩) hS.2.2 dX6_put_77 hlocks
      · rw [if_pos c_4] at hm
        refine lv_aload_n hx hb dX6_put_24 rfl (lv_at hl 1 rfl) ?_
        refine lv_iload_n hx hb dX6_put_25 rfl (lv_at hl 2 rfl) ?_
        obtain ⟨q_14, hq_14, hm⟩ := bind_some hm
        have hFc := va_free (wc := [(t1, .inr (8, [.ref ta0, .ref ta1, .ref ta2, .ref ta3, .ref ta4, .ref ta5, .ref ta6, .ref ta7, .ref ta8, .int mm])), (ta1, .inl (cyA G 0, 32768, .inl (tf1)))]) hD hS hA [7, 0] rfl
        refine va_calli (va_runV (As := [.int p1]) (rest := []) ⟨hx, hb, hml, hown, hts⟩ (k_X9_firstOf l hfl G t1 p1 ta0 ta1 ta2 ta3 ta4 ta5 ta6 ta7 ta8 mm tf1 q_14 hq_14 H.size) (cwV 1 hts (gV wm456 wm431 wm432 wm2 wm433) rfl rfl rfl (by decide +kernel) ⟨(by show 1 ≤ 203 + (d + 1); omega), (by show 21 ≤ 5266 + (d + 1) * 26; omega)⟩) (pre_v (pre_s hK hP hD hS hE [7, 0] rfl rfl (by decide) hFc) (va_recv hK hP (ci := 8) (q0 := 7) rfl rfl)) rfl rfl hl.1 rfl (lv_room (Nat.le_of_ble_eq_true rfl)) dX6_put_26 ⟨Nat.le_of_ble_eq_true rfl, Nat.le_of_ble_eq_true rfl⟩) hS (fun q _ h => hFc q h) hFc (fun r u t H locs ht hvm hw hB hz1 hk1 hS => ?_)
        rw [show r = q_14 from hw]
        obtain ⟨hP1, hD1⟩ := hB
        rw [ht] at hP1
        obtain ⟨hP, hD⟩ := va_join (wr := [(ta2, .inl (cyA G 0, 32768, .inl (tf2))), (ta3, .inl (cyA G 0, 32768, .inl (tf3))), (ta4, .inl (cyA G 0, 32768, .inl (tf4))), (ta6, .inl (cyA G 0, 32768, .inl (tf6))), (ta7, .inl (cyA G 1, 32768, .inl (tf7))), (ta5, .inl (cyA G 0, 32768, .inl (tf5))), (ta0, .inl (cyA G 0, 32768, .inl (tf0)))]) (w1 := [(t1, .inr (8, [.ref ta0, .ref ta1, .ref ta2, .ref ta3, .ref ta4, .ref ta5, .ref ta6, .ref ta7, .ref ta8, .int mm])), (ta1, .inl (cyA G 0, 32768, .inl (tf1)))]) hP hD [7, 0] [1, 2, 3, 4, 5, 6, 8] rfl rfl (by decide) (by decide) hk1 hFc hP1 hD1
        have hP : va_P (DG G) clP3 [(ta2, .inl (cyA G 0, 32768, .inl (tf2))), (ta3, .inl (cyA G 0, 32768, .inl (tf3))), (ta4, .inl (cyA G 0, 32768, .inl (tf4))), (ta6, .inl (cyA G 0, 32768, .inl (tf6))), (ta7, .inl (cyA G 1, 32768, .inl (tf7))), (ta5, .inl (cyA G 0, 32768, .inl (tf5))), (ta0, .inl (cyA G 0, 32768, .inl (tf0))), (t1, .inr (8, [.ref ta0, .ref ta1, .ref ta2, .ref ta3, .ref ta4, .ref ta5, .ref ta6, .ref ta7, .ref ta8, .int mm])), (ta1, .inl (cyA G 0, 32768, .inl (tf1)))] H := hP
        have hD : va_D A [(ta2, .inl (cyA G 0, 32768, .inl (tf2))), (ta3, .inl (cyA G 0, 32768, .inl (tf3))), (ta4, .inl (cyA G 0, 32768, .inl (tf4))), (ta6, .inl (cyA G 0, 32768, .inl (tf6))), (ta7, .inl (cyA G 1, 32768, .inl (tf7))), (ta5, .inl (cyA G 0, 32768, .inl (tf5))), (ta0, .inl (cyA G 0, 32768, .inl (tf0))), (t1, .inr (8, [.ref ta0, .ref ta1, .ref ta2, .ref ta3, .ref ta4, .ref ta5, .ref ta6, .ref ta7, .ref ta8, .int mm])), (ta1, .inl (cyA G 0, 32768, .inl (tf1)))] := hD
        refine W.widen (k := 0) (n := 0) (Nat.le_of_ble_eq_true rfl) (Nat.le_of_ble_eq_true rfl) ?_
        refine lv_istore (lv' := [(5, .int q_14), (4, .int q_3), (0, .ref t1), (1, .int p1), (2, .int p2), (3, .int p3)]) hx hb dX6_put_29 hl (by decide) rfl (fun ls hl => ?_)
        refine lv_iload hx hb dX6_put_31 (lv_at hl 0 rfl) ?_
        refine lv_iload_n hx hb dX6_put_33 rfl (lv_at hl 5 rfl) ?_
        refine lv_icmp_ne (tgt := 47) hx hb dX6_put_34 (by decide) (fun c_15 => ?_) (fun c_15 => ?_)
        · rw [if_neg c_15] at hm
          refine lv_aload_n hx hb dX6_put_47 rfl (lv_at hl 2 rfl) ?_
          refine lv_iconst (v := 1) hx hb dX6_put_48 (by decide) ?_
          refine lv_iload hx hb dX6_put_49 (lv_at hl 0 rfl) ?_
          refine lv_iconst (v := 1) hx hb dX6_put_51 (by decide) ?_
          refine lv_isub hx hb dX6_put_52 ?_
          obtain ⟨q_16, hq_16, hm⟩ := bind_some hm
          have hFc := va_free (wc := [(t1, .inr (8, [.ref ta0, .ref ta1, .ref ta2, .ref ta3, .ref ta4, .ref ta5, .ref ta6, .ref ta7, .ref ta8, .int mm])), (ta0, .inl (cyA G 0, 32768, .inl (tf0))), (ta1, .inl (cyA G 0, 32768, .inl (tf1))), (ta2, .inl (cyA G 0, 32768, .inl (tf2))), (ta3, .inl (cyA G 0, 32768, .inl (tf3))), (ta4, .inl (cyA G 0, 32768, .inl (tf4))), (ta5, .inl (cyA G 0, 32768, .inl (tf5))), (ta6, .inl (cyA G 0, 32768, .inl (tf6))), (ta7, .inl (cyA G 1, 32768, .inl (tf7)))]) hD hS hA [7, 6, 8, 0, 1, 2, 5, 3, 4] rfl
          refine va_calli (va_runV (As := [.int 1, .int (q_14 - 1)]) (rest := []) ⟨hx, hb, hml, hown, hts⟩ (k_X9_leaf l hfl G t1 1 (q_14 - 1) ta0 ta1 ta2 ta3 ta4 ta5 ta6 ta7 ta8 mm tf0 tf1 tf2 tf3 tf4 tf5 tf6 tf7 q_16.1 q_16.2.1 q_16.2.2.1 q_16.2.2.2.1 q_16.2.2.2.2.1 q_16.2.2.2.2.2.1 q_16.2.2.2.2.2.2.1 q_16.2.2.2.2.2.2.2.1 q_16.2.2.2.2.2.2.2.2.1 q_16.2.2.2.2.2.2.2.2.2 hq_16 H.size) (cwV 2 hts (gV wm457 wm439 wm440 wm2 wm441) rfl rfl rfl (by decide +kernel) ⟨(by show 1 ≤ 203 + (d + 1); omega), (by show 23 ≤ 5266 + (d + 1) * 26; omega)⟩) (pre_v (pre_s hK hP hD hS hE [7, 6, 8, 0, 1, 2, 5, 3, 4] rfl rfl (by decide) hFc) (va_recv hK hP (ci := 8) (q0 := 7) rfl rfl)) rfl rfl hl.1 rfl (lv_room (Nat.le_of_ble_eq_true rfl)) dX6_put_53 ⟨Nat.le_of_ble_eq_true rfl, Nat.le_of_ble_eq_true rfl⟩) hS (fun q _ h => hFc q h) hFc (fun r u t H locs ht hvm hw hB hz1 hk1 hS => ?_)
          rw [show r = q_16.1 from hw]
          obtain ⟨hP1, hD1⟩ := hB
          rw [ht] at hP1
          obtain ⟨hP, hD⟩ := va_join (wr := []) (w1 := [(t1, .inr (8, [.ref ta0, .ref ta1, .ref ta2, .ref ta3, .ref ta4, .ref ta5, .ref ta6, .ref ta7, .ref ta8, .int q_16.2.1])), (ta0, .inl (cyA G 0, 32768, .inl (q_16.2.2.1))), (ta1, .inl (cyA G 0, 32768, .inl (q_16.2.2.2.1))), (ta2, .inl (cyA G 0, 32768, .inl (q_16.2.2.2.2.1))), (ta3, .inl (cyA G 0, 32768, .inl (q_16.2.2.2.2.2.1))), (ta4, .inl (cyA G 0, 32768, .inl (q_16.2.2.2.2.2.2.1))), (ta5, .inl (cyA G 0, 32768, .inl (q_16.2.2.2.2.2.2.2.1))), (ta6, .inl (cyA G 0, 32768, .inl (q_16.2.2.2.2.2.2.2.2.1))), (ta7, .inl (cyA G 1, 32768, .inl (q_16.2.2.2.2.2.2.2.2.2)))]) hP hD [7, 6, 8, 0, 1, 2, 5, 3, 4] [] rfl rfl (by decide) (by decide) hk1 hFc hP1 hD1
          have hP : va_P (DG G) clP3 [(t1, .inr (8, [.ref ta0, .ref ta1, .ref ta2, .ref ta3, .ref ta4, .ref ta5, .ref ta6, .ref ta7, .ref ta8, .int q_16.2.1])), (ta0, .inl (cyA G 0, 32768, .inl (q_16.2.2.1))), (ta1, .inl (cyA G 0, 32768, .inl (q_16.2.2.2.1))), (ta2, .inl (cyA G 0, 32768, .inl (q_16.2.2.2.2.1))), (ta3, .inl (cyA G 0, 32768, .inl (q_16.2.2.2.2.2.1))), (ta4, .inl (cyA G 0, 32768, .inl (q_16.2.2.2.2.2.2.1))), (ta5, .inl (cyA G 0, 32768, .inl (q_16.2.2.2.2.2.2.2.1))), (ta6, .inl (cyA G 0, 32768, .inl (q_16.2.2.2.2.2.2.2.2.1))), (ta7, .inl (cyA G 1, 32768, .inl (q_16.2.2.2.2.2.2.2.2.2)))] H := hP
          have hD : va_D A [(t1, .inr (8, [.ref ta0, .ref ta1, .ref ta2, .ref ta3, .ref ta4, .ref ta5, .ref ta6, .ref ta7, .ref ta8, .int q_16.2.1])), (ta0, .inl (cyA G 0, 32768, .inl (q_16.2.2.1))), (ta1, .inl (cyA G 0, 32768, .inl (q_16.2.2.2.1))), (ta2, .inl (cyA G 0, 32768, .inl (q_16.2.2.2.2.1))), (ta3, .inl (cyA G 0, 32768, .inl (q_16.2.2.2.2.2.1))), (ta4, .inl (cyA G 0, 32768, .inl (q_16.2.2.2.2.2.2.1))), (ta5, .inl (cyA G 0, 32768, .inl (q_16.2.2.2.2.2.2.2.1))), (ta6, .inl (cyA G 0, 32768, .inl (q_16.2.2.2.2.2.2.2.2.1))), (ta7, .inl (cyA G 1, 32768, .inl (q_16.2.2.2.2.2.2.2.2.2)))] := hD
          refine W.widen (k := 0) (n := 0) (Nat.le_of_ble_eq_true rfl) (Nat.le_of_ble_eq_true rfl) ?_
          simp only [Option.some.injEq, Prod.mk.injEq] at hm
          obtain ⟨rfl, rfl, rfl, rfl, rfl, rfl, rfl, rfl, rfl, rfl⟩ := hm
          have hP9 := hP.sub (ws' := [(t1, .inr (8, [.ref ta0, .ref ta1, .ref ta2, .ref ta3, .ref ta4, .ref ta5, .ref ta6, .ref ta7, .ref ta8, .int q_16.2.1])), (ta0, .inl (cyA G 0, 32768, .inl (q_16.2.2.1))), (ta1, .inl (cyA G 0, 32768, .inl (q_16.2.2.2.1))), (ta2, .inl (cyA G 0, 32768, .inl (q_16.2.2.2.2.1))), (ta3, .inl (cyA G 0, 32768, .inl (q_16.2.2.2.2.2.1))), (ta4, .inl (cyA G 0, 32768, .inl (q_16.2.2.2.2.2.2.1))), (ta5, .inl (cyA G 0, 32768, .inl (q_16.2.2.2.2.2.2.2.1))), (ta6, .inl (cyA G 0, 32768, .inl (q_16.2.2.2.2.2.2.2.2.1))), (ta7, .inl (cyA G 1, 32768, .inl (q_16.2.2.2.2.2.2.2.2.2)))]) [0, 1, 2, 3, 4, 5, 6, 7, 8] rfl
          have hD9 := hD.sub (ws' := [(t1, .inr (8, [.ref ta0, .ref ta1, .ref ta2, .ref ta3, .ref ta4, .ref ta5, .ref ta6, .ref ta7, .ref ta8, .int q_16.2.1])), (ta0, .inl (cyA G 0, 32768, .inl (q_16.2.2.1))), (ta1, .inl (cyA G 0, 32768, .inl (q_16.2.2.2.1))), (ta2, .inl (cyA G 0, 32768, .inl (q_16.2.2.2.2.1))), (ta3, .inl (cyA G 0, 32768, .inl (q_16.2.2.2.2.2.1))), (ta4, .inl (cyA G 0, 32768, .inl (q_16.2.2.2.2.2.2.1))), (ta5, .inl (cyA G 0, 32768, .inl (q_16.2.2.2.2.2.2.2.1))), (ta6, .inl (cyA G 0, 32768, .inl (q_16.2.2.2.2.2.2.2.2.1))), (ta7, .inl (cyA G 1, 32768, .inl (q_16.2.2.2.2.2.2.2.2.2)))]) [0, 1, 2, 3, 4, 5, 6, 7, 8] (by decide) rfl
          refine W.widen (k := 0) (n := 0) (Nat.le_of_ble_eq_true rfl) (Nat.le_of_ble_eq_true rfl) ?_
          exact W.iret (v := q_16.1) hx hb hr (fun t ht hW => ⟨⟨q_16.1, (), rfl, rfl, ⟨by rw [ht]; exact hP9, hD9⟩⟩, hS.F ht⟩) hS.2.2 dX6_put_56 hlocks
        · rw [if_pos c_15] at hm
          refine lv_aload_n hx hb dX6_put_37 rfl (lv_at hl 2 rfl) ?_
          refine lv_iload_n hx hb dX6_put_38 rfl (lv_at hl 4 rfl) ?_
          refine lv_iload_n hx hb dX6_put_39 rfl (lv_at hl 5 rfl) ?_
          refine lv_iconst (v := 0) hx hb dX6_put_40 (by decide) ?_
          obtain ⟨q_17, hq_17, hm⟩ := bind_some hm
          have hFc := va_free (wc := [(t1, .inr (8, [.ref ta0, .ref ta1, .ref ta2, .ref ta3, .ref ta4, .ref ta5, .ref ta6, .ref ta7, .ref ta8, .int mm])), (ta0, .inl (cyA G 0, 32768, .inl (tf0))), (ta1, .inl (cyA G 0, 32768, .inl (tf1))), (ta2, .inl (cyA G 0, 32768, .inl (tf2))), (ta3, .inl (cyA G 0, 32768, .inl (tf3))), (ta4, .inl (cyA G 0, 32768, .inl (tf4))), (ta5, .inl (cyA G 0, 32768, .inl (tf5))), (ta6, .inl (cyA G 0, 32768, .inl (tf6))), (ta7, .inl (cyA G 1, 32768, .inl (tf7)))]) hD hS hA [7, 6, 8, 0, 1, 2, 5, 3, 4] rfl
          refine va_calli (va_runS (As := [.ref t1, .int p2, .int p3, .int 0]) (rest := []) ⟨hx, hb, hml, hown, hts⟩ (k_X6_lift l hfl G 200 t1 p2 p3 0 ta0 ta1 ta2 ta3 ta4 ta5 ta6 ta7 ta8 mm tf0 tf1 tf2 tf3 tf4 tf5 tf6 tf7 q_17.1 q_17.2.1 q_17.2.2.1 q_17.2.2.2.1 q_17.2.2.2.2.1 q_17.2.2.2.2.2.1 q_17.2.2.2.2.2.2.1 q_17.2.2.2.2.2.2.2.1 q_17.2.2.2.2.2.2.2.2.1 q_17.2.2.2.2.2.2.2.2.2 hq_17 H.size) (cwS 4 hts (gS wm458 wm449 wm20 wm450) rfl rfl rfl (by decide +kernel) ⟨(by show 203 ≤ 203 + (d + 1); omega), (by show 5266 ≤ 5266 + (d + 1) * 26; omega)⟩) (pre_s hK hP hD hS hE [7, 6, 8, 0, 1, 2, 5, 3, 4] rfl rfl (by decide) hFc) rfl rfl hl.1 rfl (lv_room (Nat.le_of_ble_eq_true rfl)) dX6_put_41 ⟨Nat.le_of_ble_eq_true rfl, Nat.le_of_ble_eq_true rfl⟩) hS (fun q _ h => hFc q h) hFc (fun r u t H locs ht hvm hw hB hz1 hk1 hS => ?_)
          rw [show r = q_17.1 from hw]
          obtain ⟨hP1, hD1⟩ := hB
          rw [ht] at hP1
          obtain ⟨hP, hD⟩ := va_join (wr := []) (w1 := [(t1, .inr (8, [.ref ta0, .ref ta1, .ref ta2, .ref ta3, .ref ta4, .ref ta5, .ref ta6, .ref ta7, .ref ta8, .int q_17.2.1])), (ta0, .inl (cyA G 0, 32768, .inl (q_17.2.2.1))), (ta1, .inl (cyA G 0, 32768, .inl (q_17.2.2.2.1))), (ta2, .inl (cyA G 0, 32768, .inl (q_17.2.2.2.2.1))), (ta3, .inl (cyA G 0, 32768, .inl (q_17.2.2.2.2.2.1))), (ta4, .inl (cyA G 0, 32768, .inl (q_17.2.2.2.2.2.2.1))), (ta5, .inl (cyA G 0, 32768, .inl (q_17.2.2.2.2.2.2.2.1))), (ta6, .inl (cyA G 0, 32768, .inl (q_17.2.2.2.2.2.2.2.2.1))), (ta7, .inl (cyA G 1, 32768, .inl (q_17.2.2.2.2.2.2.2.2.2)))]) hP hD [7, 6, 8, 0, 1, 2, 5, 3, 4] [] rfl rfl (by decide) (by decide) hk1 hFc hP1 hD1
          have hP : va_P (DG G) clP3 [(t1, .inr (8, [.ref ta0, .ref ta1, .ref ta2, .ref ta3, .ref ta4, .ref ta5, .ref ta6, .ref ta7, .ref ta8, .int q_17.2.1])), (ta0, .inl (cyA G 0, 32768, .inl (q_17.2.2.1))), (ta1, .inl (cyA G 0, 32768, .inl (q_17.2.2.2.1))), (ta2, .inl (cyA G 0, 32768, .inl (q_17.2.2.2.2.1))), (ta3, .inl (cyA G 0, 32768, .inl (q_17.2.2.2.2.2.1))), (ta4, .inl (cyA G 0, 32768, .inl (q_17.2.2.2.2.2.2.1))), (ta5, .inl (cyA G 0, 32768, .inl (q_17.2.2.2.2.2.2.2.1))), (ta6, .inl (cyA G 0, 32768, .inl (q_17.2.2.2.2.2.2.2.2.1))), (ta7, .inl (cyA G 1, 32768, .inl (q_17.2.2.2.2.2.2.2.2.2)))] H := hP
          have hD : va_D A [(t1, .inr (8, [.ref ta0, .ref ta1, .ref ta2, .ref ta3, .ref ta4, .ref ta5, .ref ta6, .ref ta7, .ref ta8, .int q_17.2.1])), (ta0, .inl (cyA G 0, 32768, .inl (q_17.2.2.1))), (ta1, .inl (cyA G 0, 32768, .inl (q_17.2.2.2.1))), (ta2, .inl (cyA G 0, 32768, .inl (q_17.2.2.2.2.1))), (ta3, .inl (cyA G 0, 32768, .inl (q_17.2.2.2.2.2.1))), (ta4, .inl (cyA G 0, 32768, .inl (q_17.2.2.2.2.2.2.1))), (ta5, .inl (cyA G 0, 32768, .inl (q_17.2.2.2.2.2.2.2.1))), (ta6, .inl (cyA G 0, 32768, .inl (q_17.2.2.2.2.2.2.2.2.1))), (ta7, .inl (cyA G 1, 32768, .inl (q_17.2.2.2.2.2.2.2.2.2)))] := hD
          refine W.widen (k := 0) (n := 0) (Nat.le_of_ble_eq_true rfl) (Nat.le_of_ble_eq_true rfl) ?_
          refine lv_goto (tgt := 56) hx hb dX6_put_44 (by decide) ?_
          simp only [Option.some.injEq, Prod.mk.injEq] at hm
          obtain ⟨rfl, rfl, rfl, rfl, rfl, rfl, rfl, rfl, rfl, rfl⟩ := hm
          have hP9 := hP.sub (ws' := [(t1, .inr (8, [.ref ta0, .ref ta1, .ref ta2, .ref ta3, .ref ta4, .ref ta5, .ref ta6, .ref ta7, .ref ta8, .int q_17.2.1])), (ta0, .inl (cyA G 0, 32768, .inl (q_17.2.2.1))), (ta1, .inl (cyA G 0, 32768, .inl (q_17.2.2.2.1))), (ta2, .inl (cyA G 0, 32768, .inl (q_17.2.2.2.2.1))), (ta3, .inl (cyA G 0, 32768, .inl (q_17.2.2.2.2.2.1))), (ta4, .inl (cyA G 0, 32768, .inl (q_17.2.2.2.2.2.2.1))), (ta5, .inl (cyA G 0, 32768, .inl (q_17.2.2.2.2.2.2.2.1))), (ta6, .inl (cyA G 0, 32768, .inl (q_17.2.2.2.2.2.2.2.2.1))), (ta7, .inl (cyA G 1, 32768, .inl (q_17.2.2.2.2.2.2.2.2.2)))]) [0, 1, 2, 3, 4, 5, 6, 7, 8] rfl
          have hD9 := hD.sub (ws' := [(t1, .inr (8, [.ref ta0, .ref ta1, .ref ta2, .ref ta3, .ref ta4, .ref ta5, .ref ta6, .ref ta7, .ref ta8, .int q_17.2.1])), (ta0, .inl (cyA G 0, 32768, .inl (q_17.2.2.1))), (ta1, .inl (cyA G 0, 32768, .inl (q_17.2.2.2.1))), (ta2, .inl (cyA G 0, 32768, .inl (q_17.2.2.2.2.1))), (ta3, .inl (cyA G 0, 32768, .inl (q_17.2.2.2.2.2.1))), (ta4, .inl (cyA G 0, 32768, .inl (q_17.2.2.2.2.2.2.1))), (ta5, .inl (cyA G 0, 32768, .inl (q_17.2.2.2.2.2.2.2.1))), (ta6, .inl (cyA G 0, 32768, .inl (q_17.2.2.2.2.2.2.2.2.1))), (ta7, .inl (cyA G 1, 32768, .inl (q_17.2.2.2.2.2.2.2.2.2)))]) [0, 1, 2, 3, 4, 5, 6, 7, 8] (by decide) rfl
          refine W.widen (k := 0) (n := 0) (Nat.le_of_ble_eq_true rfl) (Nat.le_of_ble_eq_true rfl) ?_
          exact W.iret (v := q_17.1) hx hb hr (fun t ht hW => ⟨⟨q_17.1, (), rfl, rfl, ⟨by rw [ht]; exact hP9, hD9⟩⟩, hS.F ht⟩) hS.2.2 dX6_put_56 hlocks
    · rw [if_neg c_2] at hm
      refine lv_iload_n hx hb dX6_put_9 rfl (lv_at hl 1 rfl) ?_
      simp only [Option.some.injEq, Prod.mk.injEq] at hm
      obtain ⟨rfl, rfl, rfl, rfl, rfl, rfl, rfl, rfl, rfl, rfl⟩ := hm
      have hP9 := hP.sub (ws' := [(t1, .inr (8, [.ref ta0, .ref ta1, .ref ta2, .ref ta3, .ref ta4, .ref ta5, .ref ta6, .ref ta7, .ref ta8, .int mm])), (ta0, .inl (cyA G 0, 32768, .inl (tf0))), (ta1, .inl (cyA G 0, 32768, .inl (tf1))), (ta2, .inl (cyA G 0, 32768, .inl (tf2))), (ta3, .inl (cyA G 0, 32768, .inl (tf3))), (ta4, .inl (cyA G 0, 32768, .inl (tf4))), (ta5, .inl (cyA G 0, 32768, .inl (tf5))), (ta6, .inl (cyA G 0, 32768, .inl (tf6))), (ta7, .inl (cyA G 1, 32768, .inl (tf7)))]) [7, 0, 1, 2, 3, 4, 8, 5, 6] rfl
      have hD9 := hD.sub (ws' := [(t1, .inr (8, [.ref ta0, .ref ta1, .ref ta2, .ref ta3, .ref ta4, .ref ta5, .ref ta6, .ref ta7, .ref ta8, .int mm])), (ta0, .inl (cyA G 0, 32768, .inl (tf0))), (ta1, .inl (cyA G 0, 32768, .inl (tf1))), (ta2, .inl (cyA G 0, 32768, .inl (tf2))), (ta3, .inl (cyA G 0, 32768, .inl (tf3))), (ta4, .inl (cyA G 0, 32768, .inl (tf4))), (ta5, .inl (cyA G 0, 32768, .inl (tf5))), (ta6, .inl (cyA G 0, 32768, .inl (tf6))), (ta7, .inl (cyA G 1, 32768, .inl (tf7)))]) [7, 0, 1, 2, 3, 4, 8, 5, 6] (by decide) rfl
      refine W.widen (k := 0) (n := 0) (Nat.le_of_ble_eq_true rfl) (Nat.le_of_ble_eq_true rfl) ?_
      exact W.iret (v := p1) hx hb hr (fun t ht hW => ⟨⟨p1, (), rfl, rfl, ⟨by rw [ht]; exact hP9, hD9⟩⟩, hS.F ht⟩) hS.2.2 dX6_put_10 hlocks
def f_X6_same : Nat → (Int32) → (Nat → Int32) → (Nat → Int32) → (Nat → Int32) → (Nat → Int32) → (Nat → Int32) → (Int32) → (Int32) → Option (Int32)
  | 0, _, _, _, _, _, _, _, _ => none
  | d + 1, mm, tf0, tf1, tf2, tf3, tf4, p1, p2 => (Option.bind (f_X9_kindOf mm tf0 p1) (fun q_1 => (if q_1 = (-1) then some 0 else (Option.bind (f_X9_kindOf mm tf0 p2) (fun q_3 => (if q_1 = q_3 then (Option.bind (f_X9_numberOf mm tf4 p1) (fun q_5 => (Option.bind (f_X9_numberOf mm tf4 p2) (fun q_6 => (if q_5 = q_6 then (Option.bind (f_X9_sizeOf mm tf3 p1) (fun q_8 => (Option.bind (f_X9_sizeOf mm tf3 p2) (fun q_9 => (if q_8 = q_9 then (if p1 = p2 then some 1 else (if 5 ≤ q_1 then (Option.bind (f_X9_firstOf mm tf1 p1) (fun q_13 => (Option.bind (f_X9_firstOf mm tf1 p2) (fun q_14 => (Option.bind (f_X6_same d mm tf0 tf1 tf2 tf3 tf4 q_13 q_14) (fun q_15 => (if q_15 = 0 then some 0 else (Option.bind (f_X9_secondOf mm tf2 p1) (fun q_17 => (Option.bind (f_X9_secondOf mm tf2 p2) (fun q_18 => (Option.bind (f_X6_same d mm tf0 tf1 tf2 tf3 tf4 q_17 q_18) (fun q_19 => (if q_19 = 0 then some 0 else some 1)))))))))))))) else (Option.bind (f_X9_firstOf mm tf1 p1) (fun q_21 => (Option.bind (f_X9_firstOf mm tf1 p2) (fun q_22 => (if q_21 = q_22 then some 1 else some 0))))))) else some 0))))) else some 0))))) else some 0))))))
set_option maxHeartbeats 4000000 in
set_option maxRecDepth 100000 in
theorem k_X6_same (l : Launch) (hfl : l.stackTraces = false) (G : GC) : ∀ (d : Nat) (t1 : Nat) (p1 : Int32) (p2 : Int32) (ta0 : Nat) (ta1 : Nat) (ta2 : Nat) (ta3 : Nat) (ta4 : Nat) (ta5 : Nat) (ta6 : Nat) (ta7 : Nat) (ta8 : Nat) (mm : Int32) (tf0 : Nat → Int32) (tf1 : Nat → Int32) (tf2 : Nat → Int32) (tf3 : Nat → Int32) (tf4 : Nat → Int32) (r9 : Int32), f_X6_same d mm tf0 tf1 tf2 tf3 tf4 p1 p2 = some r9 → ∀ (sz : Nat), Met l yX6_same (Cond.code yX6_same cX6_same 4 (some .boolean) :: W0) ({ frames := 1 + d, cells := 0, slots := 0, locals := 21 + d * 23 }) (va_Pc [.ref t1, .int p1, .int p2] (WD G [(t1, .inr (8, [.ref ta0, .ref ta1, .ref ta2, .ref ta3, .ref ta4, .ref ta5, .ref ta6, .ref ta7, .ref ta8, .int mm])), (ta0, .inl (cyA G 0, 32768, .inl (tf0))), (ta1, .inl (cyA G 0, 32768, .inl (tf1))), (ta2, .inl (cyA G 0, 32768, .inl (tf2))), (ta3, .inl (cyA G 0, 32768, .inl (tf3))), (ta4, .inl (cyA G 0, 32768, .inl (tf4)))] sz)) (va_Qi (fun (r : Int32) (_ : Unit) => r = r9) (fun _ t => PW G (va_A [(t1, .inr (8, [.ref ta0, .ref ta1, .ref ta2, .ref ta3, .ref ta4, .ref ta5, .ref ta6, .ref ta7, .ref ta8, .int mm])), (ta0, .inl (cyA G 0, 32768, .inl (tf0))), (ta1, .inl (cyA G 0, 32768, .inl (tf1))), (ta2, .inl (cyA G 0, 32768, .inl (tf2))), (ta3, .inl (cyA G 0, 32768, .inl (tf3))), (ta4, .inl (cyA G 0, 32768, .inl (tf4)))] sz) [(t1, .inr (8, [.ref ta0, .ref ta1, .ref ta2, .ref ta3, .ref ta4, .ref ta5, .ref ta6, .ref ta7, .ref ta8, .int mm])), (ta0, .inl (cyA G 0, 32768, .inl (tf0))), (ta1, .inl (cyA G 0, 32768, .inl (tf1))), (ta2, .inl (cyA G 0, 32768, .inl (tf2))), (ta3, .inl (cyA G 0, 32768, .inl (tf3))), (ta4, .inl (cyA G 0, 32768, .inl (tf4)))] t) (va_A [(t1, .inr (8, [.ref ta0, .ref ta1, .ref ta2, .ref ta3, .ref ta4, .ref ta5, .ref ta6, .ref ta7, .ref ta8, .int mm])), (ta0, .inl (cyA G 0, 32768, .inl (tf0))), (ta1, .inl (cyA G 0, 32768, .inl (tf1))), (ta2, .inl (cyA G 0, 32768, .inl (tf2))), (ta3, .inl (cyA G 0, 32768, .inl (tf3))), (ta4, .inl (cyA G 0, 32768, .inl (tf4)))] sz)) 0 0 (va_A [(t1, .inr (8, [.ref ta0, .ref ta1, .ref ta2, .ref ta3, .ref ta4, .ref ta5, .ref ta6, .ref ta7, .ref ta8, .int mm])), (ta0, .inl (cyA G 0, 32768, .inl (tf0))), (ta1, .inl (cyA G 0, 32768, .inl (tf1))), (ta2, .inl (cyA G 0, 32768, .inl (tf2))), (ta3, .inl (cyA G 0, 32768, .inl (tf3))), (ta4, .inl (cyA G 0, 32768, .inl (tf4)))] sz) := by
  intro d
  induction d with
  | zero =>
    intro t1 p1 p2 ta0 ta1 ta2 ta3 ta4 ta5 ta6 ta7 ta8 mm tf0 tf1 tf2 tf3 tf4 r9 hm
    rw [f_X6_same] at hm
    cases hm
  | succ d ihd =>
    intro t1 p1 p2 ta0 ta1 ta2 ta3 ta4 ta5 ta6 ta7 ta8 mm tf0 tf1 tf2 tf3 tf4 r9 hm sz
    rw [f_X6_same] at hm
    refine Met.ofW (cc := cX6_same) (maxL := 4) (ret := (some .boolean)) (by decide) rfl ?_
    intro p e s m args below meth c s₁ B hml hv
    obtain ⟨rfl, hsz, hP, hK, hD0, hE⟩ := hv
    have hx := B.exec
    have hb := B.bytes
    have hr := B.returns
    have hts := w0_tail B.pre
    have hown : s.vm.findClass RX6 = some m.cls := findClass_of_methodNamed B.named
    have hlocks := B.notSynchronized
    subst hsz
    have hD := hD0.self (sz := s.heap.size)
    generalize hAe : va_A [(t1, .inr (8, [.ref ta0, .ref ta1, .ref ta2, .ref ta3, .ref ta4, .ref ta5, .ref ta6, .ref ta7, .ref ta8, .int mm])), (ta0, .inl (cyA G 0, 32768, .inl (tf0))), (ta1, .inl (cyA G 0, 32768, .inl (tf1))), (ta2, .inl (cyA G 0, 32768, .inl (tf2))), (ta3, .inl (cyA G 0, 32768, .inl (tf3))), (ta4, .inl (cyA G 0, 32768, .inl (tf4)))] s.heap.size = A at hD hE ⊢
    have hA : ∀ q : Nat, s.heap.size ≤ q → A q := fun q h => by rw [← hAe]; exact Or.inr h
    have hS : va_S A s.heap s.heap [] := va_S.rf
    obtain ⟨H, hHe⟩ : ∃ H : Heap, H = s.heap := ⟨_, rfl⟩
    have hP : va_P (DG G) clP3 [(t1, .inr (8, [.ref ta0, .ref ta1, .ref ta2, .ref ta3, .ref ta4, .ref ta5, .ref ta6, .ref ta7, .ref ta8, .int mm])), (ta0, .inl (cyA G 0, 32768, .inl (tf0))), (ta1, .inl (cyA G 0, 32768, .inl (tf1))), (ta2, .inl (cyA G 0, 32768, .inl (tf2))), (ta3, .inl (cyA G 0, 32768, .inl (tf3))), (ta4, .inl (cyA G 0, 32768, .inl (tf4)))] H := by rw [hHe]; exact hP
    have hS : va_S A s.heap H [] := by rw [hHe]; exact hS
    have hl := lv_entry ([.ref t1, .int p1, .int p2]) (n := 4) (Nat.le_of_ble_eq_true rfl)
    rw [lg_entry_eq, ← hHe]
    generalize (lg_sl ([.ref t1, .int p1, .int p2]) ++ List.replicate (4 - (lg_sl ([.ref t1, .int p1, .int p2])).length) Slot.unset).toArray = ls at hl ⊢
    have hl : lv_has ls 4 [(0, .ref t1), (1, .int p1), (2, .int p2)] := hl
    refine lv_aload_n hx hb dX6_same_0 rfl (lv_at hl 0 rfl) ?_
    refine lv_iload_n hx hb dX6_same_1 rfl (lv_at hl 1 rfl) ?_
    obtain ⟨q_1, hq_1, hm⟩ := bind_some hm
    have hFc := va_free (wc := [(t1, .inr (8, [.ref ta0, .ref ta1, .ref ta2, .ref ta3, .ref ta4, .ref ta5, .ref ta6, .ref ta7, .ref ta8, .int mm])), (ta0, .inl (cyA G 0, 32768, .inl (tf0)))]) hD hS hA [0, 1] rfl
    refine va_calli (va_runV (As := [.int p1]) (rest := []) ⟨hx, hb, hml, hown, hts⟩ (k_X9_kindOf l hfl G t1 p1 ta0 ta1 ta2 ta3 ta4 ta5 ta6 ta7 ta8 mm tf0 q_1 hq_1 H.size) (cwV 1 hts (gV wm455 wm435 wm436 wm2 wm437) rfl rfl rfl (by decide +kernel) ⟨(by show 1 ≤ 1 + (d + 1); omega), (by show 21 ≤ 21 + (d + 1) * 23; omega)⟩) (pre_v (pre_s hK hP hD hS hE [0, 1] rfl rfl (by decide) hFc) (va_recv hK hP (ci := 8) (q0 := 0) rfl rfl)) rfl rfl hl.1 rfl (lv_room (Nat.le_of_ble_eq_true rfl)) dX6_same_2 ⟨Nat.le_of_ble_eq_true rfl, Nat.le_of_ble_eq_true rfl⟩) hS (fun q _ h => hFc q h) hFc (fun r u t H locs ht hvm hw hB hz1 hk1 hS => ?_)
    rw [show r = q_1 from hw]
    obtain ⟨hP1, hD1⟩ := hB
    rw [ht] at hP1
    obtain ⟨hP, hD⟩ := va_join (wr := [(ta1, .inl (cyA G 0, 32768, .inl (tf1))), (ta2, .inl (cyA G 0, 32768, .inl (tf2))), (ta3, .inl (cyA G 0, 32768, .inl (tf3))), (ta4, .inl (cyA G 0, 32768, .inl (tf4)))]) (w1 := [(t1, .inr (8, [.ref ta0, .ref ta1, .ref ta2, .ref ta3, .ref ta4, .ref ta5, .ref ta6, .ref ta7, .ref ta8, .int mm])), (ta0, .inl (cyA G 0, 32768, .inl (tf0)))]) hP hD [0, 1] [2, 3, 4, 5] rfl rfl (by decide) (by decide) hk1 hFc hP1 hD1
    have hP : va_P (DG G) clP3 [(ta1, .inl (cyA G 0, 32768, .inl (tf1))), (ta2, .inl (cyA G 0, 32768, .inl (tf2))), (ta3, .inl (cyA G 0, 32768, .inl (tf3))), (ta4, .inl (cyA G 0, 32768, .inl (tf4))), (t1, .inr (8, [.ref ta0, .ref ta1, .ref ta2, .ref ta3, .ref ta4, .ref ta5, .ref ta6, .ref ta7, .ref ta8, .int mm])), (ta0, .inl (cyA G 0, 32768, .inl (tf0)))] H := hP
    have hD : va_D A [(ta1, .inl (cyA G 0, 32768, .inl (tf1))), (ta2, .inl (cyA G 0, 32768, .inl (tf2))), (ta3, .inl (cyA G 0, 32768, .inl (tf3))), (ta4, .inl (cyA G 0, 32768, .inl (tf4))), (t1, .inr (8, [.ref ta0, .ref ta1, .ref ta2, .ref ta3, .ref ta4, .ref ta5, .ref ta6, .ref ta7, .ref ta8, .int mm])), (ta0, .inl (cyA G 0, 32768, .inl (tf0)))] := hD
    refine W.widen (k := 0) (n := 0) (Nat.le_of_ble_eq_true rfl) (Nat.le_of_ble_eq_true rfl) ?_
    refine lv_istore_n (lv' := [(3, .int q_1), (0, .ref t1), (1, .int p1), (2, .int p2)]) hx hb dX6_same_5 rfl hl (by decide) rfl (fun ls hl => ?_)
    refine lv_iload_n hx hb dX6_same_6 rfl (lv_at hl 0 rfl) ?_
    refine lv_iconst (v := (-1)) hx hb dX6_same_7 (by decide) ?_
    refine lv_icmp_eq (tgt := 46) hx hb dX6_same_8 (by decide) (fun c_2 => ?_) (fun c_2 => ?_)
    · rw [if_pos c_2] at hm
      refine lv_iconst (v := 0) hx hb dX6_same_46 (by decide) ?_
      obtain rfl := Option.some.inj hm
      have hP9 := hP.sub (ws' := [(t1, .inr (8, [.ref ta0, .ref ta1, .ref ta2, .ref ta3, .ref ta4, .ref ta5, .ref ta6, .ref ta7, .ref ta8, .int mm])), (ta0, .inl (cyA G 0, 32768, .inl (tf0))), (ta1, .inl (cyA G 0, 32768, .inl (tf1))), (ta2, .inl (cyA G 0, 32768, .inl (tf2))), (ta3, .inl (cyA G 0, 32768, .inl (tf3))), (ta4, .inl (cyA G 0, 32768, .inl (tf4)))]) [4, 5, 0, 1, 2, 3] rfl
      have hD9 := hD.sub (ws' := [(t1, .inr (8, [.ref ta0, .ref ta1, .ref ta2, .ref ta3, .ref ta4, .ref ta5, .ref ta6, .ref ta7, .ref ta8, .int mm])), (ta0, .inl (cyA G 0, 32768, .inl (tf0))), (ta1, .inl (cyA G 0, 32768, .inl (tf1))), (ta2, .inl (cyA G 0, 32768, .inl (tf2))), (ta3, .inl (cyA G 0, 32768, .inl (tf3))), (ta4, .inl (cyA G 0, 32768, .inl (tf4)))]) [4, 5, 0, 1, 2, 3] (by decide) rfl
      refine W.widen (k := 0) (n := 0) (Nat.le_of_ble_eq_true rfl) (Nat.le_of_ble_eq_true rfl) ?_
      exact W.zret (v := 0) (ty := .boolean) hx hb hr (by decide) (fun t ht hW => ⟨⟨0, (), rfl, rfl, ⟨by rw [ht]; exact hP9, hD9⟩⟩, hS.F ht⟩) hS.2.2 dX6_same_47 hlocks
    · rw [if_neg c_2] at hm
      refine lv_iload_n hx hb dX6_same_11 rfl (lv_at hl 0 rfl) ?_
      refine lv_aload_n hx hb dX6_same_12 rfl (lv_at hl 1 rfl) ?_
      refine lv_iload_n hx hb dX6_same_13 rfl (lv_at hl 3 rfl) ?_
      obtain ⟨q_3, hq_3, hm⟩ := bind_some hm
      have hFc := va_free (wc := [(t1, .inr (8, [.ref ta0, .ref ta1, .ref ta2, .ref ta3, .ref ta4, .ref ta5, .ref ta6, .ref ta7, .ref ta8, .int mm])), (ta0, .inl (cyA G 0, 32768, .inl (tf0)))]) hD hS hA [4, 5] rfl
      refine va_calli (va_runV (As := [.int p2]) (rest := [.int q_1]) ⟨hx, hb, hml, hown, hts⟩ (k_X9_kindOf l hfl G t1 p2 ta0 ta1 ta2 ta3 ta4 ta5 ta6 ta7 ta8 mm tf0 q_3 hq_3 H.size) (cwV 1 hts (gV wm455 wm435 wm436 wm2 wm437) rfl rfl rfl (by decide +kernel) ⟨(by show 1 ≤ 1 + (d + 1); omega), (by show 21 ≤ 21 + (d + 1) * 23; omega)⟩) (pre_v (pre_s hK hP hD hS hE [4, 5] rfl rfl (by decide) hFc) (va_recv hK hP (ci := 8) (q0 := 4) rfl rfl)) rfl rfl hl.1 rfl (lv_room (Nat.le_of_ble_eq_true rfl)) dX6_same_14 ⟨Nat.le_of_ble_eq_true rfl, Nat.le_of_ble_eq_true rfl⟩) hS (fun q _ h => hFc q h) hFc (fun r u t H locs ht hvm hw hB hz1 hk1 hS => ?_)
      rw [show r = q_3 from hw]
      obtain ⟨hP1, hD1⟩ := hB
      rw [ht] at hP1
      obtain ⟨hP, hD⟩ := va_join (wr := [(ta1, .inl (cyA G 0, 32768, .inl (tf1))), (ta2, .inl (cyA G 0, 32768, .inl (tf2))), (ta3, .inl (cyA G 0, 32768, .inl (tf3))), (ta4, .inl (cyA G 0, 32768, .inl (tf4)))]) (w1 := [(t1, .inr (8, [.ref ta0, .ref ta1, .ref ta2, .ref ta3, .ref ta4, .ref ta5, .ref ta6, .ref ta7, .ref ta8, .int mm])), (ta0, .inl (cyA G 0, 32768, .inl (tf0)))]) hP hD [4, 5] [0, 1, 2, 3] rfl rfl (by decide) (by decide) hk1 hFc hP1 hD1
      have hP : va_P (DG G) clP3 [(ta1, .inl (cyA G 0, 32768, .inl (tf1))), (ta2, .inl (cyA G 0, 32768, .inl (tf2))), (ta3, .inl (cyA G 0, 32768, .inl (tf3))), (ta4, .inl (cyA G 0, 32768, .inl (tf4))), (t1, .inr (8, [.ref ta0, .ref ta1, .ref ta2, .ref ta3, .ref ta4, .ref ta5, .ref ta6, .ref ta7, .ref ta8, .int mm])), (ta0, .inl (cyA G 0, 32768, .inl (tf0)))] H := hP
      have hD : va_D A [(ta1, .inl (cyA G 0, 32768, .inl (tf1))), (ta2, .inl (cyA G 0, 32768, .inl (tf2))), (ta3, .inl (cyA G 0, 32768, .inl (tf3))), (ta4, .inl (cyA G 0, 32768, .inl (tf4))), (t1, .inr (8, [.ref ta0, .ref ta1, .ref ta2, .ref ta3, .ref ta4, .ref ta5, .ref ta6, .ref ta7, .ref ta8, .int mm])), (ta0, .inl (cyA G 0, 32768, .inl (tf0)))] := hD
      refine W.widen (k := 0) (n := 0) (Nat.le_of_ble_eq_true rfl) (Nat.le_of_ble_eq_true rfl) ?_
      refine lv_icmp_ne (tgt := 46) hx hb dX6_same_17 (by decide) (fun c_4 => ?_) (fun c_4 => ?_)
      · rw [if_neg c_4] at hm
        refine lv_iconst (v := 0) hx hb dX6_same_46 (by decide) ?_
        obtain rfl := Option.some.inj hm
        have hP9 := hP.sub (ws' := [(t1, .inr (8, [.ref ta0, .ref ta1, .ref ta2, .ref ta3, .ref ta4, .ref ta5, .ref ta6, .ref ta7, .ref ta8, .int mm])), (ta0, .inl (cyA G 0, 32768, .inl (tf0))), (ta1, .inl (cyA G 0, 32768, .inl (tf1))), (ta2, .inl (cyA G 0, 32768, .inl (tf2))), (ta3, .inl (cyA G 0, 32768, .inl (tf3))), (ta4, .inl (cyA G 0, 32768, .inl (tf4)))]) [4, 5, 0, 1, 2, 3] rfl
        have hD9 := hD.sub (ws' := [(t1, .inr (8, [.ref ta0, .ref ta1, .ref ta2, .ref ta3, .ref ta4, .ref ta5, .ref ta6, .ref ta7, .ref ta8, .int mm])), (ta0, .inl (cyA G 0, 32768, .inl (tf0))), (ta1, .inl (cyA G 0, 32768, .inl (tf1))), (ta2, .inl (cyA G 0, 32768, .inl (tf2))), (ta3, .inl (cyA G 0, 32768, .inl (tf3))), (ta4, .inl (cyA G 0, 32768, .inl (tf4)))]) [4, 5, 0, 1, 2, 3] (by decide) rfl
        refine W.widen (k := 0) (n := 0) (Nat.le_of_ble_eq_true rfl) (Nat.le_of_ble_eq_true rfl) ?_
        exact W.zret (v := 0) (ty := .boolean) hx hb hr (by decide) (fun t ht hW => ⟨⟨0, (), rfl, rfl, ⟨by rw [ht]; exact hP9, hD9⟩⟩, hS.F ht⟩) hS.2.2 dX6_same_47 hlocks
      · rw [if_pos c_4] at hm
        refine lv_aload_n hx hb dX6_same_20 rfl (lv_at hl 1 rfl) ?_
        refine lv_iload_n hx hb dX6_same_21 rfl (lv_at hl 2 rfl) ?_
        obtain ⟨q_5, hq_5, hm⟩ := bind_some hm
        have hFc := va_free (wc := [(t1, .inr (8, [.ref ta0, .ref ta1, .ref ta2, .ref ta3, .ref ta4, .ref ta5, .ref ta6, .ref ta7, .ref ta8, .int mm])), (ta4, .inl (cyA G 0, 32768, .inl (tf4)))]) hD hS hA [4, 3] rfl
        refine va_calli (va_runV (As := [.int p1]) (rest := []) ⟨hx, hb, hml, hown, hts⟩ (k_X9_numberOf l hfl G t1 p1 ta0 ta1 ta2 ta3 ta4 ta5 ta6 ta7 ta8 mm tf4 q_5 hq_5 H.size) (cwV 1 hts (gV wm558 wm403 wm404 wm2 wm405) rfl rfl rfl (by decide +kernel) ⟨(by show 1 ≤ 1 + (d + 1); omega), (by show 21 ≤ 21 + (d + 1) * 23; omega)⟩) (pre_v (pre_s hK hP hD hS hE [4, 3] rfl rfl (by decide) hFc) (va_recv hK hP (ci := 8) (q0 := 4) rfl rfl)) rfl rfl hl.1 rfl (lv_room (Nat.le_of_ble_eq_true rfl)) dX6_same_22 ⟨Nat.le_of_ble_eq_true rfl, Nat.le_of_ble_eq_true rfl⟩) hS (fun q _ h => hFc q h) hFc (fun r u t H locs ht hvm hw hB hz1 hk1 hS => ?_)
        rw [show r = q_5 from hw]
        obtain ⟨hP1, hD1⟩ := hB
        rw [ht] at hP1
        obtain ⟨hP, hD⟩ := va_join (wr := [(ta1, .inl (cyA G 0, 32768, .inl (tf1))), (ta2, .inl (cyA G 0, 32768, .inl (tf2))), (ta3, .inl (cyA G 0, 32768, .inl (tf3))), (ta0, .inl (cyA G 0, 32768, .inl (tf0)))]) (w1 := [(t1, .inr (8, [.ref ta0, .ref ta1, .ref ta2, .ref ta3, .ref ta4, .ref ta5, .ref ta6, .ref ta7, .ref ta8, .int mm])), (ta4, .inl (cyA G 0, 32768, .inl (tf4)))]) hP hD [4, 3] [0, 1, 2, 5] rfl rfl (by decide) (by decide) hk1 hFc hP1 hD1
        have hP : va_P (DG G) clP3 [(ta1, .inl (cyA G 0, 32768, .inl (tf1))), (ta2, .inl (cyA G 0, 32768, .inl (tf2))), (ta3, .inl (cyA G 0, 32768, .inl (tf3))), (ta0, .inl (cyA G 0, 32768, .inl (tf0))), (t1, .inr (8, [.ref ta0, .ref ta1, .ref ta2, .ref ta3, .ref ta4, .ref ta5, .ref ta6, .ref ta7, .ref ta8, .int mm])), (ta4, .inl (cyA G 0, 32768, .inl (tf4)))] H := hP
        have hD : va_D A [(ta1, .inl (cyA G 0, 32768, .inl (tf1))), (ta2, .inl (cyA G 0, 32768, .inl (tf2))), (ta3, .inl (cyA G 0, 32768, .inl (tf3))), (ta0, .inl (cyA G 0, 32768, .inl (tf0))), (t1, .inr (8, [.ref ta0, .ref ta1, .ref ta2, .ref ta3, .ref ta4, .ref ta5, .ref ta6, .ref ta7, .ref ta8, .int mm])), (ta4, .inl (cyA G 0, 32768, .inl (tf4)))] := hD
        refine W.widen (k := 0) (n := 0) (Nat.le_of_ble_eq_true rfl) (Nat.le_of_ble_eq_true rfl) ?_
        refine lv_aload_n hx hb dX6_same_25 rfl (lv_at hl 1 rfl) ?_
        refine lv_iload_n hx hb dX6_same_26 rfl (lv_at hl 3 rfl) ?_
        obtain ⟨q_6, hq_6, hm⟩ := bind_some hm
        have hFc := va_free (wc := [(t1, .inr (8, [.ref ta0, .ref ta1, .ref ta2, .ref ta3, .ref ta4, .ref ta5, .ref ta6, .ref ta7, .ref ta8, .int mm])), (ta4, .inl (cyA G 0, 32768, .inl (tf4)))]) hD hS hA [4, 5] rfl
        refine va_calli (va_runV (As := [.int p2]) (rest := [.int q_5]) ⟨hx, hb, hml, hown, hts⟩ (k_X9_numberOf l hfl G t1 p2 ta0 ta1 ta2 ta3 ta4 ta5 ta6 ta7 ta8 mm tf4 q_6 hq_6 H.size) (cwV 1 hts (gV wm558 wm403 wm404 wm2 wm405) rfl rfl rfl (by decide +kernel) ⟨(by show 1 ≤ 1 + (d + 1); omega), (by show 21 ≤ 21 + (d + 1) * 23; omega)⟩) (pre_v (pre_s hK hP hD hS hE [4, 5] rfl rfl (by decide) hFc) (va_recv hK hP (ci := 8) (q0 := 4) rfl rfl)) rfl rfl hl.1 rfl (lv_room (Nat.le_of_ble_eq_true rfl)) dX6_same_27 ⟨Nat.le_of_ble_eq_true rfl, Nat.le_of_ble_eq_true rfl⟩) hS (fun q _ h => hFc q h) hFc (fun r u t H locs ht hvm hw hB hz1 hk1 hS => ?_)
        rw [show r = q_6 from hw]
        obtain ⟨hP1, hD1⟩ := hB
        rw [ht] at hP1
        obtain ⟨hP, hD⟩ := va_join (wr := [(ta1, .inl (cyA G 0, 32768, .inl (tf1))), (ta2, .inl (cyA G 0, 32768, .inl (tf2))), (ta3, .inl (cyA G 0, 32768, .inl (tf3))), (ta0, .inl (cyA G 0, 32768, .inl (tf0)))]) (w1 := [(t1, .inr (8, [.ref ta0, .ref ta1, .ref ta2, .ref ta3, .ref ta4, .ref ta5, .ref ta6, .ref ta7, .ref ta8, .int mm])), (ta4, .inl (cyA G 0, 32768, .inl (tf4)))]) hP hD [4, 5] [0, 1, 2, 3] rfl rfl (by decide) (by decide) hk1 hFc hP1 hD1
        have hP : va_P (DG G) clP3 [(ta1, .inl (cyA G 0, 32768, .inl (tf1))), (ta2, .inl (cyA G 0, 32768, .inl (tf2))), (ta3, .inl (cyA G 0, 32768, .inl (tf3))), (ta0, .inl (cyA G 0, 32768, .inl (tf0))), (t1, .inr (8, [.ref ta0, .ref ta1, .ref ta2, .ref ta3, .ref ta4, .ref ta5, .ref ta6, .ref ta7, .ref ta8, .int mm])), (ta4, .inl (cyA G 0, 32768, .inl (tf4)))] H := hP
        have hD : va_D A [(ta1, .inl (cyA G 0, 32768, .inl (tf1))), (ta2, .inl (cyA G 0, 32768, .inl (tf2))), (ta3, .inl (cyA G 0, 32768, .inl (tf3))), (ta0, .inl (cyA G 0, 32768, .inl (tf0))), (t1, .inr (8, [.ref ta0, .ref ta1, .ref ta2, .ref ta3, .ref ta4, .ref ta5, .ref ta6, .ref ta7, .ref ta8, .int mm])), (ta4, .inl (cyA G 0, 32768, .inl (tf4)))] := hD
        refine W.widen (k := 0) (n := 0) (Nat.le_of_ble_eq_true rfl) (Nat.le_of_ble_eq_true rfl) ?_
        refine lv_icmp_ne (tgt := 46) hx hb dX6_same_30 (by decide) (fun c_7 => ?_) (fun c_7 => ?_)
        · rw [if_neg c_7] at hm
          refine lv_iconst (v := 0) hx hb dX6_same_46 (by decide) ?_
          obtain rfl := Option.some.inj hm
          have hP9 := hP.sub (ws' := [(t1, .inr (8, [.ref ta0, .ref ta1, .ref ta2, .ref ta3, .ref ta4, .ref ta5, .ref ta6, .ref ta7, .ref ta8, .int mm])), (ta0, .inl (cyA G 0, 32768, .inl (tf0))), (ta1, .inl (cyA G 0, 32768, .inl (tf1))), (ta2, .inl (cyA G 0, 32768, .inl (tf2))), (ta3, .inl (cyA G 0, 32768, .inl (tf3))), (ta4, .inl (cyA G 0, 32768, .inl (tf4)))]) [4, 3, 0, 1, 2, 5] rfl
          have hD9 := hD.sub (ws' := [(t1, .inr (8, [.ref ta0, .ref ta1, .ref ta2, .ref ta3, .ref ta4, .ref ta5, .ref ta6, .ref ta7, .ref ta8, .int mm])), (ta0, .inl (cyA G 0, 32768, .inl (tf0))), (ta1, .inl (cyA G 0, 32768, .inl (tf1))), (ta2, .inl (cyA G 0, 32768, .inl (tf2))), (ta3, .inl (cyA G 0, 32768, .inl (tf3))), (ta4, .inl (cyA G 0, 32768, .inl (tf4)))]) [4, 3, 0, 1, 2, 5] (by decide) rfl
          refine W.widen (k := 0) (n := 0) (Nat.le_of_ble_eq_true rfl) (Nat.le_of_ble_eq_true rfl) ?_
          exact W.zret (v := 0) (ty := .boolean) hx hb hr (by decide) (fun t ht hW => ⟨⟨0, (), rfl, rfl, ⟨by rw [ht]; exact hP9, hD9⟩⟩, hS.F ht⟩) hS.2.2 dX6_same_47 hlocks
        · rw [if_pos c_7] at hm
          refine lv_aload_n hx hb dX6_same_33 rfl (lv_at hl 1 rfl) ?_
          refine lv_iload_n hx hb dX6_same_34 rfl (lv_at hl 2 rfl) ?_
          obtain ⟨q_8, hq_8, hm⟩ := bind_some hm
          have hFc := va_free (wc := [(t1, .inr (8, [.ref ta0, .ref ta1, .ref ta2, .ref ta3, .ref ta4, .ref ta5, .ref ta6, .ref ta7, .ref ta8, .int mm])), (ta3, .inl (cyA G 0, 32768, .inl (tf3)))]) hD hS hA [4, 2] rfl
          refine va_calli (va_runV (As := [.int p1]) (rest := []) ⟨hx, hb, hml, hown, hts⟩ (k_X9_sizeOf l hfl G t1 p1 ta0 ta1 ta2 ta3 ta4 ta5 ta6 ta7 ta8 mm tf3 q_8 hq_8 H.size) (cwV 1 hts (gV wm559 wm395 wm396 wm2 wm397) rfl rfl rfl (by decide +kernel) ⟨(by show 1 ≤ 1 + (d + 1); omega), (by show 21 ≤ 21 + (d + 1) * 23; omega)⟩) (pre_v (pre_s hK hP hD hS hE [4, 2] rfl rfl (by decide) hFc) (va_recv hK hP (ci := 8) (q0 := 4) rfl rfl)) rfl rfl hl.1 rfl (lv_room (Nat.le_of_ble_eq_true rfl)) dX6_same_35 ⟨Nat.le_of_ble_eq_true rfl, Nat.le_of_ble_eq_true rfl⟩) hS (fun q _ h => hFc q h) hFc (fun r u t H locs ht hvm hw hB hz1 hk1 hS => ?_)
          rw [show r = q_8 from hw]
          obtain ⟨hP1, hD1⟩ := hB
          rw [ht] at hP1
          obtain ⟨hP, hD⟩ := va_join (wr := [(ta1, .inl (cyA G 0, 32768, .inl (tf1))), (ta2, .inl (cyA G 0, 32768, .inl (tf2))), (ta0, .inl (cyA G 0, 32768, .inl (tf0))), (ta4, .inl (cyA G 0, 32768, .inl (tf4)))]) (w1 := [(t1, .inr (8, [.ref ta0, .ref ta1, .ref ta2, .ref ta3, .ref ta4, .ref ta5, .ref ta6, .ref ta7, .ref ta8, .int mm])), (ta3, .inl (cyA G 0, 32768, .inl (tf3)))]) hP hD [4, 2] [0, 1, 3, 5] rfl rfl (by decide) (by decide) hk1 hFc hP1 hD1
          have hP : va_P (DG G) clP3 [(ta1, .inl (cyA G 0, 32768, .inl (tf1))), (ta2, .inl (cyA G 0, 32768, .inl (tf2))), (ta0, .inl (cyA G 0, 32768, .inl (tf0))), (ta4, .inl (cyA G 0, 32768, .inl (tf4))), (t1, .inr (8, [.ref ta0, .ref ta1, .ref ta2, .ref ta3, .ref ta4, .ref ta5, .ref ta6, .ref ta7, .ref ta8, .int mm])), (ta3, .inl (cyA G 0, 32768, .inl (tf3)))] H := hP
          have hD : va_D A [(ta1, .inl (cyA G 0, 32768, .inl (tf1))), (ta2, .inl (cyA G 0, 32768, .inl (tf2))), (ta0, .inl (cyA G 0, 32768, .inl (tf0))), (ta4, .inl (cyA G 0, 32768, .inl (tf4))), (t1, .inr (8, [.ref ta0, .ref ta1, .ref ta2, .ref ta3, .ref ta4, .ref ta5, .ref ta6, .ref ta7, .ref ta8, .int mm])), (ta3, .inl (cyA G 0, 32768, .inl (tf3)))] := hD
          refine W.widen (k := 0) (n := 0) (Nat.le_of_ble_eq_true rfl) (Nat.le_of_ble_eq_true rfl) ?_
          refine lv_aload_n hx hb dX6_same_38 rfl (lv_at hl 1 rfl) ?_
          refine lv_iload_n hx hb dX6_same_39 rfl (lv_at hl 3 rfl) ?_
          obtain ⟨q_9, hq_9, hm⟩ := bind_some hm
          have hFc := va_free (wc := [(t1, .inr (8, [.ref ta0, .ref ta1, .ref ta2, .ref ta3, .ref ta4, .ref ta5, .ref ta6, .ref ta7, .ref ta8, .int mm])), (ta3, .inl (cyA G 0, 32768, .inl (tf3)))]) hD hS hA [4, 5] rfl
          refine va_calli (va_runV (As := [.int p2]) (rest := [.int q_8]) ⟨hx, hb, hml, hown, hts⟩ (k_X9_sizeOf l hfl G t1 p2 ta0 ta1 ta2 ta3 ta4 ta5 ta6 ta7 ta8 mm tf3 q_9 hq_9 H.size) (cwV 1 hts (gV wm559 wm395 wm396 wm2 wm397) rfl rfl rfl (by decide +kernel) ⟨(by show 1 ≤ 1 + (d + 1); omega), (by show 21 ≤ 21 + (d + 1) * 23; omega)⟩) (pre_v (pre_s hK hP hD hS hE [4, 5] rfl rfl (by decide) hFc) (va_recv hK hP (ci := 8) (q0 := 4) rfl rfl)) rfl rfl hl.1 rfl (lv_room (Nat.le_of_ble_eq_true rfl)) dX6_same_40 ⟨Nat.le_of_ble_eq_true rfl, Nat.le_of_ble_eq_true rfl⟩) hS (fun q _ h => hFc q h) hFc (fun r u t H locs ht hvm hw hB hz1 hk1 hS => ?_)
          rw [show r = q_9 from hw]
          obtain ⟨hP1, hD1⟩ := hB
          rw [ht] at hP1
          obtain ⟨hP, hD⟩ := va_join (wr := [(ta1, .inl (cyA G 0, 32768, .inl (tf1))), (ta2, .inl (cyA G 0, 32768, .inl (tf2))), (ta0, .inl (cyA G 0, 32768, .inl (tf0))), (ta4, .inl (cyA G 0, 32768, .inl (tf4)))]) (w1 := [(t1, .inr (8, [.ref ta0, .ref ta1, .ref ta2, .ref ta3, .ref ta4, .ref ta5, .ref ta6, .ref ta7, .ref ta8, .int mm])), (ta3, .inl (cyA G 0, 32768, .inl (tf3)))]) hP hD [4, 5] [0, 1, 2, 3] rfl rfl (by decide) (by decide) hk1 hFc hP1 hD1
          have hP : va_P (DG G) clP3 [(ta1, .inl (cyA G 0, 32768, .inl (tf1))), (ta2, .inl (cyA G 0, 32768, .inl (tf2))), (ta0, .inl (cyA G 0, 32768, .inl (tf0))), (ta4, .inl (cyA G 0, 32768, .inl (tf4))), (t1, .inr (8, [.ref ta0, .ref ta1, .ref ta2, .ref ta3, .ref ta4, .ref ta5, .ref ta6, .ref ta7, .ref ta8, .int mm])), (ta3, .inl (cyA G 0, 32768, .inl (tf3)))] H := hP
          have hD : va_D A [(ta1, .inl (cyA G 0, 32768, .inl (tf1))), (ta2, .inl (cyA G 0, 32768, .inl (tf2))), (ta0, .inl (cyA G 0, 32768, .inl (tf0))), (ta4, .inl (cyA G 0, 32768, .inl (tf4))), (t1, .inr (8, [.ref ta0, .ref ta1, .ref ta2, .ref ta3, .ref ta4, .ref ta5, .ref ta6, .ref ta7, .ref ta8, .int mm])), (ta3, .inl (cyA G 0, 32768, .inl (tf3)))] := hD
          refine W.widen (k := 0) (n := 0) (Nat.le_of_ble_eq_true rfl) (Nat.le_of_ble_eq_true rfl) ?_
          refine lv_icmp_eq (tgt := 48) hx hb dX6_same_43 (by decide) (fun c_10 => ?_) (fun c_10 => ?_)
          · rw [if_pos c_10] at hm
            refine lv_iload_n hx hb dX6_same_48 rfl (lv_at hl 2 rfl) ?_
            refine lv_iload_n hx hb dX6_same_49 rfl (lv_at hl 3 rfl) ?_
            refine lv_icmp_ne (tgt := 55) hx hb dX6_same_50 (by decide) (fun c_11 => ?_) (fun c_11 => ?_)
            · rw [if_neg c_11] at hm
              refine lv_iload_n hx hb dX6_same_55 rfl (lv_at hl 0 rfl) ?_
              refine lv_iconst (v := 5) hx hb dX6_same_56 (by decide) ?_
              refine lv_icmp_ge (tgt := 79) hx hb dX6_same_57 (by decide) (fun c_12 => ?_) (fun c_12 => ?_)
              · rw [if_pos c_12] at hm
                refine lv_aload_n hx hb dX6_same_79 rfl (lv_at hl 1 rfl) ?_
                refine lv_aload_n hx hb dX6_same_80 rfl (lv_at hl 1 rfl) ?_
                refine lv_iload_n hx hb dX6_same_81 rfl (lv_at hl 2 rfl) ?_
                obtain ⟨q_13, hq_13, hm⟩ := bind_some hm
                have hFc := va_free (wc := [(t1, .inr (8, [.ref ta0, .ref ta1, .ref ta2, .ref ta3, .ref ta4, .ref ta5, .ref ta6, .ref ta7, .ref ta8, .int mm])), (ta1, .inl (cyA G 0, 32768, .inl (tf1)))]) hD hS hA [4, 0] rfl
                refine va_calli (va_runV (As := [.int p1]) (rest := [.ref t1]) ⟨hx, hb, hml, hown, hts⟩ (k_X9_firstOf l hfl G t1 p1 ta0 ta1 ta2 ta3 ta4 ta5 ta6 ta7 ta8 mm tf1 q_13 hq_13 H.size) (cwV 1 hts (gV wm456 wm431 wm432 wm2 wm433) rfl rfl rfl (by decide +kernel) ⟨(by show 1 ≤ 1 + (d + 1); omega), (by show 21 ≤ 21 + (d + 1) * 23; omega)⟩) (pre_v (pre_s hK hP hD hS hE [4, 0] rfl rfl (by decide) hFc) (va_recv hK hP (ci := 8) (q0 := 4) rfl rfl)) rfl rfl hl.1 rfl (lv_room (Nat.le_of_ble_eq_true rfl)) dX6_same_82 ⟨Nat.le_of_ble_eq_true rfl, Nat.le_of_ble_eq_true rfl⟩) hS (fun q _ h => hFc q h) hFc (fun r u t H locs ht hvm hw hB hz1 hk1 hS => ?_)
                rw [show r = q_13 from hw]
                obtain ⟨hP1, hD1⟩ := hB
                rw [ht] at hP1
                obtain ⟨hP, hD⟩ := va_join (wr := [(ta2, .inl (cyA G 0, 32768, .inl (tf2))), (ta0, .inl (cyA G 0, 32768, .inl (tf0))), (ta4, .inl (cyA G 0, 32768, .inl (tf4))), (ta3, .inl (cyA G 0, 32768, .inl (tf3)))]) (w1 := [(t1, .inr (8, [.ref ta0, .ref ta1, .ref ta2, .ref ta3, .ref ta4, .ref ta5, .ref ta6, .ref ta7, .ref ta8, .int mm])), (ta1, .inl (cyA G 0, 32768, .inl (tf1)))]) hP hD [4, 0] [1, 2, 3, 5] rfl rfl (by decide) (by decide) hk1 hFc hP1 hD1
                have hP : va_P (DG G) clP3 [(ta2, .inl (cyA G 0, 32768, .inl (tf2))), (ta0, .inl (cyA G 0, 32768, .inl (tf0))), (ta4, .inl (cyA G 0, 32768, .inl (tf4))), (ta3, .inl (cyA G 0, 32768, .inl (tf3))), (t1, .inr (8, [.ref ta0, .ref ta1, .ref ta2, .ref ta3, .ref ta4, .ref ta5, .ref ta6, .ref ta7, .ref ta8, .int mm])), (ta1, .inl (cyA G 0, 32768, .inl (tf1)))] H := hP
                have hD : va_D A [(ta2, .inl (cyA G 0, 32768, .inl (tf2))), (ta0, .inl (cyA G 0, 32768, .inl (tf0))), (ta4, .inl (cyA G 0, 32768, .inl (tf4))), (ta3, .inl (cyA G 0, 32768, .inl (tf3))), (t1, .inr (8, [.ref ta0, .ref ta1, .ref ta2, .ref ta3, .ref ta4, .ref ta5, .ref ta6, .ref ta7, .ref ta8, .int mm])), (ta1, .inl (cyA G 0, 32768, .inl (tf1)))] := hD
                refine W.widen (k := 0) (n := 0) (Nat.le_of_ble_eq_true rfl) (Nat.le_of_ble_eq_true rfl) ?_
                refine lv_aload_n hx hb dX6_same_85 rfl (lv_at hl 1 rfl) ?_
                refine lv_iload_n hx hb dX6_same_86 rfl (lv_at hl 3 rfl) ?_
                obtain ⟨q_14, hq_14, hm⟩ := bind_some hm
                have hFc := va_free (wc := [(t1, .inr (8, [.ref ta0, .ref ta1, .ref ta2, .ref ta3, .ref ta4, .ref ta5, .ref ta6, .ref ta7, .ref ta8, .int mm])), (ta1, .inl (cyA G 0, 32768, .inl (tf1)))]) hD hS hA [4, 5] rfl
                refine va_calli (va_runV (As := [.int p2]) (rest := [.int q_13, .ref t1]) ⟨hx, hb, hml, hown, hts⟩ (k_X9_firstOf l hfl G t1 p2 ta0 ta1 ta2 ta3 ta4 ta5 ta6 ta7 ta8 mm tf1 q_14 hq_14 H.size) (cwV 1 hts (gV wm456 wm431 wm432 wm2 wm433) rfl rfl rfl (by decide +kernel) ⟨(by show 1 ≤ 1 + (d + 1); omega), (by show 21 ≤ 21 + (d + 1) * 23; omega)⟩) (pre_v (pre_s hK hP hD hS hE [4, 5] rfl rfl (by decide) hFc) (va_recv hK hP (ci := 8) (q0 := 4) rfl rfl)) rfl rfl hl.1 rfl (lv_room (Nat.le_of_ble_eq_true rfl)) dX6_same_87 ⟨Nat.le_of_ble_eq_true rfl, Nat.le_of_ble_eq_true rfl⟩) hS (fun q _ h => hFc q h) hFc (fun r u t H locs ht hvm hw hB hz1 hk1 hS => ?_)
                rw [show r = q_14 from hw]
                obtain ⟨hP1, hD1⟩ := hB
                rw [ht] at hP1
                obtain ⟨hP, hD⟩ := va_join (wr := [(ta2, .inl (cyA G 0, 32768, .inl (tf2))), (ta0, .inl (cyA G 0, 32768, .inl (tf0))), (ta4, .inl (cyA G 0, 32768, .inl (tf4))), (ta3, .inl (cyA G 0, 32768, .inl (tf3)))]) (w1 := [(t1, .inr (8, [.ref ta0, .ref ta1, .ref ta2, .ref ta3, .ref ta4, .ref ta5, .ref ta6, .ref ta7, .ref ta8, .int mm])), (ta1, .inl (cyA G 0, 32768, .inl (tf1)))]) hP hD [4, 5] [0, 1, 2, 3] rfl rfl (by decide) (by decide) hk1 hFc hP1 hD1
                have hP : va_P (DG G) clP3 [(ta2, .inl (cyA G 0, 32768, .inl (tf2))), (ta0, .inl (cyA G 0, 32768, .inl (tf0))), (ta4, .inl (cyA G 0, 32768, .inl (tf4))), (ta3, .inl (cyA G 0, 32768, .inl (tf3))), (t1, .inr (8, [.ref ta0, .ref ta1, .ref ta2, .ref ta3, .ref ta4, .ref ta5, .ref ta6, .ref ta7, .ref ta8, .int mm])), (ta1, .inl (cyA G 0, 32768, .inl (tf1)))] H := hP
                have hD : va_D A [(ta2, .inl (cyA G 0, 32768, .inl (tf2))), (ta0, .inl (cyA G 0, 32768, .inl (tf0))), (ta4, .inl (cyA G 0, 32768, .inl (tf4))), (ta3, .inl (cyA G 0, 32768, .inl (tf3))), (t1, .inr (8, [.ref ta0, .ref ta1, .ref ta2, .ref ta3, .ref ta4, .ref ta5, .ref ta6, .ref ta7, .ref ta8, .int mm])), (ta1, .inl (cyA G 0, 32768, .inl (tf1)))] := hD
                refine W.widen (k := 0) (n := 0) (Nat.le_of_ble_eq_true rfl) (Nat.le_of_ble_eq_true rfl) ?_
                obtain ⟨q_15, hq_15, hm⟩ := bind_some hm
                have hFc := va_free (wc := [(t1, .inr (8, [.ref ta0, .ref ta1, .ref ta2, .ref ta3, .ref ta4, .ref ta5, .ref ta6, .ref ta7, .ref ta8, .int mm])), (ta0, .inl (cyA G 0, 32768, .inl (tf0))), (ta1, .inl (cyA G 0, 32768, .inl (tf1))), (ta2, .inl (cyA G 0, 32768, .inl (tf2))), (ta3, .inl (cyA G 0, 32768, .inl (tf3))), (ta4, .inl (cyA G 0, 32768, .inl (tf4)))]) hD hS hA [4, 1, 5, 0, 3, 2] rfl
                refine va_calli (va_runS (As := [.ref t1, .int q_13, .int q_14]) (rest := []) ⟨hx, hb, hml, hown, hts⟩ (ihd t1 q_13 q_14 ta0 ta1 ta2 ta3 ta4 ta5 ta6 ta7 ta8 mm tf0 tf1 tf2 tf3 tf4 q_15 hq_15 H.size) (cwS 3 hts (gS wm560 wm556 wm20 wm557) rfl rfl rfl (by decide +kernel) ⟨(by show 1 + d + 1 ≤ 1 + (d + 1); omega), (by show 8 + (4 + 11) + (21 + d * 23) ≤ 21 + (d + 1) * 23; omega)⟩) (pre_s hK hP hD hS hE [4, 1, 5, 0, 3, 2] rfl rfl (by decide) hFc) rfl rfl hl.1 rfl (lv_room (Nat.le_of_ble_eq_true rfl)) dX6_same_90 ⟨Nat.le_of_ble_eq_true rfl, Nat.le_of_ble_eq_true rfl⟩) hS (fun q _ h => hFc q h) hFc (fun r u t H locs ht hvm hw hB hz1 hk1 hS => ?_)
                rw [show r = q_15 from hw]
                obtain ⟨hP1, hD1⟩ := hB
                rw [ht] at hP1
                obtain ⟨hP, hD⟩ := va_join (wr := []) (w1 := [(t1, .inr (8, [.ref ta0, .ref ta1, .ref ta2, .ref ta3, .ref ta4, .ref ta5, .ref ta6, .ref ta7, .ref ta8, .int mm])), (ta0, .inl (cyA G 0, 32768, .inl (tf0))), (ta1, .inl (cyA G 0, 32768, .inl (tf1))), (ta2, .inl (cyA G 0, 32768, .inl (tf2))), (ta3, .inl (cyA G 0, 32768, .inl (tf3))), (ta4, .inl (cyA G 0, 32768, .inl (tf4)))]) hP hD [4, 1, 5, 0, 3, 2] [] rfl rfl (by decide) (by decide) hk1 hFc hP1 hD1
                have hP : va_P (DG G) clP3 [(t1, .inr (8, [.ref ta0, .ref ta1, .ref ta2, .ref ta3, .ref ta4, .ref ta5, .ref ta6, .ref ta7, .ref ta8, .int mm])), (ta0, .inl (cyA G 0, 32768, .inl (tf0))), (ta1, .inl (cyA G 0, 32768, .inl (tf1))), (ta2, .inl (cyA G 0, 32768, .inl (tf2))), (ta3, .inl (cyA G 0, 32768, .inl (tf3))), (ta4, .inl (cyA G 0, 32768, .inl (tf4)))] H := hP
                have hD : va_D A [(t1, .inr (8, [.ref ta0, .ref ta1, .ref ta2, .ref ta3, .ref ta4, .ref ta5, .ref ta6, .ref ta7, .ref ta8, .int mm])), (ta0, .inl (cyA G 0, 32768, .inl (tf0))), (ta1, .inl (cyA G 0, 32768, .inl (tf1))), (ta2, .inl (cyA G 0, 32768, .inl (tf2))), (ta3, .inl (cyA G 0, 32768, .inl (tf3))), (ta4, .inl (cyA G 0, 32768, .inl (tf4)))] := hD
                refine W.widen (k := 0) (n := 0) (Nat.le_of_ble_eq_true rfl) (Nat.le_of_ble_eq_true rfl) ?_
                refine lv_if_eq (tgt := 117) hx hb dX6_same_93 (by decide) (fun c_16 => ?_) (fun c_16 => ?_)
                · rw [if_pos c_16] at hm
                  refine lv_iconst (v := 0) hx hb dX6_same_117 (by decide) ?_
                  obtain rfl := Option.some.inj hm
                  have hP9 := hP.sub (ws' := [(t1, .inr (8, [.ref ta0, .ref ta1, .ref ta2, .ref ta3, .ref ta4, .ref ta5, .ref ta6, .ref ta7, .ref ta8, .int mm])), (ta0, .inl (cyA G 0, 32768, .inl (tf0))), (ta1, .inl (cyA G 0, 32768, .inl (tf1))), (ta2, .inl (cyA G 0, 32768, .inl (tf2))), (ta3, .inl (cyA G 0, 32768, .inl (tf3))), (ta4, .inl (cyA G 0, 32768, .inl (tf4)))]) [0, 1, 2, 3, 4, 5] rfl
                  have hD9 := hD.sub (ws' := [(t1, .inr (8, [.ref ta0, .ref ta1, .ref ta2, .ref ta3, .ref ta4, .ref ta5, .ref ta6, .ref ta7, .ref ta8, .int mm])), (ta0, .inl (cyA G 0, 32768, .inl (tf0))), (ta1, .inl (cyA G 0, 32768, .inl (tf1))), (ta2, .inl (cyA G 0, 32768, .inl (tf2))), (ta3, .inl (cyA G 0, 32768, .inl (tf3))), (ta4, .inl (cyA G 0, 32768, .inl (tf4)))]) [0, 1, 2, 3, 4, 5] (by decide) rfl
                  refine W.widen (k := 0) (n := 0) (Nat.le_of_ble_eq_true rfl) (Nat.le_of_ble_eq_true rfl) ?_
                  exact W.zret (v := 0) (ty := .boolean) hx hb hr (by decide) (fun t ht hW => ⟨⟨0, (), rfl, rfl, ⟨by rw [ht]; exact hP9, hD9⟩⟩, hS.F ht⟩) hS.2.2 dX6_same_118 hlocks
                · rw [if_neg c_16] at hm
                  refine lv_aload_n hx hb dX6_same_96 rfl (lv_at hl 1 rfl) ?_
                  refine lv_aload_n hx hb dX6_same_97 rfl (lv_at hl 1 rfl) ?_
                  refine lv_iload_n hx hb dX6_same_98 rfl (lv_at hl 2 rfl) ?_
                  obtain ⟨q_17, hq_17, hm⟩ := bind_some hm
                  have hFc := va_free (wc := [(t1, .inr (8, [.ref ta0, .ref ta1, .ref ta2, .ref ta3, .ref ta4, .ref ta5, .ref ta6, .ref ta7, .ref ta8, .int mm])), (ta2, .inl (cyA G 0, 32768, .inl (tf2)))]) hD hS hA [0, 3] rfl
                  refine va_calli (va_runV (As := [.int p1]) (rest := [.ref t1]) ⟨hx, hb, hml, hown, hts⟩ (k_X9_secondOf l hfl G t1 p1 ta0 ta1 ta2 ta3 ta4 ta5 ta6 ta7 ta8 mm tf2 q_17 hq_17 H.size) (cwV 1 hts (gV wm459 wm460 wm461 wm2 wm462) rfl rfl rfl (by decide +kernel) ⟨(by show 1 ≤ 1 + (d + 1); omega), (by show 21 ≤ 21 + (d + 1) * 23; omega)⟩) (pre_v (pre_s hK hP hD hS hE [0, 3] rfl rfl (by decide) hFc) (va_recv hK hP (ci := 8) (q0 := 0) rfl rfl)) rfl rfl hl.1 rfl (lv_room (Nat.le_of_ble_eq_true rfl)) dX6_same_99 ⟨Nat.le_of_ble_eq_true rfl, Nat.le_of_ble_eq_true rfl⟩) hS (fun q _ h => hFc q h) hFc (fun r u t H locs ht hvm hw hB hz1 hk1 hS => ?_)
                  rw [show r = q_17 from hw]
                  obtain ⟨hP1, hD1⟩ := hB
                  rw [ht] at hP1
                  obtain ⟨hP, hD⟩ := va_join (wr := [(ta0, .inl (cyA G 0, 32768, .inl (tf0))), (ta1, .inl (cyA G 0, 32768, .inl (tf1))), (ta3, .inl (cyA G 0, 32768, .inl (tf3))), (ta4, .inl (cyA G 0, 32768, .inl (tf4)))]) (w1 := [(t1, .inr (8, [.ref ta0, .ref ta1, .ref ta2, .ref ta3, .ref ta4, .ref ta5, .ref ta6, .ref ta7, .ref ta8, .int mm])), (ta2, .inl (cyA G 0, 32768, .inl (tf2)))]) hP hD [0, 3] [1, 2, 4, 5] rfl rfl (by decide) (by decide) hk1 hFc hP1 hD1
                  have hP : va_P (DG G) clP3 [(ta0, .inl (cyA G 0, 32768, .inl (tf0))), (ta1, .inl (cyA G 0, 32768, .inl (tf1))), (ta3, .inl (cyA G 0, 32768, .inl (tf3))), (ta4, .inl (cyA G 0, 32768, .inl (tf4))), (t1, .inr (8, [.ref ta0, .ref ta1, .ref ta2, .ref ta3, .ref ta4, .ref ta5, .ref ta6, .ref ta7, .ref ta8, .int mm])), (ta2, .inl (cyA G 0, 32768, .inl (tf2)))] H := hP
                  have hD : va_D A [(ta0, .inl (cyA G 0, 32768, .inl (tf0))), (ta1, .inl (cyA G 0, 32768, .inl (tf1))), (ta3, .inl (cyA G 0, 32768, .inl (tf3))), (ta4, .inl (cyA G 0, 32768, .inl (tf4))), (t1, .inr (8, [.ref ta0, .ref ta1, .ref ta2, .ref ta3, .ref ta4, .ref ta5, .ref ta6, .ref ta7, .ref ta8, .int mm])), (ta2, .inl (cyA G 0, 32768, .inl (tf2)))] := hD
                  refine W.widen (k := 0) (n := 0) (Nat.le_of_ble_eq_true rfl) (Nat.le_of_ble_eq_true rfl) ?_
                  refine lv_aload_n hx hb dX6_same_102 rfl (lv_at hl 1 rfl) ?_
                  refine lv_iload_n hx hb dX6_same_103 rfl (lv_at hl 3 rfl) ?_
                  obtain ⟨q_18, hq_18, hm⟩ := bind_some hm
                  have hFc := va_free (wc := [(t1, .inr (8, [.ref ta0, .ref ta1, .ref ta2, .ref ta3, .ref ta4, .ref ta5, .ref ta6, .ref ta7, .ref ta8, .int mm])), (ta2, .inl (cyA G 0, 32768, .inl (tf2)))]) hD hS hA [4, 5] rfl
                  refine va_calli (va_runV (As := [.int p2]) (rest := [.int q_17, .ref t1]) ⟨hx, hb, hml, hown, hts⟩ (k_X9_secondOf l hfl G t1 p2 ta0 ta1 ta2 ta3 ta4 ta5 ta6 ta7 ta8 mm tf2 q_18 hq_18 H.size) (cwV 1 hts (gV wm459 wm460 wm461 wm2 wm462) rfl rfl rfl (by decide +kernel) ⟨(by show 1 ≤ 1 + (d + 1); omega), (by show 21 ≤ 21 + (d + 1) * 23; omega)⟩) (pre_v (pre_s hK hP hD hS hE [4, 5] rfl rfl (by decide) hFc) (va_recv hK hP (ci := 8) (q0 := 4) rfl rfl)) rfl rfl hl.1 rfl (lv_room (Nat.le_of_ble_eq_true rfl)) dX6_same_104 ⟨Nat.le_of_ble_eq_true rfl, Nat.le_of_ble_eq_true rfl⟩) hS (fun q _ h => hFc q h) hFc (fun r u t H locs ht hvm hw hB hz1 hk1 hS => ?_)
                  rw [show r = q_18 from hw]
                  obtain ⟨hP1, hD1⟩ := hB
                  rw [ht] at hP1
                  obtain ⟨hP, hD⟩ := va_join (wr := [(ta0, .inl (cyA G 0, 32768, .inl (tf0))), (ta1, .inl (cyA G 0, 32768, .inl (tf1))), (ta3, .inl (cyA G 0, 32768, .inl (tf3))), (ta4, .inl (cyA G 0, 32768, .inl (tf4)))]) (w1 := [(t1, .inr (8, [.ref ta0, .ref ta1, .ref ta2, .ref ta3, .ref ta4, .ref ta5, .ref ta6, .ref ta7, .ref ta8, .int mm])), (ta2, .inl (cyA G 0, 32768, .inl (tf2)))]) hP hD [4, 5] [0, 1, 2, 3] rfl rfl (by decide) (by decide) hk1 hFc hP1 hD1
                  have hP : va_P (DG G) clP3 [(ta0, .inl (cyA G 0, 32768, .inl (tf0))), (ta1, .inl (cyA G 0, 32768, .inl (tf1))), (ta3, .inl (cyA G 0, 32768, .inl (tf3))), (ta4, .inl (cyA G 0, 32768, .inl (tf4))), (t1, .inr (8, [.ref ta0, .ref ta1, .ref ta2, .ref ta3, .ref ta4, .ref ta5, .ref ta6, .ref ta7, .ref ta8, .int mm])), (ta2, .inl (cyA G 0, 32768, .inl (tf2)))] H := hP
                  have hD : va_D A [(ta0, .inl (cyA G 0, 32768, .inl (tf0))), (ta1, .inl (cyA G 0, 32768, .inl (tf1))), (ta3, .inl (cyA G 0, 32768, .inl (tf3))), (ta4, .inl (cyA G 0, 32768, .inl (tf4))), (t1, .inr (8, [.ref ta0, .ref ta1, .ref ta2, .ref ta3, .ref ta4, .ref ta5, .ref ta6, .ref ta7, .ref ta8, .int mm])), (ta2, .inl (cyA G 0, 32768, .inl (tf2)))] := hD
                  refine W.widen (k := 0) (n := 0) (Nat.le_of_ble_eq_true rfl) (Nat.le_of_ble_eq_true rfl) ?_
                  obtain ⟨q_19, hq_19, hm⟩ := bind_some hm
                  have hFc := va_free (wc := [(t1, .inr (8, [.ref ta0, .ref ta1, .ref ta2, .ref ta3, .ref ta4, .ref ta5, .ref ta6, .ref ta7, .ref ta8, .int mm])), (ta0, .inl (cyA G 0, 32768, .inl (tf0))), (ta1, .inl (cyA G 0, 32768, .inl (tf1))), (ta2, .inl (cyA G 0, 32768, .inl (tf2))), (ta3, .inl (cyA G 0, 32768, .inl (tf3))), (ta4, .inl (cyA G 0, 32768, .inl (tf4)))]) hD hS hA [4, 0, 1, 5, 2, 3] rfl
                  refine va_calli (va_runS (As := [.ref t1, .int q_17, .int q_18]) (rest := []) ⟨hx, hb, hml, hown, hts⟩ (ihd t1 q_17 q_18 ta0 ta1 ta2 ta3 ta4 ta5 ta6 ta7 ta8 mm tf0 tf1 tf2 tf3 tf4 q_19 hq_19 H.size) (cwS 3 hts (gS wm560 wm556 wm20 wm557) rfl rfl rfl (by decide +kernel) ⟨(by show 1 + d + 1 ≤ 1 + (d + 1); omega), (by show 8 + (4 + 11) + (21 + d * 23) ≤ 21 + (d + 1) * 23; omega)⟩) (pre_s hK hP hD hS hE [4, 0, 1, 5, 2, 3] rfl rfl (by decide) hFc) rfl rfl hl.1 rfl (lv_room (Nat.le_of_ble_eq_true rfl)) dX6_same_107 ⟨Nat.le_of_ble_eq_true rfl, Nat.le_of_ble_eq_true rfl⟩) hS (fun q _ h => hFc q h) hFc (fun r u t H locs ht hvm hw hB hz1 hk1 hS => ?_)
                  rw [show r = q_19 from hw]
                  obtain ⟨hP1, hD1⟩ := hB
                  rw [ht] at hP1
                  obtain ⟨hP, hD⟩ := va_join (wr := []) (w1 := [(t1, .inr (8, [.ref ta0, .ref ta1, .ref ta2, .ref ta3, .ref ta4, .ref ta5, .ref ta6, .ref ta7, .ref ta8, .int mm])), (ta0, .inl (cyA G 0, 32768, .inl (tf0))), (ta1, .inl (cyA G 0, 32768, .inl (tf1))), (ta2, .inl (cyA G 0, 32768, .inl (tf2))), (ta3, .inl (cyA G 0, 32768, .inl (tf3))), (ta4, .inl (cyA G 0, 32768, .inl (tf4)))]) hP hD [4, 0, 1, 5, 2, 3] [] rfl rfl (by decide) (by decide) hk1 hFc hP1 hD1
                  have hP : va_P (DG G) clP3 [(t1, .inr (8, [.ref ta0, .ref ta1, .ref ta2, .ref ta3, .ref ta4, .ref ta5, .ref ta6, .ref ta7, .ref ta8, .int mm])), (ta0, .inl (cyA G 0, 32768, .inl (tf0))), (ta1, .inl (cyA G 0, 32768, .inl (tf1))), (ta2, .inl (cyA G 0, 32768, .inl (tf2))), (ta3, .inl (cyA G 0, 32768, .inl (tf3))), (ta4, .inl (cyA G 0, 32768, .inl (tf4)))] H := hP
                  have hD : va_D A [(t1, .inr (8, [.ref ta0, .ref ta1, .ref ta2, .ref ta3, .ref ta4, .ref ta5, .ref ta6, .ref ta7, .ref ta8, .int mm])), (ta0, .inl (cyA G 0, 32768, .inl (tf0))), (ta1, .inl (cyA G 0, 32768, .inl (tf1))), (ta2, .inl (cyA G 0, 32768, .inl (tf2))), (ta3, .inl (cyA G 0, 32768, .inl (tf3))), (ta4, .inl (cyA G 0, 32768, .inl (tf4)))] := hD
                  refine W.widen (k := 0) (n := 0) (Nat.le_of_ble_eq_true rfl) (Nat.le_of_ble_eq_true rfl) ?_
                  refine lv_if_eq (tgt := 117) hx hb dX6_same_110 (by decide) (fun c_20 => ?_) (fun c_20 => ?_)
                  · rw [if_pos c_20] at hm
                    refine lv_iconst (v := 0) hx hb dX6_same_117 (by decide) ?_
                    obtain rfl := Option.some.inj hm
                    have hP9 := hP.sub (ws' := [(t1, .inr (8, [.ref ta0, .ref ta1, .ref ta2, .ref ta3, .ref ta4, .ref ta5, .ref ta6, .ref ta7, .ref ta8, .int mm])), (ta0, .inl (cyA G 0, 32768, .inl (tf0))), (ta1, .inl (cyA G 0, 32768, .inl (tf1))), (ta2, .inl (cyA G 0, 32768, .inl (tf2))), (ta3, .inl (cyA G 0, 32768, .inl (tf3))), (ta4, .inl (cyA G 0, 32768, .inl (tf4)))]) [0, 1, 2, 3, 4, 5] rfl
                    have hD9 := hD.sub (ws' := [(t1, .inr (8, [.ref ta0, .ref ta1, .ref ta2, .ref ta3, .ref ta4, .ref ta5, .ref ta6, .ref ta7, .ref ta8, .int mm])), (ta0, .inl (cyA G 0, 32768, .inl (tf0))), (ta1, .inl (cyA G 0, 32768, .inl (tf1))), (ta2, .inl (cyA G 0, 32768, .inl (tf2))), (ta3, .inl (cyA G 0, 32768, .inl (tf3))), (ta4, .inl (cyA G 0, 32768, .inl (tf4)))]) [0, 1, 2, 3, 4, 5] (by decide) rfl
                    refine W.widen (k := 0) (n := 0) (Nat.le_of_ble_eq_true rfl) (Nat.le_of_ble_eq_true rfl) ?_
                    exact W.zret (v := 0) (ty := .boolean) hx hb hr (by decide) (fun t ht hW => ⟨⟨0, (), rfl, rfl, ⟨by rw [ht]; exact hP9, hD9⟩⟩, hS.F ht⟩) hS.2.2 dX6_same_118 hlocks
                  · rw [if_neg c_20] at hm
                    refine lv_iconst (v := 1) hx hb dX6_same_113 (by decide) ?_
                    refine lv_goto (tgt := 118) hx hb dX6_same_114 (by decide) ?_
                    obtain rfl := Option.some.inj hm
                    have hP9 := hP.sub (ws' := [(t1, .inr (8, [.ref ta0, .ref ta1, .ref ta2, .ref ta3, .ref ta4, .ref ta5, .ref ta6, .ref ta7, .ref ta8, .int mm])), (ta0, .inl (cyA G 0, 32768, .inl (tf0))), (ta1, .inl (cyA G 0, 32768, .inl (tf1))), (ta2, .inl (cyA G 0, 32768, .inl (tf2))), (ta3, .inl (cyA G 0, 32768, .inl (tf3))), (ta4, .inl (cyA G 0, 32768, .inl (tf4)))]) [0, 1, 2, 3, 4, 5] rfl
                    have hD9 := hD.sub (ws' := [(t1, .inr (8, [.ref ta0, .ref ta1, .ref ta2, .ref ta3, .ref ta4, .ref ta5, .ref ta6, .ref ta7, .ref ta8, .int mm])), (ta0, .inl (cyA G 0, 32768, .inl (tf0))), (ta1, .inl (cyA G 0, 32768, .inl (tf1))), (ta2, .inl (cyA G 0, 32768, .inl (tf2))), (ta3, .inl (cyA G 0, 32768, .inl (tf3))), (ta4, .inl (cyA G 0, 32768, .inl (tf4)))]) [0, 1, 2, 3, 4, 5] (by decide) rfl
                    refine W.widen (k := 0) (n := 0) (Nat.le_of_ble_eq_true rfl) (Nat.le_of_ble_eq_true rfl) ?_
                    exact W.zret (v := 1) (ty := .boolean) hx hb hr (by decide) (fun t ht hW => ⟨⟨1, (), rfl, rfl, ⟨by rw [ht]; exact hP9, hD9⟩⟩, hS.F ht⟩) hS.2.2 dX6_same_118 hlocks
              · rw [if_neg c_12] at hm
                refine lv_aload_n hx hb dX6_same_60 rfl (lv_at hl 1 rfl) ?_
                refine lv_iload_n hx hb dX6_same_61 rfl (lv_at hl 2 rfl) ?_
                obtain ⟨q_21, hq_21, hm⟩ := bind_some hm
                have hFc := va_free (wc := [(t1, .inr (8, [.ref ta0, .ref ta1, .ref ta2, .ref ta3, .ref ta4, .ref ta5, .ref ta6, .ref ta7, .ref ta8, .int mm])), (ta1, .inl (cyA G 0, 32768, .inl (tf1)))]) hD hS hA [4, 0] rfl
                refine va_calli (va_runV (As := [.int p1]) (rest := []) ⟨hx, hb, hml, hown, hts⟩ (k_X9_firstOf l hfl G t1 p1 ta0 ta1 ta2 ta3 ta4 ta5 ta6 ta7 ta8 mm tf1 q_21 hq_21 H.size) (cwV 1 hts (gV wm456 wm431 wm432 wm2 wm433) rfl rfl rfl (by decide +kernel) ⟨(by show 1 ≤ 1 + (d + 1); omega), (by show 21 ≤ 21 + (d + 1) * 23; omega)⟩) (pre_v (pre_s hK hP hD hS hE [4, 0] rfl rfl (by decide) hFc) (va_recv hK hP (ci := 8) (q0 := 4) rfl rfl)) rfl rfl hl.1 rfl (lv_room (Nat.le_of_ble_eq_true rfl)) dX6_same_62 ⟨Nat.le_of_ble_eq_true rfl, Nat.le_of_ble_eq_true rfl⟩) hS (fun q _ h => hFc q h) hFc (fun r u t H locs ht hvm hw hB hz1 hk1 hS => ?_)
                rw [show r = q_21 from hw]
                obtain ⟨hP1, hD1⟩ := hB
                rw [ht] at hP1
                obtain ⟨hP, hD⟩ := va_join (wr := [(ta2, .inl (cyA G 0, 32768, .inl (tf2))), (ta0, .inl (cyA G 0, 32768, .inl (tf0))), (ta4, .inl (cyA G 0, 32768, .inl (tf4))), (ta3, .inl (cyA G 0, 32768, .inl (tf3)))]) (w1 := [(t1, .inr (8, [.ref ta0, .ref ta1, .ref ta2, .ref ta3, .ref ta4, .ref ta5, .ref ta6, .ref ta7, .ref ta8, .int mm])), (ta1, .inl (cyA G 0, 32768, .inl (tf1)))]) hP hD [4, 0] [1, 2, 3, 5] rfl rfl (by decide) (by decide) hk1 hFc hP1 hD1
                have hP : va_P (DG G) clP3 [(ta2, .inl (cyA G 0, 32768, .inl (tf2))), (ta0, .inl (cyA G 0, 32768, .inl (tf0))), (ta4, .inl (cyA G 0, 32768, .inl (tf4))), (ta3, .inl (cyA G 0, 32768, .inl (tf3))), (t1, .inr (8, [.ref ta0, .ref ta1, .ref ta2, .ref ta3, .ref ta4, .ref ta5, .ref ta6, .ref ta7, .ref ta8, .int mm])), (ta1, .inl (cyA G 0, 32768, .inl (tf1)))] H := hP
                have hD : va_D A [(ta2, .inl (cyA G 0, 32768, .inl (tf2))), (ta0, .inl (cyA G 0, 32768, .inl (tf0))), (ta4, .inl (cyA G 0, 32768, .inl (tf4))), (ta3, .inl (cyA G 0, 32768, .inl (tf3))), (t1, .inr (8, [.ref ta0, .ref ta1, .ref ta2, .ref ta3, .ref ta4, .ref ta5, .ref ta6, .ref ta7, .ref ta8, .int mm])), (ta1, .inl (cyA G 0, 32768, .inl (tf1)))] := hD
                refine W.widen (k := 0) (n := 0) (Nat.le_of_ble_eq_true rfl) (Nat.le_of_ble_eq_true rfl) ?_
                refine lv_aload_n hx hb dX6_same_65 rfl (lv_at hl 1 rfl) ?_
                refine lv_iload_n hx hb dX6_same_66 rfl (lv_at hl 3 rfl) ?_
                obtain ⟨q_22, hq_22, hm⟩ := bind_some hm
                have hFc := va_free (wc := [(t1, .inr (8, [.ref ta0, .ref ta1, .ref ta2, .ref ta3, .ref ta4, .ref ta5, .ref ta6, .ref ta7, .ref ta8, .int mm])), (ta1, .inl (cyA G 0, 32768, .inl (tf1)))]) hD hS hA [4, 5] rfl
                refine va_calli (va_runV (As := [.int p2]) (rest := [.int q_21]) ⟨hx, hb, hml, hown, hts⟩ (k_X9_firstOf l hfl G t1 p2 ta0 ta1 ta2 ta3 ta4 ta5 ta6 ta7 ta8 mm tf1 q_22 hq_22 H.size) (cwV 1 hts (gV wm456 wm431 wm432 wm2 wm433) rfl rfl rfl (by decide +kernel) ⟨(by show 1 ≤ 1 + (d + 1); omega), (by show 21 ≤ 21 + (d + 1) * 23; omega)⟩) (pre_v (pre_s hK hP hD hS hE [4, 5] rfl rfl (by decide) hFc) (va_recv hK hP (ci := 8) (q0 := 4) rfl rfl)) rfl rfl hl.1 rfl (lv_room (Nat.le_of_ble_eq_true rfl)) dX6_same_67 ⟨Nat.le_of_ble_eq_true rfl, Nat.le_of_ble_eq_true rfl⟩) hS (fun q _ h => hFc q h) hFc (fun r u t H locs ht hvm hw hB hz1 hk1 hS => ?_)
                rw [show r = q_22 from hw]
                obtain ⟨hP1, hD1⟩ := hB
                rw [ht] at hP1
                obtain ⟨hP, hD⟩ := va_join (wr := [(ta2, .inl (cyA G 0, 32768, .inl (tf2))), (ta0, .inl (cyA G 0, 32768, .inl (tf0))), (ta4, .inl (cyA G 0, 32768, .inl (tf4))), (ta3, .inl (cyA G 0, 32768, .inl (tf3)))]) (w1 := [(t1, .inr (8, [.ref ta0, .ref ta1, .ref ta2, .ref ta3, .ref ta4, .ref ta5, .ref ta6, .ref ta7, .ref ta8, .int mm])), (ta1, .inl (cyA G 0, 32768, .inl (tf1)))]) hP hD [4, 5] [0, 1, 2, 3] rfl rfl (by decide) (by decide) hk1 hFc hP1 hD1
                have hP : va_P (DG G) clP3 [(ta2, .inl (cyA G 0, 32768, .inl (tf2))), (ta0, .inl (cyA G 0, 32768, .inl (tf0))), (ta4, .inl (cyA G 0, 32768, .inl (tf4))), (ta3, .inl (cyA G 0, 32768, .inl (tf3))), (t1, .inr (8, [.ref ta0, .ref ta1, .ref ta2, .ref ta3, .ref ta4, .ref ta5, .ref ta6, .ref ta7, .ref ta8, .int mm])), (ta1, .inl (cyA G 0, 32768, .inl (tf1)))] H := hP
                have hD : va_D A [(ta2, .inl (cyA G 0, 32768, .inl (tf2))), (ta0, .inl (cyA G 0, 32768, .inl (tf0))), (ta4, .inl (cyA G 0, 32768, .inl (tf4))), (ta3, .inl (cyA G 0, 32768, .inl (tf3))), (t1, .inr (8, [.ref ta0, .ref ta1, .ref ta2, .ref ta3, .ref ta4, .ref ta5, .ref ta6, .ref ta7, .ref ta8, .int mm])), (ta1, .inl (cyA G 0, 32768, .inl (tf1)))] := hD
                refine W.widen (k := 0) (n := 0) (Nat.le_of_ble_eq_true rfl) (Nat.le_of_ble_eq_true rfl) ?_
                refine lv_icmp_ne (tgt := 77) hx hb dX6_same_70 (by decide) (fun c_23 => ?_) (fun c_23 => ?_)
                · rw [if_neg c_23] at hm
                  refine lv_iconst (v := 0) hx hb dX6_same_77 (by decide) ?_
                  obtain rfl := Option.some.inj hm
                  have hP9 := hP.sub (ws' := [(t1, .inr (8, [.ref ta0, .ref ta1, .ref ta2, .ref ta3, .ref ta4, .ref ta5, .ref ta6, .ref ta7, .ref ta8, .int mm])), (ta0, .inl (cyA G 0, 32768, .inl (tf0))), (ta1, .inl (cyA G 0, 32768, .inl (tf1))), (ta2, .inl (cyA G 0, 32768, .inl (tf2))), (ta3, .inl (cyA G 0, 32768, .inl (tf3))), (ta4, .inl (cyA G 0, 32768, .inl (tf4)))]) [4, 1, 5, 0, 3, 2] rfl
                  have hD9 := hD.sub (ws' := [(t1, .inr (8, [.ref ta0, .ref ta1, .ref ta2, .ref ta3, .ref ta4, .ref ta5, .ref ta6, .ref ta7, .ref ta8, .int mm])), (ta0, .inl (cyA G 0, 32768, .inl (tf0))), (ta1, .inl (cyA G 0, 32768, .inl (tf1))), (ta2, .inl (cyA G 0, 32768, .inl (tf2))), (ta3, .inl (cyA G 0, 32768, .inl (tf3))), (ta4, .inl (cyA G 0, 32768, .inl (tf4)))]) [4, 1, 5, 0, 3, 2] (by decide) rfl
                  refine W.widen (k := 0) (n := 0) (Nat.le_of_ble_eq_true rfl) (Nat.le_of_ble_eq_true rfl) ?_
                  exact W.zret (v := 0) (ty := .boolean) hx hb hr (by decide) (fun t ht hW => ⟨⟨0, (), rfl, rfl, ⟨by rw [ht]; exact hP9, hD9⟩⟩, hS.F ht⟩) hS.2.2 dX6_same_78 hlocks
                · rw [if_pos c_23] at hm
                  refine lv_iconst (v := 1) hx hb dX6_same_73 (by decide) ?_
                  refine lv_goto (tgt := 78) hx hb dX6_same_74 (by decide) ?_
                  obtain rfl := Option.some.inj hm
                  have hP9 := hP.sub (ws' := [(t1, .inr (8, [.ref ta0, .ref ta1, .ref ta2, .ref ta3, .ref ta4, .ref ta5, .ref ta6, .ref ta7, .ref ta8, .int mm])), (ta0, .inl (cyA G 0, 32768, .inl (tf0))), (ta1, .inl (cyA G 0, 32768, .inl (tf1))), (ta2, .inl (cyA G 0, 32768, .inl (tf2))), (ta3, .inl (cyA G 0, 32768, .inl (tf3))), (ta4, .inl (cyA G 0, 32768, .inl (tf4)))]) [4, 1, 5, 0, 3, 2] rfl
                  have hD9 := hD.sub (ws' := [(t1, .inr (8, [.ref ta0, .ref ta1, .ref ta2, .ref ta3, .ref ta4, .ref ta5, .ref ta6, .ref ta7, .ref ta8, .int mm])), (ta0, .inl (cyA G 0, 32768, .inl (tf0))), (ta1, .inl (cyA G 0, 32768, .inl (tf1))), (ta2, .inl (cyA G 0, 32768, .inl (tf2))), (ta3, .inl (cyA G 0, 32768, .inl (tf3))), (ta4, .inl (cyA G 0, 32768, .inl (tf4)))]) [4, 1, 5, 0, 3, 2] (by decide) rfl
                  refine W.widen (k := 0) (n := 0) (Nat.le_of_ble_eq_true rfl) (Nat.le_of_ble_eq_true rfl) ?_
                  exact W.zret (v := 1) (ty := .boolean) hx hb hr (by decide) (fun t ht hW => ⟨⟨1, (), rfl, rfl, ⟨by rw [ht]; exact hP9, hD9⟩⟩, hS.F ht⟩) hS.2.2 dX6_same_78 hlocks
            · rw [if_pos c_11] at hm
              refine lv_iconst (v := 1) hx hb dX6_same_53 (by decide) ?_
              obtain rfl := Option.some.inj hm
              have hP9 := hP.sub (ws' := [(t1, .inr (8, [.ref ta0, .ref ta1, .ref ta2, .ref ta3, .ref ta4, .ref ta5, .ref ta6, .ref ta7, .ref ta8, .int mm])), (ta0, .inl (cyA G 0, 32768, .inl (tf0))), (ta1, .inl (cyA G 0, 32768, .inl (tf1))), (ta2, .inl (cyA G 0, 32768, .inl (tf2))), (ta3, .inl (cyA G 0, 32768, .inl (tf3))), (ta4, .inl (cyA G 0, 32768, .inl (tf4)))]) [4, 2, 0, 1, 5, 3] rfl
              have hD9 := hD.sub (ws' := [(t1, .inr (8, [.ref ta0, .ref ta1, .ref ta2, .ref ta3, .ref ta4, .ref ta5, .ref ta6, .ref ta7, .ref ta8, .int mm])), (ta0, .inl (cyA G 0, 32768, .inl (tf0))), (ta1, .inl (cyA G 0, 32768, .inl (tf1))), (ta2, .inl (cyA G 0, 32768, .inl (tf2))), (ta3, .inl (cyA G 0, 32768, .inl (tf3))), (ta4, .inl (cyA G 0, 32768, .inl (tf4)))]) [4, 2, 0, 1, 5, 3] (by decide) rfl
              refine W.widen (k := 0) (n := 0) (Nat.le_of_ble_eq_true rfl) (Nat.le_of_ble_eq_true rfl) ?_
              exact W.zret (v := 1) (ty := .boolean) hx hb hr (by decide) (fun t ht hW => ⟨⟨1, (), rfl, rfl, ⟨by rw [ht]; exact hP9, hD9⟩⟩, hS.F ht⟩) hS.2.2 dX6_same_54 hlocks
          · rw [if_neg c_10] at hm
            refine lv_iconst (v := 0) hx hb dX6_same_46 (by decide) ?_
            obtain rfl := Option.some.inj hm
            have hP9 := hP.sub (ws' := [(t1, .inr (8, [.ref ta0, .ref ta1, .ref ta2, .ref ta3, .ref ta4, .ref ta5, .ref ta6, .ref ta7, .ref ta8, .int mm])), (ta0, .inl (cyA G 0, 32768, .inl (tf0))), (ta1, .inl (cyA G 0, 32768, .inl (tf1))), (ta2, .inl (cyA G 0, 32768, .inl (tf2))), (ta3, .inl (cyA G 0, 32768, .inl (tf3))), (ta4, .inl (cyA G 0, 32768, .inl (tf4)))]) [4, 2, 0, 1, 5, 3] rfl
            have hD9 := hD.sub (ws' := [(t1, .inr (8, [.ref ta0, .ref ta1, .ref ta2, .ref ta3, .ref ta4, .ref ta5, .ref ta6, .ref ta7, .ref ta8, .int mm])), (ta0, .inl (cyA G 0, 32768, .inl (tf0))), (ta1, .inl (cyA G 0, 32768, .inl (tf1))), (ta2, .inl (cyA G 0, 32768, .inl (tf2))), (ta3, .inl (cyA G 0, 32768, .inl (tf3))), (ta4, .inl (cyA G 0, 32768, .inl (tf4)))]) [4, 2, 0, 1, 5, 3] (by decide) rfl
            refine W.widen (k := 0) (n := 0) (Nat.le_of_ble_eq_true rfl) (Nat.le_of_ble_eq_true rfl) ?_
            exact W.zret (v := 0) (ty := .boolean) hx hb hr (by decide) (fun t ht hW => ⟨⟨0, (), rfl, rfl, ⟨by rw [ht]; exact hP9, hD9⟩⟩, hS.F ht⟩) hS.2.2 dX6_same_47 hlocks
def f_X6_holds : Nat → (Int32) → (Nat → Int32) → (Nat → Int32) → (Nat → Int32) → (Int32) → (Int32) → Option (Int32)
  | 0, _, _, _, _, _, _ => none
  | d + 1, mm, tf0, tf1, tf2, p1, p2 => (Option.bind (f_X9_kindOf mm tf0 p1) (fun q_1 => (if q_1 = 1 then (Option.bind (f_X9_firstOf mm tf1 p1) (fun q_10 => (if q_10 = p2 then some 1 else some 0))) else (if q_1 = 7 then (Option.bind (f_X9_firstOf mm tf1 p1) (fun q_4 => (Option.bind (f_X6_holds d mm tf0 tf1 tf2 q_4 p2) (fun q_5 => (if q_5 = 0 then (Option.bind (f_X9_secondOf mm tf2 p1) (fun q_7 => (Option.bind (f_X6_holds d mm tf0 tf1 tf2 q_7 p2) (fun q_8 => (if q_8 = 0 then some 0 else some 1))))) else some 1))))) else some 0))))
set_option maxHeartbeats 4000000 in
set_option maxRecDepth 100000 in
theorem k_X6_holds (l : Launch) (hfl : l.stackTraces = false) (G : GC) : ∀ (d : Nat) (t1 : Nat) (p1 : Int32) (p2 : Int32) (ta0 : Nat) (ta1 : Nat) (ta2 : Nat) (ta3 : Nat) (ta4 : Nat) (ta5 : Nat) (ta6 : Nat) (ta7 : Nat) (ta8 : Nat) (mm : Int32) (tf0 : Nat → Int32) (tf1 : Nat → Int32) (tf2 : Nat → Int32) (r9 : Int32), f_X6_holds d mm tf0 tf1 tf2 p1 p2 = some r9 → ∀ (sz : Nat), Met l yX6_holds (Cond.code yX6_holds cX6_holds 4 (some .boolean) :: W0) ({ frames := 1 + d, cells := 0, slots := 0, locals := 21 + d * 23 }) (va_Pc [.ref t1, .int p1, .int p2] (WD G [(t1, .inr (8, [.ref ta0, .ref ta1, .ref ta2, .ref ta3, .ref ta4, .ref ta5, .ref ta6, .ref ta7, .ref ta8, .int mm])), (ta0, .inl (cyA G 0, 32768, .inl (tf0))), (ta1, .inl (cyA G 0, 32768, .inl (tf1))), (ta2, .inl (cyA G 0, 32768, .inl (tf2)))] sz)) (va_Qi (fun (r : Int32) (_ : Unit) => r = r9) (fun _ t => PW G (va_A [(t1, .inr (8, [.ref ta0, .ref ta1, .ref ta2, .ref ta3, .ref ta4, .ref ta5, .ref ta6, .ref ta7, .ref ta8, .int mm])), (ta0, .inl (cyA G 0, 32768, .inl (tf0))), (ta1, .inl (cyA G 0, 32768, .inl (tf1))), (ta2, .inl (cyA G 0, 32768, .inl (tf2)))] sz) [(t1, .inr (8, [.ref ta0, .ref ta1, .ref ta2, .ref ta3, .ref ta4, .ref ta5, .ref ta6, .ref ta7, .ref ta8, .int mm])), (ta0, .inl (cyA G 0, 32768, .inl (tf0))), (ta1, .inl (cyA G 0, 32768, .inl (tf1))), (ta2, .inl (cyA G 0, 32768, .inl (tf2)))] t) (va_A [(t1, .inr (8, [.ref ta0, .ref ta1, .ref ta2, .ref ta3, .ref ta4, .ref ta5, .ref ta6, .ref ta7, .ref ta8, .int mm])), (ta0, .inl (cyA G 0, 32768, .inl (tf0))), (ta1, .inl (cyA G 0, 32768, .inl (tf1))), (ta2, .inl (cyA G 0, 32768, .inl (tf2)))] sz)) 0 0 (va_A [(t1, .inr (8, [.ref ta0, .ref ta1, .ref ta2, .ref ta3, .ref ta4, .ref ta5, .ref ta6, .ref ta7, .ref ta8, .int mm])), (ta0, .inl (cyA G 0, 32768, .inl (tf0))), (ta1, .inl (cyA G 0, 32768, .inl (tf1))), (ta2, .inl (cyA G 0, 32768, .inl (tf2)))] sz) := by
  intro d
  induction d with
  | zero =>
    intro t1 p1 p2 ta0 ta1 ta2 ta3 ta4 ta5 ta6 ta7 ta8 mm tf0 tf1 tf2 r9 hm
    rw [f_X6_holds] at hm
    cases hm
  | succ d ihd =>
    intro t1 p1 p2 ta0 ta1 ta2 ta3 ta4 ta5 ta6 ta7 ta8 mm tf0 tf1 tf2 r9 hm sz
    rw [f_X6_holds] at hm
    refine Met.ofW (cc := cX6_holds) (maxL := 4) (ret := (some .boolean)) (by decide) rfl ?_
    intro p e s m args below meth c s₁ B hml hv
    obtain ⟨rfl, hsz, hP, hK, hD0, hE⟩ := hv
    have hx := B.exec
    have hb := B.bytes
    have hr := B.returns
    have hts := w0_tail B.pre
    have hown : s.vm.findClass RX6 = some m.cls := findClass_of_methodNamed B.named
    have hlocks := B.notSynchronized
    subst hsz
    have hD := hD0.self (sz := s.heap.size)
    generalize hAe : va_A [(t1, .inr (8, [.ref ta0, .ref ta1, .ref ta2, .ref ta3, .ref ta4, .ref ta5, .ref ta6, .ref ta7, .ref ta8, .int mm])), (ta0, .inl (cyA G 0, 32768, .inl (tf0))), (ta1, .inl (cyA G 0, 32768, .inl (tf1))), (ta2, .inl (cyA G 0, 32768, .inl (tf2)))] s.heap.size = A at hD hE ⊢
    have hA : ∀ q : Nat, s.heap.size ≤ q → A q := fun q h => by rw [← hAe]; exact Or.inr h
    have hS : va_S A s.heap s.heap [] := va_S.rf
    obtain ⟨H, hHe⟩ : ∃ H : Heap, H = s.heap := ⟨_, rfl⟩
    have hP : va_P (DG G) clP3 [(t1, .inr (8, [.ref ta0, .ref ta1, .ref ta2, .ref ta3, .ref ta4, .ref ta5, .ref ta6, .ref ta7, .ref ta8, .int mm])), (ta0, .inl (cyA G 0, 32768, .inl (tf0))), (ta1, .inl (cyA G 0, 32768, .inl (tf1))), (ta2, .inl (cyA G 0, 32768, .inl (tf2)))] H := by rw [hHe]; exact hP
    have hS : va_S A s.heap H [] := by rw [hHe]; exact hS
    have hl := lv_entry ([.ref t1, .int p1, .int p2]) (n := 4) (Nat.le_of_ble_eq_true rfl)
    rw [lg_entry_eq, ← hHe]
    generalize (lg_sl ([.ref t1, .int p1, .int p2]) ++ List.replicate (4 - (lg_sl ([.ref t1, .int p1, .int p2])).length) Slot.unset).toArray = ls at hl ⊢
    have hl : lv_has ls 4 [(0, .ref t1), (1, .int p1), (2, .int p2)] := hl
    refine lv_aload_n hx hb dX6_holds_0 rfl (lv_at hl 0 rfl) ?_
    refine lv_iload_n hx hb dX6_holds_1 rfl (lv_at hl 1 rfl) ?_
    obtain ⟨q_1, hq_1, hm⟩ := bind_some hm
    have hFc := va_free (wc := [(t1, .inr (8, [.ref ta0, .ref ta1, .ref ta2, .ref ta3, .ref ta4, .ref ta5, .ref ta6, .ref ta7, .ref ta8, .int mm])), (ta0, .inl (cyA G 0, 32768, .inl (tf0)))]) hD hS hA [0, 1] rfl
    refine va_calli (va_runV (As := [.int p1]) (rest := []) ⟨hx, hb, hml, hown, hts⟩ (k_X9_kindOf l hfl G t1 p1 ta0 ta1 ta2 ta3 ta4 ta5 ta6 ta7 ta8 mm tf0 q_1 hq_1 H.size) (cwV 1 hts (gV wm455 wm435 wm436 wm2 wm437) rfl rfl rfl (by decide +kernel) ⟨(by show 1 ≤ 1 + (d + 1); omega), (by show 21 ≤ 21 + (d + 1) * 23; omega)⟩) (pre_v (pre_s hK hP hD hS hE [0, 1] rfl rfl (by decide) hFc) (va_recv hK hP (ci := 8) (q0 := 0) rfl rfl)) rfl rfl hl.1 rfl (lv_room (Nat.le_of_ble_eq_true rfl)) dX6_holds_2 ⟨Nat.le_of_ble_eq_true rfl, Nat.le_of_ble_eq_true rfl⟩) hS (fun q _ h => hFc q h) hFc (fun r u t H locs ht hvm hw hB hz1 hk1 hS => ?_)
    rw [show r = q_1 from hw]
    obtain ⟨hP1, hD1⟩ := hB
    rw [ht] at hP1
    obtain ⟨hP, hD⟩ := va_join (wr := [(ta1, .inl (cyA G 0, 32768, .inl (tf1))), (ta2, .inl (cyA G 0, 32768, .inl (tf2)))]) (w1 := [(t1, .inr (8, [.ref ta0, .ref ta1, .ref ta2, .ref ta3, .ref ta4, .ref ta5, .ref ta6, .ref ta7, .ref ta8, .int mm])), (ta0, .inl (cyA G 0, 32768, .inl (tf0)))]) hP hD [0, 1] [2, 3] rfl rfl (by decide) (by decide) hk1 hFc hP1 hD1
    have hP : va_P (DG G) clP3 [(ta1, .inl (cyA G 0, 32768, .inl (tf1))), (ta2, .inl (cyA G 0, 32768, .inl (tf2))), (t1, .inr (8, [.ref ta0, .ref ta1, .ref ta2, .ref ta3, .ref ta4, .ref ta5, .ref ta6, .ref ta7, .ref ta8, .int mm])), (ta0, .inl (cyA G 0, 32768, .inl (tf0)))] H := hP
    have hD : va_D A [(ta1, .inl (cyA G 0, 32768, .inl (tf1))), (ta2, .inl (cyA G 0, 32768, .inl (tf2))), (t1, .inr (8, [.ref ta0, .ref ta1, .ref ta2, .ref ta3, .ref ta4, .ref ta5, .ref ta6, .ref ta7, .ref ta8, .int mm])), (ta0, .inl (cyA G 0, 32768, .inl (tf0)))] := hD
    refine W.widen (k := 0) (n := 0) (Nat.le_of_ble_eq_true rfl) (Nat.le_of_ble_eq_true rfl) ?_
    refine lv_istore_n (lv' := [(3, .int q_1), (0, .ref t1), (1, .int p1), (2, .int p2)]) hx hb dX6_holds_5 rfl hl (by decide) rfl (fun ls hl => ?_)
    refine lv_iload_n hx hb dX6_holds_6 rfl (lv_at hl 0 rfl) ?_
    refine lv_iconst (v := 1) hx hb dX6_holds_7 (by decide) ?_
    refine lv_icmp_ne (tgt := 26) hx hb dX6_holds_8 (by decide) (fun c_2 => ?_) (fun c_2 => ?_)
    · rw [if_neg c_2] at hm
      refine lv_iload_n hx hb dX6_holds_26 rfl (lv_at hl 0 rfl) ?_
      refine lv_bipush (v := 7) hx hb dX6_holds_27 (by decide) ?_
      refine lv_icmp_ne (tgt := 62) hx hb dX6_holds_29 (by decide) (fun c_3 => ?_) (fun c_3 => ?_)
      · rw [if_neg c_3] at hm
        refine lv_iconst (v := 0) hx hb dX6_holds_62 (by decide) ?_
        obtain rfl := Option.some.inj hm
        have hP9 := hP.sub (ws' := [(t1, .inr (8, [.ref ta0, .ref ta1, .ref ta2, .ref ta3, .ref ta4, .ref ta5, .ref ta6, .ref ta7, .ref ta8, .int mm])), (ta0, .inl (cyA G 0, 32768, .inl (tf0))), (ta1, .inl (cyA G 0, 32768, .inl (tf1))), (ta2, .inl (cyA G 0, 32768, .inl (tf2)))]) [2, 3, 0, 1] rfl
        have hD9 := hD.sub (ws' := [(t1, .inr (8, [.ref ta0, .ref ta1, .ref ta2, .ref ta3, .ref ta4, .ref ta5, .ref ta6, .ref ta7, .ref ta8, .int mm])), (ta0, .inl (cyA G 0, 32768, .inl (tf0))), (ta1, .inl (cyA G 0, 32768, .inl (tf1))), (ta2, .inl (cyA G 0, 32768, .inl (tf2)))]) [2, 3, 0, 1] (by decide) rfl
        refine W.widen (k := 0) (n := 0) (Nat.le_of_ble_eq_true rfl) (Nat.le_of_ble_eq_true rfl) ?_
        exact W.zret (v := 0) (ty := .boolean) hx hb hr (by decide) (fun t ht hW => ⟨⟨0, (), rfl, rfl, ⟨by rw [ht]; exact hP9, hD9⟩⟩, hS.F ht⟩) hS.2.2 dX6_holds_63 hlocks
      · rw [if_pos c_3] at hm
        refine lv_aload_n hx hb dX6_holds_32 rfl (lv_at hl 1 rfl) ?_
        refine lv_aload_n hx hb dX6_holds_33 rfl (lv_at hl 1 rfl) ?_
        refine lv_iload_n hx hb dX6_holds_34 rfl (lv_at hl 2 rfl) ?_
        obtain ⟨q_4, hq_4, hm⟩ := bind_some hm
        have hFc := va_free (wc := [(t1, .inr (8, [.ref ta0, .ref ta1, .ref ta2, .ref ta3, .ref ta4, .ref ta5, .ref ta6, .ref ta7, .ref ta8, .int mm])), (ta1, .inl (cyA G 0, 32768, .inl (tf1)))]) hD hS hA [2, 0] rfl
        refine va_calli (va_runV (As := [.int p1]) (rest := [.ref t1]) ⟨hx, hb, hml, hown, hts⟩ (k_X9_firstOf l hfl G t1 p1 ta0 ta1 ta2 ta3 ta4 ta5 ta6 ta7 ta8 mm tf1 q_4 hq_4 H.size) (cwV 1 hts (gV wm456 wm431 wm432 wm2 wm433) rfl rfl rfl (by decide +kernel) ⟨(by show 1 ≤ 1 + (d + 1); omega), (by show 21 ≤ 21 + (d + 1) * 23; omega)⟩) (pre_v (pre_s hK hP hD hS hE [2, 0] rfl rfl (by decide) hFc) (va_recv hK hP (ci := 8) (q0 := 2) rfl rfl)) rfl rfl hl.1 rfl (lv_room (Nat.le_of_ble_eq_true rfl)) dX6_holds_35 ⟨Nat.le_of_ble_eq_true rfl, Nat.le_of_ble_eq_true rfl⟩) hS (fun q _ h => hFc q h) hFc (fun r u t H locs ht hvm hw hB hz1 hk1 hS => ?_)
        rw [show r = q_4 from hw]
        obtain ⟨hP1, hD1⟩ := hB
        rw [ht] at hP1
        obtain ⟨hP, hD⟩ := va_join (wr := [(ta2, .inl (cyA G 0, 32768, .inl (tf2))), (ta0, .inl (cyA G 0, 32768, .inl (tf0)))]) (w1 := [(t1, .inr (8, [.ref ta0, .ref ta1, .ref ta2, .ref ta3, .ref ta4, .ref ta5, .ref ta6, .ref ta7, .ref ta8, .int mm])), (ta1, .inl (cyA G 0, 32768, .inl (tf1)))]) hP hD [2, 0] [1, 3] rfl rfl (by decide) (by decide) hk1 hFc hP1 hD1
        have hP : va_P (DG G) clP3 [(ta2, .inl (cyA G 0, 32768, .inl (tf2))), (ta0, .inl (cyA G 0, 32768, .inl (tf0))), (t1, .inr (8, [.ref ta0, .ref ta1, .ref ta2, .ref ta3, .ref ta4, .ref ta5, .ref ta6, .ref ta7, .ref ta8, .int mm])), (ta1, .inl (cyA G 0, 32768, .inl (tf1)))] H := hP
        have hD : va_D A [(ta2, .inl (cyA G 0, 32768, .inl (tf2))), (ta0, .inl (cyA G 0, 32768, .inl (tf0))), (t1, .inr (8, [.ref ta0, .ref ta1, .ref ta2, .ref ta3, .ref ta4, .ref ta5, .ref ta6, .ref ta7, .ref ta8, .int mm])), (ta1, .inl (cyA G 0, 32768, .inl (tf1)))] := hD
        refine W.widen (k := 0) (n := 0) (Nat.le_of_ble_eq_true rfl) (Nat.le_of_ble_eq_true rfl) ?_
        refine lv_iload_n hx hb dX6_holds_38 rfl (lv_at hl 3 rfl) ?_
        obtain ⟨q_5, hq_5, hm⟩ := bind_some hm
        have hFc := va_free (wc := [(t1, .inr (8, [.ref ta0, .ref ta1, .ref ta2, .ref ta3, .ref ta4, .ref ta5, .ref ta6, .ref ta7, .ref ta8, .int mm])), (ta0, .inl (cyA G 0, 32768, .inl (tf0))), (ta1, .inl (cyA G 0, 32768, .inl (tf1))), (ta2, .inl (cyA G 0, 32768, .inl (tf2)))]) hD hS hA [2, 1, 3, 0] rfl
        refine va_calli (va_runS (As := [.ref t1, .int q_4, .int p2]) (rest := []) ⟨hx, hb, hml, hown, hts⟩ (ihd t1 q_4 p2 ta0 ta1 ta2 ta3 ta4 ta5 ta6 ta7 ta8 mm tf0 tf1 tf2 q_5 hq_5 H.size) (cwS 3 hts (gS wm1132 wm1130 wm20 wm1131) rfl rfl rfl (by decide +kernel) ⟨(by show 1 + d + 1 ≤ 1 + (d + 1); omega), (by show 8 + (4 + 11) + (21 + d * 23) ≤ 21 + (d + 1) * 23; omega)⟩) (pre_s hK hP hD hS hE [2, 1, 3, 0] rfl rfl (by decide) hFc) rfl rfl hl.1 rfl (lv_room (Nat.le_of_ble_eq_true rfl)) dX6_holds_39 ⟨Nat.le_of_ble_eq_true rfl, Nat.le_of_ble_eq_true rfl⟩) hS (fun q _ h => hFc q h) hFc (fun r u t H locs ht hvm hw hB hz1 hk1 hS => ?_)
        rw [show r = q_5 from hw]
        obtain ⟨hP1, hD1⟩ := hB
        rw [ht] at hP1
        obtain ⟨hP, hD⟩ := va_join (wr := []) (w1 := [(t1, .inr (8, [.ref ta0, .ref ta1, .ref ta2, .ref ta3, .ref ta4, .ref ta5, .ref ta6, .ref ta7, .ref ta8, .int mm])), (ta0, .inl (cyA G 0, 32768, .inl (tf0))), (ta1, .inl (cyA G 0, 32768, .inl (tf1))), (ta2, .inl (cyA G 0, 32768, .inl (tf2)))]) hP hD [2, 1, 3, 0] [] rfl rfl (by decide) (by decide) hk1 hFc hP1 hD1
        have hP : va_P (DG G) clP3 [(t1, .inr (8, [.ref ta0, .ref ta1, .ref ta2, .ref ta3, .ref ta4, .ref ta5, .ref ta6, .ref ta7, .ref ta8, .int mm])), (ta0, .inl (cyA G 0, 32768, .inl (tf0))), (ta1, .inl (cyA G 0, 32768, .inl (tf1))), (ta2, .inl (cyA G 0, 32768, .inl (tf2)))] H := hP
        have hD : va_D A [(t1, .inr (8, [.ref ta0, .ref ta1, .ref ta2, .ref ta3, .ref ta4, .ref ta5, .ref ta6, .ref ta7, .ref ta8, .int mm])), (ta0, .inl (cyA G 0, 32768, .inl (tf0))), (ta1, .inl (cyA G 0, 32768, .inl (tf1))), (ta2, .inl (cyA G 0, 32768, .inl (tf2)))] := hD
        refine W.widen (k := 0) (n := 0) (Nat.le_of_ble_eq_true rfl) (Nat.le_of_ble_eq_true rfl) ?_
        refine lv_if_ne (tgt := 58) hx hb dX6_holds_42 (by decide) (fun c_6 => ?_) (fun c_6 => ?_)
        · rw [if_neg c_6] at hm
          refine lv_iconst (v := 1) hx hb dX6_holds_58 (by decide) ?_
          refine lv_goto (tgt := 63) hx hb dX6_holds_59 (by decide) ?_
          obtain rfl := Option.some.inj hm
          have hP9 := hP.sub (ws' := [(t1, .inr (8, [.ref ta0, .ref ta1, .ref ta2, .ref ta3, .ref ta4, .ref ta5, .ref ta6, .ref ta7, .ref ta8, .int mm])), (ta0, .inl (cyA G 0, 32768, .inl (tf0))), (ta1, .inl (cyA G 0, 32768, .inl (tf1))), (ta2, .inl (cyA G 0, 32768, .inl (tf2)))]) [0, 1, 2, 3] rfl
          have hD9 := hD.sub (ws' := [(t1, .inr (8, [.ref ta0, .ref ta1, .ref ta2, .ref ta3, .ref ta4, .ref ta5, .ref ta6, .ref ta7, .ref ta8, .int mm])), (ta0, .inl (cyA G 0, 32768, .inl (tf0))), (ta1, .inl (cyA G 0, 32768, .inl (tf1))), (ta2, .inl (cyA G 0, 32768, .inl (tf2)))]) [0, 1, 2, 3] (by decide) rfl
          refine W.widen (k := 0) (n := 0) (Nat.le_of_ble_eq_true rfl) (Nat.le_of_ble_eq_true rfl) ?_
          exact W.zret (v := 1) (ty := .boolean) hx hb hr (by decide) (fun t ht hW => ⟨⟨1, (), rfl, rfl, ⟨by rw [ht]; exact hP9, hD9⟩⟩, hS.F ht⟩) hS.2.2 dX6_holds_63 hlocks
        · rw [if_pos c_6] at hm
          refine lv_aload_n hx hb dX6_holds_45 rfl (lv_at hl 1 rfl) ?_
          refine lv_aload_n hx hb dX6_holds_46 rfl (lv_at hl 1 rfl) ?_
          refine lv_iload_n hx hb dX6_holds_47 rfl (lv_at hl 2 rfl) ?_
          obtain ⟨q_7, hq_7, hm⟩ := bind_some hm
          have hFc := va_free (wc := [(t1, .inr (8, [.ref ta0, .ref ta1, .ref ta2, .ref ta3, .ref ta4, .ref ta5, .ref ta6, .ref ta7, .ref ta8, .int mm])), (ta2, .inl (cyA G 0, 32768, .inl (tf2)))]) hD hS hA [0, 3] rfl
          refine va_calli (va_runV (As := [.int p1]) (rest := [.ref t1]) ⟨hx, hb, hml, hown, hts⟩ (k_X9_secondOf l hfl G t1 p1 ta0 ta1 ta2 ta3 ta4 ta5 ta6 ta7 ta8 mm tf2 q_7 hq_7 H.size) (cwV 1 hts (gV wm459 wm460 wm461 wm2 wm462) rfl rfl rfl (by decide +kernel) ⟨(by show 1 ≤ 1 + (d + 1); omega), (by show 21 ≤ 21 + (d + 1) * 23; omega)⟩) (pre_v (pre_s hK hP hD hS hE [0, 3] rfl rfl (by decide) hFc) (va_recv hK hP (ci := 8) (q0 := 0) rfl rfl)) rfl rfl hl.1 rfl (lv_room (Nat.le_of_ble_eq_true rfl)) dX6_holds_48 ⟨Nat.le_of_ble_eq_true rfl, Nat.le_of_ble_eq_true rfl⟩) hS (fun q _ h => hFc q h) hFc (fun r u t H locs ht hvm hw hB hz1 hk1 hS => ?_)
          rw [show r = q_7 from hw]
          obtain ⟨hP1, hD1⟩ := hB
          rw [ht] at hP1
          obtain ⟨hP, hD⟩ := va_join (wr := [(ta0, .inl (cyA G 0, 32768, .inl (tf0))), (ta1, .inl (cyA G 0, 32768, .inl (tf1)))]) (w1 := [(t1, .inr (8, [.ref ta0, .ref ta1, .ref ta2, .ref ta3, .ref ta4, .ref ta5, .ref ta6, .ref ta7, .ref ta8, .int mm])), (ta2, .inl (cyA G 0, 32768, .inl (tf2)))]) hP hD [0, 3] [1, 2] rfl rfl (by decide) (by decide) hk1 hFc hP1 hD1
          have hP : va_P (DG G) clP3 [(ta0, .inl (cyA G 0, 32768, .inl (tf0))), (ta1, .inl (cyA G 0, 32768, .inl (tf1))), (t1, .inr (8, [.ref ta0, .ref ta1, .ref ta2, .ref ta3, .ref ta4, .ref ta5, .ref ta6, .ref ta7, .ref ta8, .int mm])), (ta2, .inl (cyA G 0, 32768, .inl (tf2)))] H := hP
          have hD : va_D A [(ta0, .inl (cyA G 0, 32768, .inl (tf0))), (ta1, .inl (cyA G 0, 32768, .inl (tf1))), (t1, .inr (8, [.ref ta0, .ref ta1, .ref ta2, .ref ta3, .ref ta4, .ref ta5, .ref ta6, .ref ta7, .ref ta8, .int mm])), (ta2, .inl (cyA G 0, 32768, .inl (tf2)))] := hD
          refine W.widen (k := 0) (n := 0) (Nat.le_of_ble_eq_true rfl) (Nat.le_of_ble_eq_true rfl) ?_
          refine lv_iload_n hx hb dX6_holds_51 rfl (lv_at hl 3 rfl) ?_
          obtain ⟨q_8, hq_8, hm⟩ := bind_some hm
          have hFc := va_free (wc := [(t1, .inr (8, [.ref ta0, .ref ta1, .ref ta2, .ref ta3, .ref ta4, .ref ta5, .ref ta6, .ref ta7, .ref ta8, .int mm])), (ta0, .inl (cyA G 0, 32768, .inl (tf0))), (ta1, .inl (cyA G 0, 32768, .inl (tf1))), (ta2, .inl (cyA G 0, 32768, .inl (tf2)))]) hD hS hA [2, 0, 1, 3] rfl
          refine va_calli (va_runS (As := [.ref t1, .int q_7, .int p2]) (rest := []) ⟨hx, hb, hml, hown, hts⟩ (ihd t1 q_7 p2 ta0 ta1 ta2 ta3 ta4 ta5 ta6 ta7 ta8 mm tf0 tf1 tf2 q_8 hq_8 H.size) (cwS 3 hts (gS wm1132 wm1130 wm20 wm1131) rfl rfl rfl (by decide +kernel) ⟨(by show 1 + d + 1 ≤ 1 + (d + 1); omega), (by show 8 + (4 + 11) + (21 + d * 23) ≤ 21 + (d + 1) * 23; omega)⟩) (pre_s hK hP hD hS hE [2, 0, 1, 3] rfl rfl (by decide) hFc) rfl rfl hl.1 rfl (lv_room (Nat.le_of_ble_eq_true rfl)) dX6_holds_52 ⟨Nat.le_of_ble_eq_true rfl, Nat.le_of_ble_eq_true rfl⟩) hS (fun q _ h => hFc q h) hFc (fun r u t H locs ht hvm hw hB hz1 hk1 hS => ?_)
          rw [show r = q_8 from hw]
          obtain ⟨hP1, hD1⟩ := hB
          rw [ht] at hP1
          obtain ⟨hP, hD⟩ := va_join (wr := []) (w1 := [(t1, .inr (8, [.ref ta0, .ref ta1, .ref ta2, .ref ta3, .ref ta4, .ref ta5, .ref ta6, .ref ta7, .ref ta8, .int mm])), (ta0, .inl (cyA G 0, 32768, .inl (tf0))), (ta1, .inl (cyA G 0, 32768, .inl (tf1))), (ta2, .inl (cyA G 0, 32768, .inl (tf2)))]) hP hD [2, 0, 1, 3] [] rfl rfl (by decide) (by decide) hk1 hFc hP1 hD1
          have hP : va_P (DG G) clP3 [(t1, .inr (8, [.ref ta0, .ref ta1, .ref ta2, .ref ta3, .ref ta4, .ref ta5, .ref ta6, .ref ta7, .ref ta8, .int mm])), (ta0, .inl (cyA G 0, 32768, .inl (tf0))), (ta1, .inl (cyA G 0, 32768, .inl (tf1))), (ta2, .inl (cyA G 0, 32768, .inl (tf2)))] H := hP
          have hD : va_D A [(t1, .inr (8, [.ref ta0, .ref ta1, .ref ta2, .ref ta3, .ref ta4, .ref ta5, .ref ta6, .ref ta7, .ref ta8, .int mm])), (ta0, .inl (cyA G 0, 32768, .inl (tf0))), (ta1, .inl (cyA G 0, 32768, .inl (tf1))), (ta2, .inl (cyA G 0, 32768, .inl (tf2)))] := hD
          refine W.widen (k := 0) (n := 0) (Nat.le_of_ble_eq_true rfl) (Nat.le_of_ble_eq_true rfl) ?_
          refine lv_if_eq (tgt := 62) hx hb dX6_holds_55 (by decide) (fun c_9 => ?_) (fun c_9 => ?_)
          · rw [if_pos c_9] at hm
            refine lv_iconst (v := 0) hx hb dX6_holds_62 (by decide) ?_
            obtain rfl := Option.some.inj hm
            have hP9 := hP.sub (ws' := [(t1, .inr (8, [.ref ta0, .ref ta1, .ref ta2, .ref ta3, .ref ta4, .ref ta5, .ref ta6, .ref ta7, .ref ta8, .int mm])), (ta0, .inl (cyA G 0, 32768, .inl (tf0))), (ta1, .inl (cyA G 0, 32768, .inl (tf1))), (ta2, .inl (cyA G 0, 32768, .inl (tf2)))]) [0, 1, 2, 3] rfl
            have hD9 := hD.sub (ws' := [(t1, .inr (8, [.ref ta0, .ref ta1, .ref ta2, .ref ta3, .ref ta4, .ref ta5, .ref ta6, .ref ta7, .ref ta8, .int mm])), (ta0, .inl (cyA G 0, 32768, .inl (tf0))), (ta1, .inl (cyA G 0, 32768, .inl (tf1))), (ta2, .inl (cyA G 0, 32768, .inl (tf2)))]) [0, 1, 2, 3] (by decide) rfl
            refine W.widen (k := 0) (n := 0) (Nat.le_of_ble_eq_true rfl) (Nat.le_of_ble_eq_true rfl) ?_
            exact W.zret (v := 0) (ty := .boolean) hx hb hr (by decide) (fun t ht hW => ⟨⟨0, (), rfl, rfl, ⟨by rw [ht]; exact hP9, hD9⟩⟩, hS.F ht⟩) hS.2.2 dX6_holds_63 hlocks
          · rw [if_neg c_9] at hm
            refine lv_iconst (v := 1) hx hb dX6_holds_58 (by decide) ?_
            refine lv_goto (tgt := 63) hx hb dX6_holds_59 (by decide) ?_
            obtain rfl := Option.some.inj hm
            have hP9 := hP.sub (ws' := [(t1, .inr (8, [.ref ta0, .ref ta1, .ref ta2, .ref ta3, .ref ta4, .ref ta5, .ref ta6, .ref ta7, .ref ta8, .int mm])), (ta0, .inl (cyA G 0, 32768, .inl (tf0))), (ta1, .inl (cyA G 0, 32768, .inl (tf1))), (ta2, .inl (cyA G 0, 32768, .inl (tf2)))]) [0, 1, 2, 3] rfl
            have hD9 := hD.sub (ws' := [(t1, .inr (8, [.ref ta0, .ref ta1, .ref ta2, .ref ta3, .ref ta4, .ref ta5, .ref ta6, .ref ta7, .ref ta8, .int mm])), (ta0, .inl (cyA G 0, 32768, .inl (tf0))), (ta1, .inl (cyA G 0, 32768, .inl (tf1))), (ta2, .inl (cyA G 0, 32768, .inl (tf2)))]) [0, 1, 2, 3] (by decide) rfl
            refine W.widen (k := 0) (n := 0) (Nat.le_of_ble_eq_true rfl) (Nat.le_of_ble_eq_true rfl) ?_
            exact W.zret (v := 1) (ty := .boolean) hx hb hr (by decide) (fun t ht hW => ⟨⟨1, (), rfl, rfl, ⟨by rw [ht]; exact hP9, hD9⟩⟩, hS.F ht⟩) hS.2.2 dX6_holds_63 hlocks
    · rw [if_pos c_2] at hm
      refine lv_aload_n hx hb dX6_holds_11 rfl (lv_at hl 1 rfl) ?_
      refine lv_iload_n hx hb dX6_holds_12 rfl (lv_at hl 2 rfl) ?_
      obtain ⟨q_10, hq_10, hm⟩ := bind_some hm
      have hFc := va_free (wc := [(t1, .inr (8, [.ref ta0, .ref ta1, .ref ta2, .ref ta3, .ref ta4, .ref ta5, .ref ta6, .ref ta7, .ref ta8, .int mm])), (ta1, .inl (cyA G 0, 32768, .inl (tf1)))]) hD hS hA [2, 0] rfl
      refine va_calli (va_runV (As := [.int p1]) (rest := []) ⟨hx, hb, hml, hown, hts⟩ (k_X9_firstOf l hfl G t1 p1 ta0 ta1 ta2 ta3 ta4 ta5 ta6 ta7 ta8 mm tf1 q_10 hq_10 H.size) (cwV 1 hts (gV wm456 wm431 wm432 wm2 wm433) rfl rfl rfl (by decide +kernel) ⟨(by show 1 ≤ 1 + (d + 1); omega), (by show 21 ≤ 21 + (d + 1) * 23; omega)⟩) (pre_v (pre_s hK hP hD hS hE [2, 0] rfl rfl (by decide) hFc) (va_recv hK hP (ci := 8) (q0 := 2) rfl rfl)) rfl rfl hl.1 rfl (lv_room (Nat.le_of_ble_eq_true rfl)) dX6_holds_13 ⟨Nat.le_of_ble_eq_true rfl, Nat.le_of_ble_eq_true rfl⟩) hS (fun q _ h => hFc q h) hFc (fun r u t H locs ht hvm hw hB hz1 hk1 hS => ?_)
      rw [show r = q_10 from hw]
      obtain ⟨hP1, hD1⟩ := hB
      rw [ht] at hP1
      obtain ⟨hP, hD⟩ := va_join (wr := [(ta2, .inl (cyA G 0, 32768, .inl (tf2))), (ta0, .inl (cyA G 0, 32768, .inl (tf0)))]) (w1 := [(t1, .inr (8, [.ref ta0, .ref ta1, .ref ta2, .ref ta3, .ref ta4, .ref ta5, .ref ta6, .ref ta7, .ref ta8, .int mm])), (ta1, .inl (cyA G 0, 32768, .inl (tf1)))]) hP hD [2, 0] [1, 3] rfl rfl (by decide) (by decide) hk1 hFc hP1 hD1
      have hP : va_P (DG G) clP3 [(ta2, .inl (cyA G 0, 32768, .inl (tf2))), (ta0, .inl (cyA G 0, 32768, .inl (tf0))), (t1, .inr (8, [.ref ta0, .ref ta1, .ref ta2, .ref ta3, .ref ta4, .ref ta5, .ref ta6, .ref ta7, .ref ta8, .int mm])), (ta1, .inl (cyA G 0, 32768, .inl (tf1)))] H := hP
      have hD : va_D A [(ta2, .inl (cyA G 0, 32768, .inl (tf2))), (ta0, .inl (cyA G 0, 32768, .inl (tf0))), (t1, .inr (8, [.ref ta0, .ref ta1, .ref ta2, .ref ta3, .ref ta4, .ref ta5, .ref ta6, .ref ta7, .ref ta8, .int mm])), (ta1, .inl (cyA G 0, 32768, .inl (tf1)))] := hD
      refine W.widen (k := 0) (n := 0) (Nat.le_of_ble_eq_true rfl) (Nat.le_of_ble_eq_true rfl) ?_
      refine lv_iload_n hx hb dX6_holds_16 rfl (lv_at hl 3 rfl) ?_
      refine lv_icmp_ne (tgt := 24) hx hb dX6_holds_17 (by decide) (fun c_11 => ?_) (fun c_11 => ?_)
      · rw [if_neg c_11] at hm
        refine lv_iconst (v := 0) hx hb dX6_holds_24 (by decide) ?_
        obtain rfl := Option.some.inj hm
        have hP9 := hP.sub (ws' := [(t1, .inr (8, [.ref ta0, .ref ta1, .ref ta2, .ref ta3, .ref ta4, .ref ta5, .ref ta6, .ref ta7, .ref ta8, .int mm])), (ta0, .inl (cyA G 0, 32768, .inl (tf0))), (ta1, .inl (cyA G 0, 32768, .inl (tf1))), (ta2, .inl (cyA G 0, 32768, .inl (tf2)))]) [2, 1, 3, 0] rfl
        have hD9 := hD.sub (ws' := [(t1, .inr (8, [.ref ta0, .ref ta1, .ref ta2, .ref ta3, .ref ta4, .ref ta5, .ref ta6, .ref ta7, .ref ta8, .int mm])), (ta0, .inl (cyA G 0, 32768, .inl (tf0))), (ta1, .inl (cyA G 0, 32768, .inl (tf1))), (ta2, .inl (cyA G 0, 32768, .inl (tf2)))]) [2, 1, 3, 0] (by decide) rfl
        refine W.widen (k := 0) (n := 0) (Nat.le_of_ble_eq_true rfl) (Nat.le_of_ble_eq_true rfl) ?_
        exact W.zret (v := 0) (ty := .boolean) hx hb hr (by decide) (fun t ht hW => ⟨⟨0, (), rfl, rfl, ⟨by rw [ht]; exact hP9, hD9⟩⟩, hS.F ht⟩) hS.2.2 dX6_holds_25 hlocks
      · rw [if_pos c_11] at hm
        refine lv_iconst (v := 1) hx hb dX6_holds_20 (by decide) ?_
        refine lv_goto (tgt := 25) hx hb dX6_holds_21 (by decide) ?_
        obtain rfl := Option.some.inj hm
        have hP9 := hP.sub (ws' := [(t1, .inr (8, [.ref ta0, .ref ta1, .ref ta2, .ref ta3, .ref ta4, .ref ta5, .ref ta6, .ref ta7, .ref ta8, .int mm])), (ta0, .inl (cyA G 0, 32768, .inl (tf0))), (ta1, .inl (cyA G 0, 32768, .inl (tf1))), (ta2, .inl (cyA G 0, 32768, .inl (tf2)))]) [2, 1, 3, 0] rfl
        have hD9 := hD.sub (ws' := [(t1, .inr (8, [.ref ta0, .ref ta1, .ref ta2, .ref ta3, .ref ta4, .ref ta5, .ref ta6, .ref ta7, .ref ta8, .int mm])), (ta0, .inl (cyA G 0, 32768, .inl (tf0))), (ta1, .inl (cyA G 0, 32768, .inl (tf1))), (ta2, .inl (cyA G 0, 32768, .inl (tf2)))]) [2, 1, 3, 0] (by decide) rfl
        refine W.widen (k := 0) (n := 0) (Nat.le_of_ble_eq_true rfl) (Nat.le_of_ble_eq_true rfl) ?_
        exact W.zret (v := 1) (ty := .boolean) hx hb hr (by decide) (fun t ht hW => ⟨⟨1, (), rfl, rfl, ⟨by rw [ht]; exact hP9, hD9⟩⟩, hS.F ht⟩) hS.2.2 dX6_holds_25 hlocks
def f_X6_meet : Nat → (Int32) → (Nat → Int32) → (Nat → Int32) → (Nat → Int32) → (Int32) → (Int32) → Option (Int32)
  | 0, _, _, _, _, _, _ => none
  | d + 1, mm, tf0, tf1, tf2, p1, p2 => (Option.bind (f_X9_kindOf mm tf0 p1) (fun q_1 => (Option.bind (f_X9_kindOf mm tf0 p2) (fun q_2 => (if q_1 = 1 then some 1 else (if q_2 = 1 then some 1 else (if q_1 = 3 then (if q_2 = 3 then (Option.bind (f_X9_firstOf mm tf1 p1) (fun q_27 => (Option.bind (f_X9_firstOf mm tf1 p2) (fun q_28 => (if q_27 = q_28 then some 1 else some 0))))) else (if q_1 = 7 then (if q_2 = 7 then (Option.bind (f_X9_firstOf mm tf1 p1) (fun q_19 => (Option.bind (f_X9_firstOf mm tf1 p2) (fun q_20 => (Option.bind (f_X6_meet d mm tf0 tf1 tf2 q_19 q_20) (fun q_21 => (if q_21 = 0 then some 0 else (Option.bind (f_X9_secondOf mm tf2 p1) (fun q_23 => (Option.bind (f_X9_secondOf mm tf2 p2) (fun q_24 => (Option.bind (f_X6_meet d mm tf0 tf1 tf2 q_23 q_24) (fun q_25 => (if q_25 = 0 then some 0 else some 1)))))))))))))) else some 0) else some 0)) else (if q_1 = 7 then (if q_2 = 7 then (Option.bind (f_X9_firstOf mm tf1 p1) (fun q_8 => (Option.bind (f_X9_firstOf mm tf1 p2) (fun q_9 => (Option.bind (f_X6_meet d mm tf0 tf1 tf2 q_8 q_9) (fun q_10 => (if q_10 = 0 then some 0 else (Option.bind (f_X9_secondOf mm tf2 p1) (fun q_12 => (Option.bind (f_X9_secondOf mm tf2 p2) (fun q_13 => (Option.bind (f_X6_meet d mm tf0 tf1 tf2 q_12 q_13) (fun q_14 => (if q_14 = 0 then some 0 else some 1)))))))))))))) else some 0) else some 0))))))))
set_option maxHeartbeats 4000000 in
set_option maxRecDepth 100000 in
theorem k_X6_meet (l : Launch) (hfl : l.stackTraces = false) (G : GC) : ∀ (d : Nat) (t1 : Nat) (p1 : Int32) (p2 : Int32) (ta0 : Nat) (ta1 : Nat) (ta2 : Nat) (ta3 : Nat) (ta4 : Nat) (ta5 : Nat) (ta6 : Nat) (ta7 : Nat) (ta8 : Nat) (mm : Int32) (tf0 : Nat → Int32) (tf1 : Nat → Int32) (tf2 : Nat → Int32) (r9 : Int32), f_X6_meet d mm tf0 tf1 tf2 p1 p2 = some r9 → ∀ (sz : Nat), Met l yX6_meet (Cond.code yX6_meet cX6_meet 5 (some .boolean) :: W0) ({ frames := 1 + d, cells := 0, slots := 0, locals := 21 + d * 24 }) (va_Pc [.ref t1, .int p1, .int p2] (WD G [(t1, .inr (8, [.ref ta0, .ref ta1, .ref ta2, .ref ta3, .ref ta4, .ref ta5, .ref ta6, .ref ta7, .ref ta8, .int mm])), (ta0, .inl (cyA G 0, 32768, .inl (tf0))), (ta1, .inl (cyA G 0, 32768, .inl (tf1))), (ta2, .inl (cyA G 0, 32768, .inl (tf2)))] sz)) (va_Qi (fun (r : Int32) (_ : Unit) => r = r9) (fun _ t => PW G (va_A [(t1, .inr (8, [.ref ta0, .ref ta1, .ref ta2, .ref ta3, .ref ta4, .ref ta5, .ref ta6, .ref ta7, .ref ta8, .int mm])), (ta0, .inl (cyA G 0, 32768, .inl (tf0))), (ta1, .inl (cyA G 0, 32768, .inl (tf1))), (ta2, .inl (cyA G 0, 32768, .inl (tf2)))] sz) [(t1, .inr (8, [.ref ta0, .ref ta1, .ref ta2, .ref ta3, .ref ta4, .ref ta5, .ref ta6, .ref ta7, .ref ta8, .int mm])), (ta0, .inl (cyA G 0, 32768, .inl (tf0))), (ta1, .inl (cyA G 0, 32768, .inl (tf1))), (ta2, .inl (cyA G 0, 32768, .inl (tf2)))] t) (va_A [(t1, .inr (8, [.ref ta0, .ref ta1, .ref ta2, .ref ta3, .ref ta4, .ref ta5, .ref ta6, .ref ta7, .ref ta8, .int mm])), (ta0, .inl (cyA G 0, 32768, .inl (tf0))), (ta1, .inl (cyA G 0, 32768, .inl (tf1))), (ta2, .inl (cyA G 0, 32768, .inl (tf2)))] sz)) 0 0 (va_A [(t1, .inr (8, [.ref ta0, .ref ta1, .ref ta2, .ref ta3, .ref ta4, .ref ta5, .ref ta6, .ref ta7, .ref ta8, .int mm])), (ta0, .inl (cyA G 0, 32768, .inl (tf0))), (ta1, .inl (cyA G 0, 32768, .inl (tf1))), (ta2, .inl (cyA G 0, 32768, .inl (tf2)))] sz) := by
  intro d
  induction d with
  | zero =>
    intro t1 p1 p2 ta0 ta1 ta2 ta3 ta4 ta5 ta6 ta7 ta8 mm tf0 tf1 tf2 r9 hm
    rw [f_X6_meet] at hm
    cases hm
  | succ d ihd =>
    intro t1 p1 p2 ta0 ta1 ta2 ta3 ta4 ta5 ta6 ta7 ta8 mm tf0 tf1 tf2 r9 hm sz
    rw [f_X6_meet] at hm
    refine Met.ofW (cc := cX6_meet) (maxL := 5) (ret := (some .boolean)) (by decide) rfl ?_
    intro p e s m args below meth c s₁ B hml hv
    obtain ⟨rfl, hsz, hP, hK, hD0, hE⟩ := hv
    have hx := B.exec
    have hb := B.bytes
    have hr := B.returns
    have hts := w0_tail B.pre
    have hown : s.vm.findClass RX6 = some m.cls := findClass_of_methodNamed B.named
    have hlocks := B.notSynchronized
    subst hsz
    have hD := hD0.self (sz := s.heap.size)
    generalize hAe : va_A [(t1, .inr (8, [.ref ta0, .ref ta1, .ref ta2, .ref ta3, .ref ta4, .ref ta5, .ref ta6, .ref ta7, .ref ta8, .int mm])), (ta0, .inl (cyA G 0, 32768, .inl (tf0))), (ta1, .inl (cyA G 0, 32768, .inl (tf1))), (ta2, .inl (cyA G 0, 32768, .inl (tf2)))] s.heap.size = A at hD hE ⊢
    have hA : ∀ q : Nat, s.heap.size ≤ q → A q := fun q h => by rw [← hAe]; exact Or.inr h
    have hS : va_S A s.heap s.heap [] := va_S.rf
    obtain ⟨H, hHe⟩ : ∃ H : Heap, H = s.heap := ⟨_, rfl⟩
    have hP : va_P (DG G) clP3 [(t1, .inr (8, [.ref ta0, .ref ta1, .ref ta2, .ref ta3, .ref ta4, .ref ta5, .ref ta6, .ref ta7, .ref ta8, .int mm])), (ta0, .inl (cyA G 0, 32768, .inl (tf0))), (ta1, .inl (cyA G 0, 32768, .inl (tf1))), (ta2, .inl (cyA G 0, 32768, .inl (tf2)))] H := by rw [hHe]; exact hP
    have hS : va_S A s.heap H [] := by rw [hHe]; exact hS
    have hl := lv_entry ([.ref t1, .int p1, .int p2]) (n := 5) (Nat.le_of_ble_eq_true rfl)
    rw [lg_entry_eq, ← hHe]
    generalize (lg_sl ([.ref t1, .int p1, .int p2]) ++ List.replicate (5 - (lg_sl ([.ref t1, .int p1, .int p2])).length) Slot.unset).toArray = ls at hl ⊢
    have hl : lv_has ls 5 [(0, .ref t1), (1, .int p1), (2, .int p2)] := hl
    refine lv_aload_n hx hb dX6_meet_0 rfl (lv_at hl 0 rfl) ?_
    refine lv_iload_n hx hb dX6_meet_1 rfl (lv_at hl 1 rfl) ?_
    obtain ⟨q_1, hq_1, hm⟩ := bind_some hm
    have hFc := va_free (wc := [(t1, .inr (8, [.ref ta0, .ref ta1, .ref ta2, .ref ta3, .ref ta4, .ref ta5, .ref ta6, .ref ta7, .ref ta8, .int mm])), (ta0, .inl (cyA G 0, 32768, .inl (tf0)))]) hD hS hA [0, 1] rfl
    refine va_calli (va_runV (As := [.int p1]) (rest := []) ⟨hx, hb, hml, hown, hts⟩ (k_X9_kindOf l hfl G t1 p1 ta0 ta1 ta2 ta3 ta4 ta5 ta6 ta7 ta8 mm tf0 q_1 hq_1 H.size) (cwV 1 hts (gV wm455 wm435 wm436 wm2 wm437) rfl rfl rfl (by decide +kernel) ⟨(by show 1 ≤ 1 + (d + 1); omega), (by show 21 ≤ 21 + (d + 1) * 24; omega)⟩) (pre_v (pre_s hK hP hD hS hE [0, 1] rfl rfl (by decide) hFc) (va_recv hK hP (ci := 8) (q0 := 0) rfl rfl)) rfl rfl hl.1 rfl (lv_room (Nat.le_of_ble_eq_true rfl)) dX6_meet_2 ⟨Nat.le_of_ble_eq_true rfl, Nat.le_of_ble_eq_true rfl⟩) hS (fun q _ h => hFc q h) hFc (fun r u t H locs ht hvm hw hB hz1 hk1 hS => ?_)
    rw [show r = q_1 from hw]
    obtain ⟨hP1, hD1⟩ := hB
    rw [ht] at hP1
    obtain ⟨hP, hD⟩ := va_join (wr := [(ta1, .inl (cyA G 0, 32768, .inl (tf1))), (ta2, .inl (cyA G 0, 32768, .inl (tf2)))]) (w1 := [(t1, .inr (8, [.ref ta0, .ref ta1, .ref ta2, .ref ta3, .ref ta4, .ref ta5, .ref ta6, .ref ta7, .ref ta8, .int mm])), (ta0, .inl (cyA G 0, 32768, .inl (tf0)))]) hP hD [0, 1] [2, 3] rfl rfl (by decide) (by decide) hk1 hFc hP1 hD1
    have hP : va_P (DG G) clP3 [(ta1, .inl (cyA G 0, 32768, .inl (tf1))), (ta2, .inl (cyA G 0, 32768, .inl (tf2))), (t1, .inr (8, [.ref ta0, .ref ta1, .ref ta2, .ref ta3, .ref ta4, .ref ta5, .ref ta6, .ref ta7, .ref ta8, .int mm])), (ta0, .inl (cyA G 0, 32768, .inl (tf0)))] H := hP
    have hD : va_D A [(ta1, .inl (cyA G 0, 32768, .inl (tf1))), (ta2, .inl (cyA G 0, 32768, .inl (tf2))), (t1, .inr (8, [.ref ta0, .ref ta1, .ref ta2, .ref ta3, .ref ta4, .ref ta5, .ref ta6, .ref ta7, .ref ta8, .int mm])), (ta0, .inl (cyA G 0, 32768, .inl (tf0)))] := hD
    refine W.widen (k := 0) (n := 0) (Nat.le_of_ble_eq_true rfl) (Nat.le_of_ble_eq_true rfl) ?_
    refine lv_istore_n (lv' := [(3, .int q_1), (0, .ref t1), (1, .int p1), (2, .int p2)]) hx hb dX6_meet_5 rfl hl (by decide) rfl (fun ls hl => ?_)
    refine lv_aload_n hx hb dX6_meet_6 rfl (lv_at hl 1 rfl) ?_
    refine lv_iload_n hx hb dX6_meet_7 rfl (lv_at hl 3 rfl) ?_
    obtain ⟨q_2, hq_2, hm⟩ := bind_some hm
    have hFc := va_free (wc := [(t1, .inr (8, [.ref ta0, .ref ta1, .ref ta2, .ref ta3, .ref ta4, .ref ta5, .ref ta6, .ref ta7, .ref ta8, .int mm])), (ta0, .inl (cyA G 0, 32768, .inl (tf0)))]) hD hS hA [2, 3] rfl
    refine va_calli (va_runV (As := [.int p2]) (rest := []) ⟨hx, hb, hml, hown, hts⟩ (k_X9_kindOf l hfl G t1 p2 ta0 ta1 ta2 ta3 ta4 ta5 ta6 ta7 ta8 mm tf0 q_2 hq_2 H.size) (cwV 1 hts (gV wm455 wm435 wm436 wm2 wm437) rfl rfl rfl (by decide +kernel) ⟨(by show 1 ≤ 1 + (d + 1); omega), (by show 21 ≤ 21 + (d + 1) * 24; omega)⟩) (pre_v (pre_s hK hP hD hS hE [2, 3] rfl rfl (by decide) hFc) (va_recv hK hP (ci := 8) (q0 := 2) rfl rfl)) rfl rfl hl.1 rfl (lv_room (Nat.le_of_ble_eq_true rfl)) dX6_meet_8 ⟨Nat.le_of_ble_eq_true rfl, Nat.le_of_ble_eq_true rfl⟩) hS (fun q _ h => hFc q h) hFc (fun r u t H locs ht hvm hw hB hz1 hk1 hS => ?_)
    rw [show r = q_2 from hw]
    obtain ⟨hP1, hD1⟩ := hB
    rw [ht] at hP1
    obtain ⟨hP, hD⟩ := va_join (wr := [(ta1, .inl (cyA G 0, 32768, .inl (tf1))), (ta2, .inl (cyA G 0, 32768, .inl (tf2)))]) (w1 := [(t1, .inr (8, [.ref ta0, .ref ta1, .ref ta2, .ref ta3, .ref ta4, .ref ta5, .ref ta6, .ref ta7, .ref ta8, .int mm])), (ta0, .inl (cyA G 0, 32768, .inl (tf0)))]) hP hD [2, 3] [0, 1] rfl rfl (by decide) (by decide) hk1 hFc hP1 hD1
    have hP : va_P (DG G) clP3 [(ta1, .inl (cyA G 0, 32768, .inl (tf1))), (ta2, .inl (cyA G 0, 32768, .inl (tf2))), (t1, .inr (8, [.ref ta0, .ref ta1, .ref ta2, .ref ta3, .ref ta4, .ref ta5, .ref ta6, .ref ta7, .ref ta8, .int mm])), (ta0, .inl (cyA G 0, 32768, .inl (tf0)))] H := hP
    have hD : va_D A [(ta1, .inl (cyA G 0, 32768, .inl (tf1))), (ta2, .inl (cyA G 0, 32768, .inl (tf2))), (t1, .inr (8, [.ref ta0, .ref ta1, .ref ta2, .ref ta3, .ref ta4, .ref ta5, .ref ta6, .ref ta7, .ref ta8, .int mm])), (ta0, .inl (cyA G 0, 32768, .inl (tf0)))] := hD
    refine W.widen (k := 0) (n := 0) (Nat.le_of_ble_eq_true rfl) (Nat.le_of_ble_eq_true rfl) ?_
    refine lv_istore (lv' := [(4, .int q_2), (3, .int q_1), (0, .ref t1), (1, .int p1), (2, .int p2)]) hx hb dX6_meet_11 hl (by decide) rfl (fun ls hl => ?_)
    refine lv_iload_n hx hb dX6_meet_13 rfl (lv_at hl 1 rfl) ?_
    refine lv_iconst (v := 1) hx hb dX6_meet_14 (by decide) ?_
    refine lv_icmp_eq (tgt := 24) hx hb dX6_meet_15 (by decide) (fun c_3 => ?_) (fun c_3 => ?_)
    · rw [if_pos c_3] at hm
      refine lv_iconst (v := 1) hx hb dX6_meet_24 (by decide) ?_
      obtain rfl := Option.some.inj hm
      have hP9 := hP.sub (ws' := [(t1, .inr (8, [.ref ta0, .ref ta1, .ref ta2, .ref ta3, .ref ta4, .ref ta5, .ref ta6, .ref ta7, .ref ta8, .int mm])), (ta0, .inl (cyA G 0, 32768, .inl (tf0))), (ta1, .inl (cyA G 0, 32768, .inl (tf1))), (ta2, .inl (cyA G 0, 32768, .inl (tf2)))]) [2, 3, 0, 1] rfl
      have hD9 := hD.sub (ws' := [(t1, .inr (8, [.ref ta0, .ref ta1, .ref ta2, .ref ta3, .ref ta4, .ref ta5, .ref ta6, .ref ta7, .ref ta8, .int mm])), (ta0, .inl (cyA G 0, 32768, .inl (tf0))), (ta1, .inl (cyA G 0, 32768, .inl (tf1))), (ta2, .inl (cyA G 0, 32768, .inl (tf2)))]) [2, 3, 0, 1] (by decide) rfl
      refine W.widen (k := 0) (n := 0) (Nat.le_of_ble_eq_true rfl) (Nat.le_of_ble_eq_true rfl) ?_
      exact W.zret (v := 1) (ty := .boolean) hx hb hr (by decide) (fun t ht hW => ⟨⟨1, (), rfl, rfl, ⟨by rw [ht]; exact hP9, hD9⟩⟩, hS.F ht⟩) hS.2.2 dX6_meet_25 hlocks
    · rw [if_neg c_3] at hm
      refine lv_iload hx hb dX6_meet_18 (lv_at hl 0 rfl) ?_
      refine lv_iconst (v := 1) hx hb dX6_meet_20 (by decide) ?_
      refine lv_icmp_ne (tgt := 26) hx hb dX6_meet_21 (by decide) (fun c_4 => ?_) (fun c_4 => ?_)
      · rw [if_neg c_4] at hm
        refine lv_iload_n hx hb dX6_meet_26 rfl (lv_at hl 1 rfl) ?_
        refine lv_iconst (v := 3) hx hb dX6_meet_27 (by decide) ?_
        refine lv_icmp_ne (tgt := 56) hx hb dX6_meet_28 (by decide) (fun c_5 => ?_) (fun c_5 => ?_)
        · rw [if_neg c_5] at hm
          refine lv_iload_n hx hb dX6_meet_56 rfl (lv_at hl 1 rfl) ?_
          refine lv_bipush (v := 7) hx hb dX6_meet_57 (by decide) ?_
          refine lv_icmp_ne (tgt := 107) hx hb dX6_meet_59 (by decide) (fun c_6 => ?_) (fun c_6 => ?_)
          · rw [if_neg c_6] at hm
            refine lv_iconst (v := 0) hx hb dX6_meet_107 (by decide) ?_
            obtain rfl := Option.some.inj hm
            have hP9 := hP.sub (ws' := [(t1, .inr (8, [.ref ta0, .ref ta1, .ref ta2, .ref ta3, .ref ta4, .ref ta5, .ref ta6, .ref ta7, .ref ta8, .int mm])), (ta0, .inl (cyA G 0, 32768, .inl (tf0))), (ta1, .inl (cyA G 0, 32768, .inl (tf1))), (ta2, .inl (cyA G 0, 32768, .inl (tf2)))]) [2, 3, 0, 1] rfl
            have hD9 := hD.sub (ws' := [(t1, .inr (8, [.ref ta0, .ref ta1, .ref ta2, .ref ta3, .ref ta4, .ref ta5, .ref ta6, .ref ta7, .ref ta8, .int mm])), (ta0, .inl (cyA G 0, 32768, .inl (tf0))), (ta1, .inl (cyA G 0, 32768, .inl (tf1))), (ta2, .inl (cyA G 0, 32768, .inl (tf2)))]) [2, 3, 0, 1] (by decide) rfl
            refine W.widen (k := 0) (n := 0) (Nat.le_of_ble_eq_true rfl) (Nat.le_of_ble_eq_true rfl) ?_
            exact W.zret (v := 0) (ty := .boolean) hx hb hr (by decide) (fun t ht hW => ⟨⟨0, (), rfl, rfl, ⟨by rw [ht]; exact hP9, hD9⟩⟩, hS.F ht⟩) hS.2.2 dX6_meet_108 hlocks
          · rw [if_pos c_6] at hm
            refine lv_iload hx hb dX6_meet_62 (lv_at hl 0 rfl) ?_
            refine lv_bipush (v := 7) hx hb dX6_meet_64 (by decide) ?_
            refine lv_icmp_ne (tgt := 107) hx hb dX6_meet_66 (by decide) (fun c_7 => ?_) (fun c_7 => ?_)
            · rw [if_neg c_7] at hm
              refine lv_iconst (v := 0) hx hb dX6_meet_107 (by decide) ?_
              obtain rfl := Option.some.inj hm
              have hP9 := hP.sub (ws' := [(t1, .inr (8, [.ref ta0, .ref ta1, .ref ta2, .ref ta3, .ref ta4, .ref ta5, .ref ta6, .ref ta7, .ref ta8, .int mm])), (ta0, .inl (cyA G 0, 32768, .inl (tf0))), (ta1, .inl (cyA G 0, 32768, .inl (tf1))), (ta2, .inl (cyA G 0, 32768, .inl (tf2)))]) [2, 3, 0, 1] rfl
              have hD9 := hD.sub (ws' := [(t1, .inr (8, [.ref ta0, .ref ta1, .ref ta2, .ref ta3, .ref ta4, .ref ta5, .ref ta6, .ref ta7, .ref ta8, .int mm])), (ta0, .inl (cyA G 0, 32768, .inl (tf0))), (ta1, .inl (cyA G 0, 32768, .inl (tf1))), (ta2, .inl (cyA G 0, 32768, .inl (tf2)))]) [2, 3, 0, 1] (by decide) rfl
              refine W.widen (k := 0) (n := 0) (Nat.le_of_ble_eq_true rfl) (Nat.le_of_ble_eq_true rfl) ?_
              exact W.zret (v := 0) (ty := .boolean) hx hb hr (by decide) (fun t ht hW => ⟨⟨0, (), rfl, rfl, ⟨by rw [ht]; exact hP9, hD9⟩⟩, hS.F ht⟩) hS.2.2 dX6_meet_108 hlocks
            · rw [if_pos c_7] at hm
              refine lv_aload_n hx hb dX6_meet_69 rfl (lv_at hl 2 rfl) ?_
              refine lv_aload_n hx hb dX6_meet_70 rfl (lv_at hl 2 rfl) ?_
              refine lv_iload_n hx hb dX6_meet_71 rfl (lv_at hl 3 rfl) ?_
              obtain ⟨q_8, hq_8, hm⟩ := bind_some hm
              have hFc := va_free (wc := [(t1, .inr (8, [.ref ta0, .ref ta1, .ref ta2, .ref ta3, .ref ta4, .ref ta5, .ref ta6, .ref ta7, .ref ta8, .int mm])), (ta1, .inl (cyA G 0, 32768, .inl (tf1)))]) hD hS hA [2, 0] rfl
              refine va_calli (va_runV (As := [.int p1]) (rest := [.ref t1]) ⟨hx, hb, hml, hown, hts⟩ (k_X9_firstOf l hfl G t1 p1 ta0 ta1 ta2 ta3 ta4 ta5 ta6 ta7 ta8 mm tf1 q_8 hq_8 H.size) (cwV 1 hts (gV wm456 wm431 wm432 wm2 wm433) rfl rfl rfl (by decide +kernel) ⟨(by show 1 ≤ 1 + (d + 1); omega), (by show 21 ≤ 21 + (d + 1) * 24; omega)⟩) (pre_v (pre_s hK hP hD hS hE [2, 0] rfl rfl (by decide) hFc) (va_recv hK hP (ci := 8) (q0 := 2) rfl rfl)) rfl rfl hl.1 rfl (lv_room (Nat.le_of_ble_eq_true rfl)) dX6_meet_72 ⟨Nat.le_of_ble_eq_true rfl, Nat.le_of_ble_eq_true rfl⟩) hS (fun q _ h => hFc q h) hFc (fun r u t H locs ht hvm hw hB hz1 hk1 hS => ?_)
              rw [show r = q_8 from hw]
              obtain ⟨hP1, hD1⟩ := hB
              rw [ht] at hP1
              obtain ⟨hP, hD⟩ := va_join (wr := [(ta2, .inl (cyA G 0, 32768, .inl (tf2))), (ta0, .inl (cyA G 0, 32768, .inl (tf0)))]) (w1 := [(t1, .inr (8, [.ref ta0, .ref ta1, .ref ta2, .ref ta3, .ref ta4, .ref ta5, .ref ta6, .ref ta7, .ref ta8, .int mm])), (ta1, .inl (cyA G 0, 32768, .inl (tf1)))]) hP hD [2, 0] [1, 3] rfl rfl (by decide) (by decide) hk1 hFc hP1 hD1
              have hP : va_P (DG G) clP3 [(ta2, .inl (cyA G 0, 32768, .inl (tf2))), (ta0, .inl (cyA G 0, 32768, .inl (tf0))), (t1, .inr (8, [.ref ta0, .ref ta1, .ref ta2, .ref ta3, .ref ta4, .ref ta5, .ref ta6, .ref ta7, .ref ta8, .int mm])), (ta1, .inl (cyA G 0, 32768, .inl (tf1)))] H := hP
              have hD : va_D A [(ta2, .inl (cyA G 0, 32768, .inl (tf2))), (ta0, .inl (cyA G 0, 32768, .inl (tf0))), (t1, .inr (8, [.ref ta0, .ref ta1, .ref ta2, .ref ta3, .ref ta4, .ref ta5, .ref ta6, .ref ta7, .ref ta8, .int mm])), (ta1, .inl (cyA G 0, 32768, .inl (tf1)))] := hD
              refine W.widen (k := 0) (n := 0) (Nat.le_of_ble_eq_true rfl) (Nat.le_of_ble_eq_true rfl) ?_
              refine lv_aload_n hx hb dX6_meet_75 rfl (lv_at hl 2 rfl) ?_
              refine lv_iload_n hx hb dX6_meet_76 rfl (lv_at hl 4 rfl) ?_
              obtain ⟨q_9, hq_9, hm⟩ := bind_some hm
              have hFc := va_free (wc := [(t1, .inr (8, [.ref ta0, .ref ta1, .ref ta2, .ref ta3, .ref ta4, .ref ta5, .ref ta6, .ref ta7, .ref ta8, .int mm])), (ta1, .inl (cyA G 0, 32768, .inl (tf1)))]) hD hS hA [2, 3] rfl
              refine va_calli (va_runV (As := [.int p2]) (rest := [.int q_8, .ref t1]) ⟨hx, hb, hml, hown, hts⟩ (k_X9_firstOf l hfl G t1 p2 ta0 ta1 ta2 ta3 ta4 ta5 ta6 ta7 ta8 mm tf1 q_9 hq_9 H.size) (cwV 1 hts (gV wm456 wm431 wm432 wm2 wm433) rfl rfl rfl (by decide +kernel) ⟨(by show 1 ≤ 1 + (d + 1); omega), (by show 21 ≤ 21 + (d + 1) * 24; omega)⟩) (pre_v (pre_s hK hP hD hS hE [2, 3] rfl rfl (by decide) hFc) (va_recv hK hP (ci := 8) (q0 := 2) rfl rfl)) rfl rfl hl.1 rfl (lv_room (Nat.le_of_ble_eq_true rfl)) dX6_meet_77 ⟨Nat.le_of_ble_eq_true rfl, Nat.le_of_ble_eq_true rfl⟩) hS (fun q _ h => hFc q h) hFc (fun r u t H locs ht hvm hw hB hz1 hk1 hS => ?_)
              rw [show r = q_9 from hw]
              obtain ⟨hP1, hD1⟩ := hB
              rw [ht] at hP1
              obtain ⟨hP, hD⟩ := va_join (wr := [(ta2, .inl (cyA G 0, 32768, .inl (tf2))), (ta0, .inl (cyA G 0, 32768, .inl (tf0)))]) (w1 := [(t1, .inr (8, [.ref ta0, .ref ta1, .ref ta2, .ref ta3, .ref ta4, .ref ta5, .ref ta6, .ref ta7, .ref ta8, .int mm])), (ta1, .inl (cyA G 0, 32768, .inl (tf1)))]) hP hD [2, 3] [0, 1] rfl rfl (by decide) (by decide) hk1 hFc hP1 hD1
              have hP : va_P (DG G) clP3 [(ta2, .inl (cyA G 0, 32768, .inl (tf2))), (ta0, .inl (cyA G 0, 32768, .inl (tf0))), (t1, .inr (8, [.ref ta0, .ref ta1, .ref ta2, .ref ta3, .ref ta4, .ref ta5, .ref ta6, .ref ta7, .ref ta8, .int mm])), (ta1, .inl (cyA G 0, 32768, .inl (tf1)))] H := hP
              have hD : va_D A [(ta2, .inl (cyA G 0, 32768, .inl (tf2))), (ta0, .inl (cyA G 0, 32768, .inl (tf0))), (t1, .inr (8, [.ref ta0, .ref ta1, .ref ta2, .ref ta3, .ref ta4, .ref ta5, .ref ta6, .ref ta7, .ref ta8, .int mm])), (ta1, .inl (cyA G 0, 32768, .inl (tf1)))] := hD
              refine W.widen (k := 0) (n := 0) (Nat.le_of_ble_eq_true rfl) (Nat.le_of_ble_eq_true rfl) ?_
              obtain ⟨q_10, hq_10, hm⟩ := bind_some hm
              have hFc := va_free (wc := [(t1, .inr (8, [.ref ta0, .ref ta1, .ref ta2, .ref ta3, .ref ta4, .ref ta5, .ref ta6, .ref ta7, .ref ta8, .int mm])), (ta0, .inl (cyA G 0, 32768, .inl (tf0))), (ta1, .inl (cyA G 0, 32768, .inl (tf1))), (ta2, .inl (cyA G 0, 32768, .inl (tf2)))]) hD hS hA [2, 1, 3, 0] rfl
              refine va_calli (va_runS (As := [.ref t1, .int q_8, .int q_9]) (rest := []) ⟨hx, hb, hml, hown, hts⟩ (ihd t1 q_8 q_9 ta0 ta1 ta2 ta3 ta4 ta5 ta6 ta7 ta8 mm tf0 tf1 tf2 q_10 hq_10 H.size) (cwS 3 hts (gS wm633 wm631 wm20 wm632) rfl rfl rfl (by decide +kernel) ⟨(by show 1 + d + 1 ≤ 1 + (d + 1); omega), (by show 8 + (5 + 11) + (21 + d * 24) ≤ 21 + (d + 1) * 24; omega)⟩) (pre_s hK hP hD hS hE [2, 1, 3, 0] rfl rfl (by decide) hFc) rfl rfl hl.1 rfl (lv_room (Nat.le_of_ble_eq_true rfl)) dX6_meet_80 ⟨Nat.le_of_ble_eq_true rfl, Nat.le_of_ble_eq_true rfl⟩) hS (fun q _ h => hFc q h) hFc (fun r u t H locs ht hvm hw hB hz1 hk1 hS => ?_)
              rw [show r = q_10 from hw]
              obtain ⟨hP1, hD1⟩ := hB
              rw [ht] at hP1
              obtain ⟨hP, hD⟩ := va_join (wr := []) (w1 := [(t1, .inr (8, [.ref ta0, .ref ta1, .ref ta2, .ref ta3, .ref ta4, .ref ta5, .ref ta6, .ref ta7, .ref ta8, .int mm])), (ta0, .inl (cyA G 0, 32768, .inl (tf0))), (ta1, .inl (cyA G 0, 32768, .inl (tf1))), (ta2, .inl (cyA G 0, 32768, .inl (tf2)))]) hP hD [2, 1, 3, 0] [] rfl rfl (by decide) (by decide) hk1 hFc hP1 hD1
              have hP : va_P (DG G) clP3 [(t1, .inr (8, [.ref ta0, .ref ta1, .ref ta2, .ref ta3, .ref ta4, .ref ta5, .ref ta6, .ref ta7, .ref ta8, .int mm])), (ta0, .inl (cyA G 0, 32768, .inl (tf0))), (ta1, .inl (cyA G 0, 32768, .inl (tf1))), (ta2, .inl (cyA G 0, 32768, .inl (tf2)))] H := hP
              have hD : va_D A [(t1, .inr (8, [.ref ta0, .ref ta1, .ref ta2, .ref ta3, .ref ta4, .ref ta5, .ref ta6, .ref ta7, .ref ta8, .int mm])), (ta0, .inl (cyA G 0, 32768, .inl (tf0))), (ta1, .inl (cyA G 0, 32768, .inl (tf1))), (ta2, .inl (cyA G 0, 32768, .inl (tf2)))] := hD
              refine W.widen (k := 0) (n := 0) (Nat.le_of_ble_eq_true rfl) (Nat.le_of_ble_eq_true rfl) ?_
              refine lv_if_eq (tgt := 107) hx hb dX6_meet_83 (by decide) (fun c_11 => ?_) (fun c_11 => ?_)
              · rw [if_pos c_11] at hm
                refine lv_iconst (v := 0) hx hb dX6_meet_107 (by decide) ?_
                obtain rfl := Option.some.inj hm
                have hP9 := hP.sub (ws' := [(t1, .inr (8, [.ref ta0, .ref ta1, .ref ta2, .ref ta3, .ref ta4, .ref ta5, .ref ta6, .ref ta7, .ref ta8, .int mm])), (ta0, .inl (cyA G 0, 32768, .inl (tf0))), (ta1, .inl (cyA G 0, 32768, .inl (tf1))), (ta2, .inl (cyA G 0, 32768, .inl (tf2)))]) [0, 1, 2, 3] rfl
                have hD9 := hD.sub (ws' := [(t1, .inr (8, [.ref ta0, .ref ta1, .ref ta2, .ref ta3, .ref ta4, .ref ta5, .ref ta6, .ref ta7, .ref ta8, .int mm])), (ta0, .inl (cyA G 0, 32768, .inl (tf0))), (ta1, .inl (cyA G 0, 32768, .inl (tf1))), (ta2, .inl (cyA G 0, 32768, .inl (tf2)))]) [0, 1, 2, 3] (by decide) rfl
                refine W.widen (k := 0) (n := 0) (Nat.le_of_ble_eq_true rfl) (Nat.le_of_ble_eq_true rfl) ?_
                exact W.zret (v := 0) (ty := .boolean) hx hb hr (by decide) (fun t ht hW => ⟨⟨0, (), rfl, rfl, ⟨by rw [ht]; exact hP9, hD9⟩⟩, hS.F ht⟩) hS.2.2 dX6_meet_108 hlocks
              · rw [if_neg c_11] at hm
                refine lv_aload_n hx hb dX6_meet_86 rfl (lv_at hl 2 rfl) ?_
                refine lv_aload_n hx hb dX6_meet_87 rfl (lv_at hl 2 rfl) ?_
                refine lv_iload_n hx hb dX6_meet_88 rfl (lv_at hl 3 rfl) ?_
                obtain ⟨q_12, hq_12, hm⟩ := bind_some hm
                have hFc := va_free (wc := [(t1, .inr (8, [.ref ta0, .ref ta1, .ref ta2, .ref ta3, .ref ta4, .ref ta5, .ref ta6, .ref ta7, .ref ta8, .int mm])), (ta2, .inl (cyA G 0, 32768, .inl (tf2)))]) hD hS hA [0, 3] rfl
                refine va_calli (va_runV (As := [.int p1]) (rest := [.ref t1]) ⟨hx, hb, hml, hown, hts⟩ (k_X9_secondOf l hfl G t1 p1 ta0 ta1 ta2 ta3 ta4 ta5 ta6 ta7 ta8 mm tf2 q_12 hq_12 H.size) (cwV 1 hts (gV wm459 wm460 wm461 wm2 wm462) rfl rfl rfl (by decide +kernel) ⟨(by show 1 ≤ 1 + (d + 1); omega), (by show 21 ≤ 21 + (d + 1) * 24; omega)⟩) (pre_v (pre_s hK hP hD hS hE [0, 3] rfl rfl (by decide) hFc) (va_recv hK hP (ci := 8) (q0 := 0) rfl rfl)) rfl rfl hl.1 rfl (lv_room (Nat.le_of_ble_eq_true rfl)) dX6_meet_89 ⟨Nat.le_of_ble_eq_true rfl, Nat.le_of_ble_eq_true rfl⟩) hS (fun q _ h => hFc q h) hFc (fun r u t H locs ht hvm hw hB hz1 hk1 hS => ?_)
                rw [show r = q_12 from hw]
                obtain ⟨hP1, hD1⟩ := hB
                rw [ht] at hP1
                obtain ⟨hP, hD⟩ := va_join (wr := [(ta0, .inl (cyA G 0, 32768, .inl (tf0))), (ta1, .inl (cyA G 0, 32768, .inl (tf1)))]) (w1 := [(t1, .inr (8, [.ref ta0, .ref ta1, .ref ta2, .ref ta3, .ref ta4, .ref ta5, .ref ta6, .ref ta7, .ref ta8, .int mm])), (ta2, .inl (cyA G 0, 32768, .inl (tf2)))]) hP hD [0, 3] [1, 2] rfl rfl (by decide) (by decide) hk1 hFc hP1 hD1
                have hP : va_P (DG G) clP3 [(ta0, .inl (cyA G 0, 32768, .inl (tf0))), (ta1, .inl (cyA G 0, 32768, .inl (tf1))), (t1, .inr (8, [.ref ta0, .ref ta1, .ref ta2, .ref ta3, .ref ta4, .ref ta5, .ref ta6, .ref ta7, .ref ta8, .int mm])), (ta2, .inl (cyA G 0, 32768, .inl (tf2)))] H := hP
                have hD : va_D A [(ta0, .inl (cyA G 0, 32768, .inl (tf0))), (ta1, .inl (cyA G 0, 32768, .inl (tf1))), (t1, .inr (8, [.ref ta0, .ref ta1, .ref ta2, .ref ta3, .ref ta4, .ref ta5, .ref ta6, .ref ta7, .ref ta8, .int mm])), (ta2, .inl (cyA G 0, 32768, .inl (tf2)))] := hD
                refine W.widen (k := 0) (n := 0) (Nat.le_of_ble_eq_true rfl) (Nat.le_of_ble_eq_true rfl) ?_
                refine lv_aload_n hx hb dX6_meet_92 rfl (lv_at hl 2 rfl) ?_
                refine lv_iload_n hx hb dX6_meet_93 rfl (lv_at hl 4 rfl) ?_
                obtain ⟨q_13, hq_13, hm⟩ := bind_some hm
                have hFc := va_free (wc := [(t1, .inr (8, [.ref ta0, .ref ta1, .ref ta2, .ref ta3, .ref ta4, .ref ta5, .ref ta6, .ref ta7, .ref ta8, .int mm])), (ta2, .inl (cyA G 0, 32768, .inl (tf2)))]) hD hS hA [2, 3] rfl
                refine va_calli (va_runV (As := [.int p2]) (rest := [.int q_12, .ref t1]) ⟨hx, hb, hml, hown, hts⟩ (k_X9_secondOf l hfl G t1 p2 ta0 ta1 ta2 ta3 ta4 ta5 ta6 ta7 ta8 mm tf2 q_13 hq_13 H.size) (cwV 1 hts (gV wm459 wm460 wm461 wm2 wm462) rfl rfl rfl (by decide +kernel) ⟨(by show 1 ≤ 1 + (d + 1); omega), (by show 21 ≤ 21 + (d + 1) * 24; omega)⟩) (pre_v (pre_s hK hP hD hS hE [2, 3] rfl rfl (by decide) hFc) (va_recv hK hP (ci := 8) (q0 := 2) rfl rfl)) rfl rfl hl.1 rfl (lv_room (Nat.le_of_ble_eq_true rfl)) dX6_meet_94 ⟨Nat.le_of_ble_eq_true rfl, Nat.le_of_ble_eq_true rfl⟩) hS (fun q _ h => hFc q h) hFc (fun r u t H locs ht hvm hw hB hz1 hk1 hS => ?_)
                rw [show r = q_13 from hw]
                obtain ⟨hP1, hD1⟩ := hB
                rw [ht] at hP1
                obtain ⟨hP, hD⟩ := va_join (wr := [(ta0, .inl (cyA G 0, 32768, .inl (tf0))), (ta1, .inl (cyA G 0, 32768, .inl (tf1)))]) (w1 := [(t1, .inr (8, [.ref ta0, .ref ta1, .ref ta2, .ref ta3, .ref ta4, .ref ta5, .ref ta6, .ref ta7, .ref ta8, .int mm])), (ta2, .inl (cyA G 0, 32768, .inl (tf2)))]) hP hD [2, 3] [0, 1] rfl rfl (by decide) (by decide) hk1 hFc hP1 hD1
                have hP : va_P (DG G) clP3 [(ta0, .inl (cyA G 0, 32768, .inl (tf0))), (ta1, .inl (cyA G 0, 32768, .inl (tf1))), (t1, .inr (8, [.ref ta0, .ref ta1, .ref ta2, .ref ta3, .ref ta4, .ref ta5, .ref ta6, .ref ta7, .ref ta8, .int mm])), (ta2, .inl (cyA G 0, 32768, .inl (tf2)))] H := hP
                have hD : va_D A [(ta0, .inl (cyA G 0, 32768, .inl (tf0))), (ta1, .inl (cyA G 0, 32768, .inl (tf1))), (t1, .inr (8, [.ref ta0, .ref ta1, .ref ta2, .ref ta3, .ref ta4, .ref ta5, .ref ta6, .ref ta7, .ref ta8, .int mm])), (ta2, .inl (cyA G 0, 32768, .inl (tf2)))] := hD
                refine W.widen (k := 0) (n := 0) (Nat.le_of_ble_eq_true rfl) (Nat.le_of_ble_eq_true rfl) ?_
                obtain ⟨q_14, hq_14, hm⟩ := bind_some hm
                have hFc := va_free (wc := [(t1, .inr (8, [.ref ta0, .ref ta1, .ref ta2, .ref ta3, .ref ta4, .ref ta5, .ref ta6, .ref ta7, .ref ta8, .int mm])), (ta0, .inl (cyA G 0, 32768, .inl (tf0))), (ta1, .inl (cyA G 0, 32768, .inl (tf1))), (ta2, .inl (cyA G 0, 32768, .inl (tf2)))]) hD hS hA [2, 0, 1, 3] rfl
                refine va_calli (va_runS (As := [.ref t1, .int q_12, .int q_13]) (rest := []) ⟨hx, hb, hml, hown, hts⟩ (ihd t1 q_12 q_13 ta0 ta1 ta2 ta3 ta4 ta5 ta6 ta7 ta8 mm tf0 tf1 tf2 q_14 hq_14 H.size) (cwS 3 hts (gS wm633 wm631 wm20 wm632) rfl rfl rfl (by decide +kernel) ⟨(by show 1 + d + 1 ≤ 1 + (d + 1); omega), (by show 8 + (5 + 11) + (21 + d * 24) ≤ 21 + (d + 1) * 24; omega)⟩) (pre_s hK hP hD hS hE [2, 0, 1, 3] rfl rfl (by decide) hFc) rfl rfl hl.1 rfl (lv_room (Nat.le_of_ble_eq_true rfl)) dX6_meet_97 ⟨Nat.le_of_ble_eq_true rfl, Nat.le_of_ble_eq_true rfl⟩) hS (fun q _ h => hFc q h) hFc (fun r u t H locs ht hvm hw hB hz1 hk1 hS => ?_)
                rw [show r = q_14 from hw]
                obtain ⟨hP1, hD1⟩ := hB
                rw [ht] at hP1
                obtain ⟨hP, hD⟩ := va_join (wr := []) (w1 := [(t1, .inr (8, [.ref ta0, .ref ta1, .ref ta2, .ref ta3, .ref ta4, .ref ta5, .ref ta6, .ref ta7, .ref ta8, .int mm])), (ta0, .inl (cyA G 0, 32768, .inl (tf0))), (ta1, .inl (cyA G 0, 32768, .inl (tf1))), (ta2, .inl (cyA G 0, 32768, .inl (tf2)))]) hP hD [2, 0, 1, 3] [] rfl rfl (by decide) (by decide) hk1 hFc hP1 hD1
                have hP : va_P (DG G) clP3 [(t1, .inr (8, [.ref ta0, .ref ta1, .ref ta2, .ref ta3, .ref ta4, .ref ta5, .ref ta6, .ref ta7, .ref ta8, .int mm])), (ta0, .inl (cyA G 0, 32768, .inl (tf0))), (ta1, .inl (cyA G 0, 32768, .inl (tf1))), (ta2, .inl (cyA G 0, 32768, .inl (tf2)))] H := hP
                have hD : va_D A [(t1, .inr (8, [.ref ta0, .ref ta1, .ref ta2, .ref ta3, .ref ta4, .ref ta5, .ref ta6, .ref ta7, .ref ta8, .int mm])), (ta0, .inl (cyA G 0, 32768, .inl (tf0))), (ta1, .inl (cyA G 0, 32768, .inl (tf1))), (ta2, .inl (cyA G 0, 32768, .inl (tf2)))] := hD
                refine W.widen (k := 0) (n := 0) (Nat.le_of_ble_eq_true rfl) (Nat.le_of_ble_eq_true rfl) ?_
                refine lv_if_eq (tgt := 107) hx hb dX6_meet_100 (by decide) (fun c_15 => ?_) (fun c_15 => ?_)
                · rw [if_pos c_15] at hm
                  refine lv_iconst (v := 0) hx hb dX6_meet_107 (by decide) ?_
                  obtain rfl := Option.some.inj hm
                  have hP9 := hP.sub (ws' := [(t1, .inr (8, [.ref ta0, .ref ta1, .ref ta2, .ref ta3, .ref ta4, .ref ta5, .ref ta6, .ref ta7, .ref ta8, .int mm])), (ta0, .inl (cyA G 0, 32768, .inl (tf0))), (ta1, .inl (cyA G 0, 32768, .inl (tf1))), (ta2, .inl (cyA G 0, 32768, .inl (tf2)))]) [0, 1, 2, 3] rfl
                  have hD9 := hD.sub (ws' := [(t1, .inr (8, [.ref ta0, .ref ta1, .ref ta2, .ref ta3, .ref ta4, .ref ta5, .ref ta6, .ref ta7, .ref ta8, .int mm])), (ta0, .inl (cyA G 0, 32768, .inl (tf0))), (ta1, .inl (cyA G 0, 32768, .inl (tf1))), (ta2, .inl (cyA G 0, 32768, .inl (tf2)))]) [0, 1, 2, 3] (by decide) rfl
                  refine W.widen (k := 0) (n := 0) (Nat.le_of_ble_eq_true rfl) (Nat.le_of_ble_eq_true rfl) ?_
                  exact W.zret (v := 0) (ty := .boolean) hx hb hr (by decide) (fun t ht hW => ⟨⟨0, (), rfl, rfl, ⟨by rw [ht]; exact hP9, hD9⟩⟩, hS.F ht⟩) hS.2.2 dX6_meet_108 hlocks
                · rw [if_neg c_15] at hm
                  refine lv_iconst (v := 1) hx hb dX6_meet_103 (by decide) ?_
                  refine lv_goto (tgt := 108) hx hb dX6_meet_104 (by decide) ?_
                  obtain rfl := Option.some.inj hm
                  have hP9 := hP.sub (ws' := [(t1, .inr (8, [.ref ta0, .ref ta1, .ref ta2, .ref ta3, .ref ta4, .ref ta5, .ref ta6, .ref ta7, .ref ta8, .int mm])), (ta0, .inl (cyA G 0, 32768, .inl (tf0))), (ta1, .inl (cyA G 0, 32768, .inl (tf1))), (ta2, .inl (cyA G 0, 32768, .inl (tf2)))]) [0, 1, 2, 3] rfl
                  have hD9 := hD.sub (ws' := [(t1, .inr (8, [.ref ta0, .ref ta1, .ref ta2, .ref ta3, .ref ta4, .ref ta5, .ref ta6, .ref ta7, .ref ta8, .int mm])), (ta0, .inl (cyA G 0, 32768, .inl (tf0))), (ta1, .inl (cyA G 0, 32768, .inl (tf1))), (ta2, .inl (cyA G 0, 32768, .inl (tf2)))]) [0, 1, 2, 3] (by decide) rfl
                  refine W.widen (k := 0) (n := 0) (Nat.le_of_ble_eq_true rfl) (Nat.le_of_ble_eq_true rfl) ?_
                  exact W.zret (v := 1) (ty := .boolean) hx hb hr (by decide) (fun t ht hW => ⟨⟨1, (), rfl, rfl, ⟨by rw [ht]; exact hP9, hD9⟩⟩, hS.F ht⟩) hS.2.2 dX6_meet_108 hlocks
        · rw [if_pos c_5] at hm
          refine lv_iload hx hb dX6_meet_31 (lv_at hl 0 rfl) ?_
          refine lv_iconst (v := 3) hx hb dX6_meet_33 (by decide) ?_
          refine lv_icmp_ne (tgt := 56) hx hb dX6_meet_34 (by decide) (fun c_16 => ?_) (fun c_16 => ?_)
          · rw [if_neg c_16] at hm
            refine lv_iload_n hx hb dX6_meet_56 rfl (lv_at hl 1 rfl) ?_
            refine lv_bipush (v := 7) hx hb dX6_meet_57 (by decide) ?_
            refine lv_icmp_ne (tgt := 107) hx hb dX6_meet_59 (by decide) (fun c_17 => ?_) (fun c_17 => ?_)
            · rw [if_neg c_17] at hm
              refine lv_iconst (v := 0) hx hb dX6_meet_107 (by decide) ?_
              obtain rfl := Option.some.inj hm
              have hP9 := hP.sub (ws' := [(t1, .inr (8, [.ref ta0, .ref ta1, .ref ta2, .ref ta3, .ref ta4, .ref ta5, .ref ta6, .ref ta7, .ref ta8, .int mm])), (ta0, .inl (cyA G 0, 32768, .inl (tf0))), (ta1, .inl (cyA G 0, 32768, .inl (tf1))), (ta2, .inl (cyA G 0, 32768, .inl (tf2)))]) [2, 3, 0, 1] rfl
              have hD9 := hD.sub (ws' := [(t1, .inr (8, [.ref ta0, .ref ta1, .ref ta2, .ref ta3, .ref ta4, .ref ta5, .ref ta6, .ref ta7, .ref ta8, .int mm])), (ta0, .inl (cyA G 0, 32768, .inl (tf0))), (ta1, .inl (cyA G 0, 32768, .inl (tf1))), (ta2, .inl (cyA G 0, 32768, .inl (tf2)))]) [2, 3, 0, 1] (by decide) rfl
              refine W.widen (k := 0) (n := 0) (Nat.le_of_ble_eq_true rfl) (Nat.le_of_ble_eq_true rfl) ?_
              exact W.zret (v := 0) (ty := .boolean) hx hb hr (by decide) (fun t ht hW => ⟨⟨0, (), rfl, rfl, ⟨by rw [ht]; exact hP9, hD9⟩⟩, hS.F ht⟩) hS.2.2 dX6_meet_108 hlocks
            · rw [if_pos c_17] at hm
              refine lv_iload hx hb dX6_meet_62 (lv_at hl 0 rfl) ?_
              refine lv_bipush (v := 7) hx hb dX6_meet_64 (by decide) ?_
              refine lv_icmp_ne (tgt := 107) hx hb dX6_meet_66 (by decide) (fun c_18 => ?_) (fun c_18 => ?_)
              · rw [if_neg c_18] at hm
                refine lv_iconst (v := 0) hx hb dX6_meet_107 (by decide) ?_
                obtain rfl := Option.some.inj hm
                have hP9 := hP.sub (ws' := [(t1, .inr (8, [.ref ta0, .ref ta1, .ref ta2, .ref ta3, .ref ta4, .ref ta5, .ref ta6, .ref ta7, .ref ta8, .int mm])), (ta0, .inl (cyA G 0, 32768, .inl (tf0))), (ta1, .inl (cyA G 0, 32768, .inl (tf1))), (ta2, .inl (cyA G 0, 32768, .inl (tf2)))]) [2, 3, 0, 1] rfl
                have hD9 := hD.sub (ws' := [(t1, .inr (8, [.ref ta0, .ref ta1, .ref ta2, .ref ta3, .ref ta4, .ref ta5, .ref ta6, .ref ta7, .ref ta8, .int mm])), (ta0, .inl (cyA G 0, 32768, .inl (tf0))), (ta1, .inl (cyA G 0, 32768, .inl (tf1))), (ta2, .inl (cyA G 0, 32768, .inl (tf2)))]) [2, 3, 0, 1] (by decide) rfl
                refine W.widen (k := 0) (n := 0) (Nat.le_of_ble_eq_true rfl) (Nat.le_of_ble_eq_true rfl) ?_
                exact W.zret (v := 0) (ty := .boolean) hx hb hr (by decide) (fun t ht hW => ⟨⟨0, (), rfl, rfl, ⟨by rw [ht]; exact hP9, hD9⟩⟩, hS.F ht⟩) hS.2.2 dX6_meet_108 hlocks
              · rw [if_pos c_18] at hm
                refine lv_aload_n hx hb dX6_meet_69 rfl (lv_at hl 2 rfl) ?_
                refine lv_aload_n hx hb dX6_meet_70 rfl (lv_at hl 2 rfl) ?_
                refine lv_iload_n hx hb dX6_meet_71 rfl (lv_at hl 3 rfl) ?_
                obtain ⟨q_19, hq_19, hm⟩ := bind_some hm
                have hFc := va_free (wc := [(t1, .inr (8, [.ref ta0, .ref ta1, .ref ta2, .ref ta3, .ref ta4, .ref ta5, .ref ta6, .ref ta7, .ref ta8, .int mm])), (ta1, .inl (cyA G 0, 32768, .inl (tf1)))]) hD hS hA [2, 0] rfl
                refine va_calli (va_runV (As := [.int p1]) (rest := [.ref t1]) ⟨hx, hb, hml, hown, hts⟩ (k_X9_firstOf l hfl G t1 p1 ta0 ta1 ta2 ta3 ta4 ta5 ta6 ta7 ta8 mm tf1 q_19 hq_19 H.size) (cwV 1 hts (gV wm456 wm431 wm432 wm2 wm433) rfl rfl rfl (by decide +kernel) ⟨(by show 1 ≤ 1 + (d + 1); omega), (by show 21 ≤ 21 + (d + 1) * 24; omega)⟩) (pre_v (pre_s hK hP hD hS hE [2, 0] rfl rfl (by decide) hFc) (va_recv hK hP (ci := 8) (q0 := 2) rfl rfl)) rfl rfl hl.1 rfl (lv_room (Nat.le_of_ble_eq_true rfl)) dX6_meet_72 ⟨Nat.le_of_ble_eq_true rfl, Nat.le_of_ble_eq_true rfl⟩) hS (fun q _ h => hFc q h) hFc (fun r u t H locs ht hvm hw hB hz1 hk1 hS => ?_)
                rw [show r = q_19 from hw]
                obtain ⟨hP1, hD1⟩ := hB
                rw [ht] at hP1
                obtain ⟨hP, hD⟩ := va_join (wr := [(ta2, .inl (cyA G 0, 32768, .inl (tf2))), (ta0, .inl (cyA G 0, 32768, .inl (tf0)))]) (w1 := [(t1, .inr (8, [.ref ta0, .ref ta1, .ref ta2, .ref ta3, .ref ta4, .ref ta5, .ref ta6, .ref ta7, .ref ta8, .int mm])), (ta1, .inl (cyA G 0, 32768, .inl (tf1)))]) hP hD [2, 0] [1, 3] rfl rfl (by decide) (by decide) hk1 hFc hP1 hD1
                have hP : va_P (DG G) clP3 [(ta2, .inl (cyA G 0, 32768, .inl (tf2))), (ta0, .inl (cyA G 0, 32768, .inl (tf0))), (t1, .inr (8, [.ref ta0, .ref ta1, .ref ta2, .ref ta3, .ref ta4, .ref ta5, .ref ta6, .ref ta7, .ref ta8, .int mm])), (ta1, .inl (cyA G 0, 32768, .inl (tf1)))] H := hP
                have hD : va_D A [(ta2, .inl (cyA G 0, 32768, .inl (tf2))), (ta0, .inl (cyA G 0, 32768, .inl (tf0))), (t1, .inr (8, [.ref ta0, .ref ta1, .ref ta2, .ref ta3, .ref ta4, .ref ta5, .ref ta6, .ref ta7, .ref ta8, .int mm])), (ta1, .inl (cyA G 0, 32768, .inl (tf1)))] := hD
                refine W.widen (k := 0) (n := 0) (Nat.le_of_ble_eq_true rfl) (Nat.le_of_ble_eq_true rfl) ?_
                refine lv_aload_n hx hb dX6_meet_75 rfl (lv_at hl 2 rfl) ?_
                refine lv_iload_n hx hb dX6_meet_76 rfl (lv_at hl 4 rfl) ?_
                obtain ⟨q_20, hq_20, hm⟩ := bind_some hm
                have hFc := va_free (wc := [(t1, .inr (8, [.ref ta0, .ref ta1, .ref ta2, .ref ta3, .ref ta4, .ref ta5, .ref ta6, .ref ta7, .ref ta8, .int mm])), (ta1, .inl (cyA G 0, 32768, .inl (tf1)))]) hD hS hA [2, 3] rfl
                refine va_calli (va_runV (As := [.int p2]) (rest := [.int q_19, .ref t1]) ⟨hx, hb, hml, hown, hts⟩ (k_X9_firstOf l hfl G t1 p2 ta0 ta1 ta2 ta3 ta4 ta5 ta6 ta7 ta8 mm tf1 q_20 hq_20 H.size) (cwV 1 hts (gV wm456 wm431 wm432 wm2 wm433) rfl rfl rfl (by decide +kernel) ⟨(by show 1 ≤ 1 + (d + 1); omega), (by show 21 ≤ 21 + (d + 1) * 24; omega)⟩) (pre_v (pre_s hK hP hD hS hE [2, 3] rfl rfl (by decide) hFc) (va_recv hK hP (ci := 8) (q0 := 2) rfl rfl)) rfl rfl hl.1 rfl (lv_room (Nat.le_of_ble_eq_true rfl)) dX6_meet_77 ⟨Nat.le_of_ble_eq_true rfl, Nat.le_of_ble_eq_true rfl⟩) hS (fun q _ h => hFc q h) hFc (fun r u t H locs ht hvm hw hB hz1 hk1 hS => ?_)
                rw [show r = q_20 from hw]
                obtain ⟨hP1, hD1⟩ := hB
                rw [ht] at hP1
                obtain ⟨hP, hD⟩ := va_join (wr := [(ta2, .inl (cyA G 0, 32768, .inl (tf2))), (ta0, .inl (cyA G 0, 32768, .inl (tf0)))]) (w1 := [(t1, .inr (8, [.ref ta0, .ref ta1, .ref ta2, .ref ta3, .ref ta4, .ref ta5, .ref ta6, .ref ta7, .ref ta8, .int mm])), (ta1, .inl (cyA G 0, 32768, .inl (tf1)))]) hP hD [2, 3] [0, 1] rfl rfl (by decide) (by decide) hk1 hFc hP1 hD1
                have hP : va_P (DG G) clP3 [(ta2, .inl (cyA G 0, 32768, .inl (tf2))), (ta0, .inl (cyA G 0, 32768, .inl (tf0))), (t1, .inr (8, [.ref ta0, .ref ta1, .ref ta2, .ref ta3, .ref ta4, .ref ta5, .ref ta6, .ref ta7, .ref ta8, .int mm])), (ta1, .inl (cyA G 0, 32768, .inl (tf1)))] H := hP
                have hD : va_D A [(ta2, .inl (cyA G 0, 32768, .inl (tf2))), (ta0, .inl (cyA G 0, 32768, .inl (tf0))), (t1, .inr (8, [.ref ta0, .ref ta1, .ref ta2, .ref ta3, .ref ta4, .ref ta5, .ref ta6, .ref ta7, .ref ta8, .int mm])), (ta1, .inl (cyA G 0, 32768, .inl (tf1)))] := hD
                refine W.widen (k := 0) (n := 0) (Nat.le_of_ble_eq_true rfl) (Nat.le_of_ble_eq_true rfl) ?_
                obtain ⟨q_21, hq_21, hm⟩ := bind_some hm
                have hFc := va_free (wc := [(t1, .inr (8, [.ref ta0, .ref ta1, .ref ta2, .ref ta3, .ref ta4, .ref ta5, .ref ta6, .ref ta7, .ref ta8, .int mm])), (ta0, .inl (cyA G 0, 32768, .inl (tf0))), (ta1, .inl (cyA G 0, 32768, .inl (tf1))), (ta2, .inl (cyA G 0, 32768, .inl (tf2)))]) hD hS hA [2, 1, 3, 0] rfl
                refine va_calli (va_runS (As := [.ref t1, .int q_19, .int q_20]) (rest := []) ⟨hx, hb, hml, hown, hts⟩ (ihd t1 q_19 q_20 ta0 ta1 ta2 ta3 ta4 ta5 ta6 ta7 ta8 mm tf0 tf1 tf2 q_21 hq_21 H.size) (cwS 3 hts (gS wm633 wm631 wm20 wm632) rfl rfl rfl (by decide +kernel) ⟨(by show 1 + d + 1 ≤ 1 + (d + 1); omega), (by show 8 + (5 + 11) + (21 + d * 24) ≤ 21 + (d + 1) * 24; omega)⟩) (pre_s hK hP hD hS hE [2, 1, 3, 0] rfl rfl (by decide) hFc) rfl rfl hl.1 rfl (lv_room (Nat.le_of_ble_eq_true rfl)) dX6_meet_80 ⟨Nat.le_of_ble_eq_true rfl, Nat.le_of_ble_eq_true rfl⟩) hS (fun q _ h => hFc q h) hFc (fun r u t H locs ht hvm hw hB hz1 hk1 hS => ?_)
                rw [show r = q_21 from hw]
                obtain ⟨hP1, hD1⟩ := hB
                rw [ht] at hP1
                obtain ⟨hP, hD⟩ := va_join (wr := []) (w1 := [(t1, .inr (8, [.ref ta0, .ref ta1, .ref ta2, .ref ta3, .ref ta4, .ref ta5, .ref ta6, .ref ta7, .ref ta8, .int mm])), (ta0, .inl (cyA G 0, 32768, .inl (tf0))), (ta1, .inl (cyA G 0, 32768, .inl (tf1))), (ta2, .inl (cyA G 0, 32768, .inl (tf2)))]) hP hD [2, 1, 3, 0] [] rfl rfl (by decide) (by decide) hk1 hFc hP1 hD1
                have hP : va_P (DG G) clP3 [(t1, .inr (8, [.ref ta0, .ref ta1, .ref ta2, .ref ta3, .ref ta4, .ref ta5, .ref ta6, .ref ta7, .ref ta8, .int mm])), (ta0, .inl (cyA G 0, 32768, .inl (tf0))), (ta1, .inl (cyA G 0, 32768, .inl (tf1))), (ta2, .inl (cyA G 0, 32768, .inl (tf2)))] H := hP
                have hD : va_D A [(t1, .inr (8, [.ref ta0, .ref ta1, .ref ta2, .ref ta3, .ref ta4, .ref ta5, .ref ta6, .ref ta7, .ref ta8, .int mm])), (ta0, .inl (cyA G 0, 32768, .inl (tf0))), (ta1, .inl (cyA G 0, 32768, .inl (tf1))), (ta2, .inl (cyA G 0, 32768, .inl (tf2)))] := hD
                refine W.widen (k := 0) (n := 0) (Nat.le_of_ble_eq_true rfl) (Nat.le_of_ble_eq_true rfl) ?_
                refine lv_if_eq (tgt := 107) hx hb dX6_meet_83 (by decide) (fun c_22 => ?_) (fun c_22 => ?_)
                · rw [if_pos c_22] at hm
                  refine lv_iconst (v := 0) hx hb dX6_meet_107 (by decide) ?_
                  obtain rfl := Option.some.inj hm
                  have hP9 := hP.sub (ws' := [(t1, .inr (8, [.ref ta0, .ref ta1, .ref ta2, .ref ta3, .ref ta4, .ref ta5, .ref ta6, .ref ta7, .ref ta8, .int mm])), (ta0, .inl (cyA G 0, 32768, .inl (tf0))), (ta1, .inl (cyA G 0, 32768, .inl (tf1))), (ta2, .inl (cyA G 0, 32768, .inl (tf2)))]) [0, 1, 2, 3] rfl
                  have hD9 := hD.sub (ws' := [(t1, .inr (8, [.ref ta0, .ref ta1, .ref ta2, .ref ta3, .ref ta4, .ref ta5, .ref ta6, .ref ta7, .ref ta8, .int mm])), (ta0, .inl (cyA G 0, 32768, .inl (tf0))), (ta1, .inl (cyA G 0, 32768, .inl (tf1))), (ta2, .inl (cyA G 0, 32768, .inl (tf2)))]) [0, 1, 2, 3] (by decide) rfl
                  refine W.widen (k := 0) (n := 0) (Nat.le_of_ble_eq_true rfl) (Nat.le_of_ble_eq_true rfl) ?_
                  exact W.zret (v := 0) (ty := .boolean) hx hb hr (by decide) (fun t ht hW => ⟨⟨0, (), rfl, rfl, ⟨by rw [ht]; exact hP9, hD9⟩⟩, hS.F ht⟩) hS.2.2 dX6_meet_108 hlocks
                · rw [if_neg c_22] at hm
                  refine lv_aload_n hx hb dX6_meet_86 rfl (lv_at hl 2 rfl) ?_
                  refine lv_aload_n hx hb dX6_meet_87 rfl (lv_at hl 2 rfl) ?_
                  refine lv_iload_n hx hb dX6_meet_88 rfl (lv_at hl 3 rfl) ?_
                  obtain ⟨q_23, hq_23, hm⟩ := bind_some hm
                  have hFc := va_free (wc := [(t1, .inr (8, [.ref ta0, .ref ta1, .ref ta2, .ref ta3, .ref ta4, .ref ta5, .ref ta6, .ref ta7, .ref ta8, .int mm])), (ta2, .inl (cyA G 0, 32768, .inl (tf2)))]) hD hS hA [0, 3] rfl
                  refine va_calli (va_runV (As := [.int p1]) (rest := [.ref t1]) ⟨hx, hb, hml, hown, hts⟩ (k_X9_secondOf l hfl G t1 p1 ta0 ta1 ta2 ta3 ta4 ta5 ta6 ta7 ta8 mm tf2 q_23 hq_23 H.size) (cwV 1 hts (gV wm459 wm460 wm461 wm2 wm462) rfl rfl rfl (by decide +kernel) ⟨(by show 1 ≤ 1 + (d + 1); omega), (by show 21 ≤ 21 + (d + 1) * 24; omega)⟩) (pre_v (pre_s hK hP hD hS hE [0, 3] rfl rfl (by decide) hFc) (va_recv hK hP (ci := 8) (q0 := 0) rfl rfl)) rfl rfl hl.1 rfl (lv_room (Nat.le_of_ble_eq_true rfl)) dX6_meet_89 ⟨Nat.le_of_ble_eq_true rfl, Nat.le_of_ble_eq_true rfl⟩) hS (fun q _ h => hFc q h) hFc (fun r u t H locs ht hvm hw hB hz1 hk1 hS => ?_)
                  rw [show r = q_23 from hw]
                  obtain ⟨hP1, hD1⟩ := hB
                  rw [ht] at hP1
                  obtain ⟨hP, hD⟩ := va_join (wr := [(ta0, .inl (cyA G 0, 32768, .inl (tf0))), (ta1, .inl (cyA G 0, 32768, .inl (tf1)))]) (w1 := [(t1, .inr (8, [.ref ta0, .ref ta1, .ref ta2, .ref ta3, .ref ta4, .ref ta5, .ref ta6, .ref ta7, .ref ta8, .int mm])), (ta2, .inl (cyA G 0, 32768, .inl (tf2)))]) hP hD [0, 3] [1, 2] rfl rfl (by decide) (by decide) hk1 hFc hP1 hD1
                  have hP : va_P (DG G) clP3 [(ta0, .inl (cyA G 0, 32768, .inl (tf0))), (ta1, .inl (cyA G 0, 32768, .inl (tf1))), (t1, .inr (8, [.ref ta0, .ref ta1, .ref ta2, .ref ta3, .ref ta4, .ref ta5, .ref ta6, .ref ta7, .ref ta8, .int mm])), (ta2, .inl (cyA G 0, 32768, .inl (tf2)))] H := hP
                  have hD : va_D A [(ta0, .inl (cyA G 0, 32768, .inl (tf0))), (ta1, .inl (cyA G 0, 32768, .inl (tf1))), (t1, .inr (8, [.ref ta0, .ref ta1, .ref ta2, .ref ta3, .ref ta4, .ref ta5, .ref ta6, .ref ta7, .ref ta8, .int mm])), (ta2, .inl (cyA G 0, 32768, .inl (tf2)))] := hD
                  refine W.widen (k := 0) (n := 0) (Nat.le_of_ble_eq_true rfl) (Nat.le_of_ble_eq_true rfl) ?_
                  refine lv_aload_n hx hb dX6_meet_92 rfl (lv_at hl 2 rfl) ?_
                  refine lv_iload_n hx hb dX6_meet_93 rfl (lv_at hl 4 rfl) ?_
                  obtain ⟨q_24, hq_24, hm⟩ := bind_some hm
                  have hFc := va_free (wc := [(t1, .inr (8, [.ref ta0, .ref ta1, .ref ta2, .ref ta3, .ref ta4, .ref ta5, .ref ta6, .ref ta7, .ref ta8, .int mm])), (ta2, .inl (cyA G 0, 32768, .inl (tf2)))]) hD hS hA [2, 3] rfl
                  refine va_calli (va_runV (As := [.int p2]) (rest := [.int q_23, .ref t1]) ⟨hx, hb, hml, hown, hts⟩ (k_X9_secondOf l hfl G t1 p2 ta0 ta1 ta2 ta3 ta4 ta5 ta6 ta7 ta8 mm tf2 q_24 hq_24 H.size) (cwV 1 hts (gV wm459 wm460 wm461 wm2 wm462) rfl rfl rfl (by decide +kernel) ⟨(by show 1 ≤ 1 + (d + 1); omega), (by show 21 ≤ 21 + (d + 1) * 24; omega)⟩) (pre_v (pre_s hK hP hD hS hE [2, 3] rfl rfl (by decide) hFc) (va_recv hK hP (ci := 8) (q0 := 2) rfl rfl)) rfl rfl hl.1 rfl (lv_room (Nat.le_of_ble_eq_true rfl)) dX6_meet_94 ⟨Nat.le_of_ble_eq_true rfl, Nat.le_of_ble_eq_true rfl⟩) hS (fun q _ h => hFc q h) hFc (fun r u t H locs ht hvm hw hB hz1 hk1 hS => ?_)
                  rw [show r = q_24 from hw]
                  obtain ⟨hP1, hD1⟩ := hB
                  rw [ht] at hP1
                  obtain ⟨hP, hD⟩ := va_join (wr := [(ta0, .inl (cyA G 0, 32768, .inl (tf0))), (ta1, .inl (cyA G 0, 32768, .inl (tf1)))]) (w1 := [(t1, .inr (8, [.ref ta0, .ref ta1, .ref ta2, .ref ta3, .ref ta4, .ref ta5, .ref ta6, .ref ta7, .ref ta8, .int mm])), (ta2, .inl (cyA G 0, 32768, .inl (tf2)))]) hP hD [2, 3] [0, 1] rfl rfl (by decide) (by decide) hk1 hFc hP1 hD1
                  have hP : va_P (DG G) clP3 [(ta0, .inl (cyA G 0, 32768, .inl (tf0))), (ta1, .inl (cyA G 0, 32768, .inl (tf1))), (t1, .inr (8, [.ref ta0, .ref ta1, .ref ta2, .ref ta3, .ref ta4, .ref ta5, .ref ta6, .ref ta7, .ref ta8, .int mm])), (ta2, .inl (cyA G 0, 32768, .inl (tf2)))] H := hP
                  have hD : va_D A [(ta0, .inl (cyA G 0, 32768, .inl (tf0))), (ta1, .inl (cyA G 0, 32768, .inl (tf1))), (t1, .inr (8, [.ref ta0, .ref ta1, .ref ta2, .ref ta3, .ref ta4, .ref ta5, .ref ta6, .ref ta7, .ref ta8, .int mm])), (ta2, .inl (cyA G 0, 32768, .inl (tf2)))] := hD
                  refine W.widen (k := 0) (n := 0) (Nat.le_of_ble_eq_true rfl) (Nat.le_of_ble_eq_true rfl) ?_
                  obtain ⟨q_25, hq_25, hm⟩ := bind_some hm
                  have hFc := va_free (wc := [(t1, .inr (8, [.ref ta0, .ref ta1, .ref ta2, .ref ta3, .ref ta4, .ref ta5, .ref ta6, .ref ta7, .ref ta8, .int mm])), (ta0, .inl (cyA G 0, 32768, .inl (tf0))), (ta1, .inl (cyA G 0, 32768, .inl (tf1))), (ta2, .inl (cyA G 0, 32768, .inl (tf2)))]) hD hS hA [2, 0, 1, 3] rfl
                  refine va_calli (va_runS (As := [.ref t1, .int q_23, .int q_24]) (rest := []) ⟨hx, hb, hml, hown, hts⟩ (ihd t1 q_23 q_24 ta0 ta1 ta2 ta3 ta4 ta5 ta6 ta7 ta8 mm tf0 tf1 tf2 q_25 hq_25 H.size) (cwS 3 hts (gS wm633 wm631 wm20 wm632) rfl rfl rfl (by decide +kernel) ⟨(by show 1 + d + 1 ≤ 1 + (d + 1); omega), (by show 8 + (5 + 11) + (21 + d * 24) ≤ 21 + (d + 1) * 24; omega)⟩) (pre_s hK hP hD hS hE [2, 0, 1, 3] rfl rfl (by decide) hFc) rfl rfl hl.1 rfl (lv_room (Nat.le_of_ble_eq_true rfl)) dX6_meet_97 ⟨Nat.le_of_ble_eq_true rfl, Nat.le_of_ble_eq_true rfl⟩) hS (fun q _ h => hFc q h) hFc (fun r u t H locs ht hvm hw hB hz1 hk1 hS => ?_)
                  rw [show r = q_25 from hw]
                  obtain ⟨hP1, hD1⟩ := hB
                  rw [ht] at hP1
                  obtain ⟨hP, hD⟩ := va_join (wr := []) (w1 := [(t1, .inr (8, [.ref ta0, .ref ta1, .ref ta2, .ref ta3, .ref ta4, .ref ta5, .ref ta6, .ref ta7, .ref ta8, .int mm])), (ta0, .inl (cyA G 0, 32768, .inl (tf0))), (ta1, .inl (cyA G 0, 32768, .inl (tf1))), (ta2, .inl (cyA G 0, 32768, .inl (tf2)))]) hP hD [2, 0, 1, 3] [] rfl rfl (by decide) (by decide) hk1 hFc hP1 hD1
                  have hP : va_P (DG G) clP3 [(t1, .inr (8, [.ref ta0, .ref ta1, .ref ta2, .ref ta3, .ref ta4, .ref ta5, .ref ta6, .ref ta7, .ref ta8, .int mm])), (ta0, .inl (cyA G 0, 32768, .inl (tf0))), (ta1, .inl (cyA G 0, 32768, .inl (tf1))), (ta2, .inl (cyA G 0, 32768, .inl (tf2)))] H := hP
                  have hD : va_D A [(t1, .inr (8, [.ref ta0, .ref ta1, .ref ta2, .ref ta3, .ref ta4, .ref ta5, .ref ta6, .ref ta7, .ref ta8, .int mm])), (ta0, .inl (cyA G 0, 32768, .inl (tf0))), (ta1, .inl (cyA G 0, 32768, .inl (tf1))), (ta2, .inl (cyA G 0, 32768, .inl (tf2)))] := hD
                  refine W.widen (k := 0) (n := 0) (Nat.le_of_ble_eq_true rfl) (Nat.le_of_ble_eq_true rfl) ?_
                  refine lv_if_eq (tgt := 107) hx hb dX6_meet_100 (by decide) (fun c_26 => ?_) (fun c_26 => ?_)
                  · rw [if_pos c_26] at hm
                    refine lv_iconst (v := 0) hx hb dX6_meet_107 (by decide) ?_
                    obtain rfl := Option.some.inj hm
                    have hP9 := hP.sub (ws' := [(t1, .inr (8, [.ref ta0, .ref ta1, .ref ta2, .ref ta3, .ref ta4, .ref ta5, .ref ta6, .ref ta7, .ref ta8, .int mm])), (ta0, .inl (cyA G 0, 32768, .inl (tf0))), (ta1, .inl (cyA G 0, 32768, .inl (tf1))), (ta2, .inl (cyA G 0, 32768, .inl (tf2)))]) [0, 1, 2, 3] rfl
                    have hD9 := hD.sub (ws' := [(t1, .inr (8, [.ref ta0, .ref ta1, .ref ta2, .ref ta3, .ref ta4, .ref ta5, .ref ta6, .ref ta7, .ref ta8, .int mm])), (ta0, .inl (cyA G 0, 32768, .inl (tf0))), (ta1, .inl (cyA G 0, 32768, .inl (tf1))), (ta2, .inl (cyA G 0, 32768, .inl (tf2)))]) [0, 1, 2, 3] (by decide) rfl
                    refine W.widen (k := 0) (n := 0) (Nat.le_of_ble_eq_true rfl) (Nat.le_of_ble_eq_true rfl) ?_
                    exact W.zret (v := 0) (ty := .boolean) hx hb hr (by decide) (fun t ht hW => ⟨⟨0, (), rfl, rfl, ⟨by rw [ht]; exact hP9, hD9⟩⟩, hS.F ht⟩) hS.2.2 dX6_meet_108 hlocks
                  · rw [if_neg c_26] at hm
                    refine lv_iconst (v := 1) hx hb dX6_meet_103 (by decide) ?_
                    refine lv_goto (tgt := 108) hx hb dX6_meet_104 (by decide) ?_
                    obtain rfl := Option.some.inj hm
                    have hP9 := hP.sub (ws' := [(t1, .inr (8, [.ref ta0, .ref ta1, .ref ta2, .ref ta3, .ref ta4, .ref ta5, .ref ta6, .ref ta7, .ref ta8, .int mm])), (ta0, .inl (cyA G 0, 32768, .inl (tf0))), (ta1, .inl (cyA G 0, 32768, .inl (tf1))), (ta2, .inl (cyA G 0, 32768, .inl (tf2)))]) [0, 1, 2, 3] rfl
                    have hD9 := hD.sub (ws' := [(t1, .inr (8, [.ref ta0, .ref ta1, .ref ta2, .ref ta3, .ref ta4, .ref ta5, .ref ta6, .ref ta7, .ref ta8, .int mm])), (ta0, .inl (cyA G 0, 32768, .inl (tf0))), (ta1, .inl (cyA G 0, 32768, .inl (tf1))), (ta2, .inl (cyA G 0, 32768, .inl (tf2)))]) [0, 1, 2, 3] (by decide) rfl
                    refine W.widen (k := 0) (n := 0) (Nat.le_of_ble_eq_true rfl) (Nat.le_of_ble_eq_true rfl) ?_
                    exact W.zret (v := 1) (ty := .boolean) hx hb hr (by decide) (fun t ht hW => ⟨⟨1, (), rfl, rfl, ⟨by rw [ht]; exact hP9, hD9⟩⟩, hS.F ht⟩) hS.2.2 dX6_meet_108 hlocks
          · rw [if_pos c_16] at hm
            refine lv_aload_n hx hb dX6_meet_37 rfl (lv_at hl 2 rfl) ?_
            refine lv_iload_n hx hb dX6_meet_38 rfl (lv_at hl 3 rfl) ?_
            obtain ⟨q_27, hq_27, hm⟩ := bind_some hm
            have hFc := va_free (wc := [(t1, .inr (8, [.ref ta0, .ref ta1, .ref ta2, .ref ta3, .ref ta4, .ref ta5, .ref ta6, .ref ta7, .ref ta8, .int mm])), (ta1, .inl (cyA G 0, 32768, .inl (tf1)))]) hD hS hA [2, 0] rfl
            refine va_calli (va_runV (As := [.int p1]) (rest := []) ⟨hx, hb, hml, hown, hts⟩ (k_X9_firstOf l hfl G t1 p1 ta0 ta1 ta2 ta3 ta4 ta5 ta6 ta7 ta8 mm tf1 q_27 hq_27 H.size) (cwV 1 hts (gV wm456 wm431 wm432 wm2 wm433) rfl rfl rfl (by decide +kernel) ⟨(by show 1 ≤ 1 + (d + 1); omega), (by show 21 ≤ 21 + (d + 1) * 24; omega)⟩) (pre_v (pre_s hK hP hD hS hE [2, 0] rfl rfl (by decide) hFc) (va_recv hK hP (ci := 8) (q0 := 2) rfl rfl)) rfl rfl hl.1 rfl (lv_room (Nat.le_of_ble_eq_true rfl)) dX6_meet_39 ⟨Nat.le_of_ble_eq_true rfl, Nat.le_of_ble_eq_true rfl⟩) hS (fun q _ h => hFc q h) hFc (fun r u t H locs ht hvm hw hB hz1 hk1 hS => ?_)
            rw [show r = q_27 from hw]
            obtain ⟨hP1, hD1⟩ := hB
            rw [ht] at hP1
            obtain ⟨hP, hD⟩ := va_join (wr := [(ta2, .inl (cyA G 0, 32768, .inl (tf2))), (ta0, .inl (cyA G 0, 32768, .inl (tf0)))]) (w1 := [(t1, .inr (8, [.ref ta0, .ref ta1, .ref ta2, .ref ta3, .ref ta4, .ref ta5, .ref ta6, .ref ta7, .ref ta8, .int mm])), (ta1, .inl (cyA G 0, 32768, .inl (tf1)))]) hP hD [2, 0] [1, 3] rfl rfl (by decide) (by decide) hk1 hFc hP1 hD1
            have hP : va_P (DG G) clP3 [(ta2, .inl (cyA G 0, 32768, .inl (tf2))), (ta0, .inl (cyA G 0, 32768, .inl (tf0))), (t1, .inr (8, [.ref ta0, .ref ta1, .ref ta2, .ref ta3, .ref ta4, .ref ta5, .ref ta6, .ref ta7, .ref ta8, .int mm])), (ta1, .inl (cyA G 0, 32768, .inl (tf1)))] H := hP
            have hD : va_D A [(ta2, .inl (cyA G 0, 32768, .inl (tf2))), (ta0, .inl (cyA G 0, 32768, .inl (tf0))), (t1, .inr (8, [.ref ta0, .ref ta1, .ref ta2, .ref ta3, .ref ta4, .ref ta5, .ref ta6, .ref ta7, .ref ta8, .int mm])), (ta1, .inl (cyA G 0, 32768, .inl (tf1)))] := hD
            refine W.widen (k := 0) (n := 0) (Nat.le_of_ble_eq_true rfl) (Nat.le_of_ble_eq_true rfl) ?_
            refine lv_aload_n hx hb dX6_meet_42 rfl (lv_at hl 2 rfl) ?_
            refine lv_iload_n hx hb dX6_meet_43 rfl (lv_at hl 4 rfl) ?_
            obtain ⟨q_28, hq_28, hm⟩ := bind_some hm
            have hFc := va_free (wc := [(t1, .inr (8, [.ref ta0, .ref ta1, .ref ta2, .ref ta3, .ref ta4, .ref ta5, .ref ta6, .ref ta7, .ref ta8, .int mm])), (ta1, .inl (cyA G 0, 32768, .inl (tf1)))]) hD hS hA [2, 3] rfl
            refine va_calli (va_runV (As := [.int p2]) (rest := [.int q_27]) ⟨hx, hb, hml, hown, hts⟩ (k_X9_firstOf l hfl G t1 p2 ta0 ta1 ta2 ta3 ta4 ta5 ta6 ta7 ta8 mm tf1 q_28 hq_28 H.size) (cwV 1 hts (gV wm456 wm431 wm432 wm2 wm433) rfl rfl rfl (by decide +kernel) ⟨(by show 1 ≤ 1 + (d + 1); omega), (by show 21 ≤ 21 + (d + 1) * 24; omega)⟩) (pre_v (pre_s hK hP hD hS hE [2, 3] rfl rfl (by decide) hFc) (va_recv hK hP (ci := 8) (q0 := 2) rfl rfl)) rfl rfl hl.1 rfl (lv_room (Nat.le_of_ble_eq_true rfl)) dX6_meet_44 ⟨Nat.le_of_ble_eq_true rfl, Nat.le_of_ble_eq_true rfl⟩) hS (fun q _ h => hFc q h) hFc (fun r u t H locs ht hvm hw hB hz1 hk1 hS => ?_)
            rw [show r = q_28 from hw]
            obtain ⟨hP1, hD1⟩ := hB
            rw [ht] at hP1
            obtain ⟨hP, hD⟩ := va_join (wr := [(ta2, .inl (cyA G 0, 32768, .inl (tf2))), (ta0, .inl (cyA G 0, 32768, .inl (tf0)))]) (w1 := [(t1, .inr (8, [.ref ta0, .ref ta1, .ref ta2, .ref ta3, .ref ta4, .ref ta5, .ref ta6, .ref ta7, .ref ta8, .int mm])), (ta1, .inl (cyA G 0, 32768, .inl (tf1)))]) hP hD [2, 3] [0, 1] rfl rfl (by decide) (by decide) hk1 hFc hP1 hD1
            have hP : va_P (DG G) clP3 [(ta2, .inl (cyA G 0, 32768, .inl (tf2))), (ta0, .inl (cyA G 0, 32768, .inl (tf0))), (t1, .inr (8, [.ref ta0, .ref ta1, .ref ta2, .ref ta3, .ref ta4, .ref ta5, .ref ta6, .ref ta7, .ref ta8, .int mm])), (ta1, .inl (cyA G 0, 32768, .inl (tf1)))] H := hP
            have hD : va_D A [(ta2, .inl (cyA G 0, 32768, .inl (tf2))), (ta0, .inl (cyA G 0, 32768, .inl (tf0))), (t1, .inr (8, [.ref ta0, .ref ta1, .ref ta2, .ref ta3, .ref ta4, .ref ta5, .ref ta6, .ref ta7, .ref ta8, .int mm])), (ta1, .inl (cyA G 0, 32768, .inl (tf1)))] := hD
            refine W.widen (k := 0) (n := 0) (Nat.le_of_ble_eq_true rfl) (Nat.le_of_ble_eq_true rfl) ?_
            refine lv_icmp_ne (tgt := 54) hx hb dX6_meet_47 (by decide) (fun c_29 => ?_) (fun c_29 => ?_)
            · rw [if_neg c_29] at hm
              refine lv_iconst (v := 0) hx hb dX6_meet_54 (by decide) ?_
              obtain rfl := Option.some.inj hm
              have hP9 := hP.sub (ws' := [(t1, .inr (8, [.ref ta0, .ref ta1, .ref ta2, .ref ta3, .ref ta4, .ref ta5, .ref ta6, .ref ta7, .ref ta8, .int mm])), (ta0, .inl (cyA G 0, 32768, .inl (tf0))), (ta1, .inl (cyA G 0, 32768, .inl (tf1))), (ta2, .inl (cyA G 0, 32768, .inl (tf2)))]) [2, 1, 3, 0] rfl
              have hD9 := hD.sub (ws' := [(t1, .inr (8, [.ref ta0, .ref ta1, .ref ta2, .ref ta3, .ref ta4, .ref ta5, .ref ta6, .ref ta7, .ref ta8, .int mm])), (ta0, .inl (cyA G 0, 32768, .inl (tf0))), (ta1, .inl (cyA G 0, 32768, .inl (tf1))), (ta2, .inl (cyA G 0, 32768, .inl (tf2)))]) [2, 1, 3, 0] (by decide) rfl
              refine W.widen (k := 0) (n := 0) (Nat.le_of_ble_eq_true rfl) (Nat.le_of_ble_eq_true rfl) ?_
              exact W.zret (v := 0) (ty := .boolean) hx hb hr (by decide) (fun t ht hW => ⟨⟨0, (), rfl, rfl, ⟨by rw [ht]; exact hP9, hD9⟩⟩, hS.F ht⟩) hS.2.2 dX6_meet_55 hlocks
            · rw [if_pos c_29] at hm
              refine lv_iconst (v := 1) hx hb dX6_meet_50 (by decide) ?_
              refine lv_goto (tgt := 55) hx hb dX6_meet_51 (by decide) ?_
              obtain rfl := Option.some.inj hm
              have hP9 := hP.sub (ws' := [(t1, .inr (8, [.ref ta0, .ref ta1, .ref ta2, .ref ta3, .ref ta4, .ref ta5, .ref ta6, .ref ta7, .ref ta8, .int mm])), (ta0, .inl (cyA G 0, 32768, .inl (tf0))), (ta1, .inl (cyA G 0, 32768, .inl (tf1))), (ta2, .inl (cyA G 0, 32768, .inl (tf2)))]) [2, 1, 3, 0] rfl
              have hD9 := hD.sub (ws' := [(t1, .inr (8, [.ref ta0, .ref ta1, .ref ta2, .ref ta3, .ref ta4, .ref ta5, .ref ta6, .ref ta7, .ref ta8, .int mm])), (ta0, .inl (cyA G 0, 32768, .inl (tf0))), (ta1, .inl (cyA G 0, 32768, .inl (tf1))), (ta2, .inl (cyA G 0, 32768, .inl (tf2)))]) [2, 1, 3, 0] (by decide) rfl
              refine W.widen (k := 0) (n := 0) (Nat.le_of_ble_eq_true rfl) (Nat.le_of_ble_eq_true rfl) ?_
              exact W.zret (v := 1) (ty := .boolean) hx hb hr (by decide) (fun t ht hW => ⟨⟨1, (), rfl, rfl, ⟨by rw [ht]; exact hP9, hD9⟩⟩, hS.F ht⟩) hS.2.2 dX6_meet_55 hlocks
      · rw [if_pos c_4] at hm
        refine lv_iconst (v := 1) hx hb dX6_meet_24 (by decide) ?_
        obtain rfl := Option.some.inj hm
        have hP9 := hP.sub (ws' := [(t1, .inr (8, [.ref ta0, .ref ta1, .ref ta2, .ref ta3, .ref ta4, .ref ta5, .ref ta6, .ref ta7, .ref ta8, .int mm])), (ta0, .inl (cyA G 0, 32768, .inl (tf0))), (ta1, .inl (cyA G 0, 32768, .inl (tf1))), (ta2, .inl (cyA G 0, 32768, .inl (tf2)))]) [2, 3, 0, 1] rfl
        have hD9 := hD.sub (ws' := [(t1, .inr (8, [.ref ta0, .ref ta1, .ref ta2, .ref ta3, .ref ta4, .ref ta5, .ref ta6, .ref ta7, .ref ta8, .int mm])), (ta0, .inl (cyA G 0, 32768, .inl (tf0))), (ta1, .inl (cyA G 0, 32768, .inl (tf1))), (ta2, .inl (cyA G 0, 32768, .inl (tf2)))]) [2, 3, 0, 1] (by decide) rfl
        refine W.widen (k := 0) (n := 0) (Nat.le_of_ble_eq_true rfl) (Nat.le_of_ble_eq_true rfl) ?_
        exact W.zret (v := 1) (ty := .boolean) hx hb hr (by decide) (fun t ht hW => ⟨⟨1, (), rfl, rfl, ⟨by rw [ht]; exact hP9, hD9⟩⟩, hS.F ht⟩) hS.2.2 dX6_meet_25 hlocks
