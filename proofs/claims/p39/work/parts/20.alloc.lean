set_option maxHeartbeats 4000000 in
set_option maxRecDepth 100000 in
theorem k_X8_initn (l : Launch) (hfl : l.stackTraces = false) (G : GC) (h0 : Nat) (n : Int32) (hn : szok n = true) (sz : Nat) : Met l yX8_init (Cond.code yX8_init cX8_init 2 none :: W0) ({ frames := 1, cells := 1, slots := 64, locals := 14 }) (va_Pc [.ref h0, .int n] (WD G [(h0, .inr (7, [.null, .int 0]))] sz)) (va_Qv (fun _ : Nat => True) (fun zz0 t => PW G (va_A [(h0, .inr (7, [.null, .int 0]))] sz) [(h0, .inr (7, [.ref zz0, .int 0])), (zz0, .inl (cyA G 0, tsz n, .inl (fun _ => 0)))] t) (va_A [(h0, .inr (7, [.null, .int 0]))] sz)) 1 64 (va_A [(h0, .inr (7, [.null, .int 0]))] sz) := by
  refine Met.ofW (cc := cX8_init) (maxL := 2) (ret := none) (by decide) rfl ?_
  intro p e s m args below meth c s₁ B hml hv
  obtain ⟨rfl, hsz, hP, hK, hD0, hE⟩ := hv
  have hx := B.exec
  have hb := B.bytes
  have hr := B.returns
  have hts := w0_tail B.pre
  have hown : s.vm.findClass RX8 = some m.cls := findClass_of_methodNamed B.named
  have hlocks := B.notSynchronized
  have hin : meth.name = "<init>" := (name_of_methodNamed B.named B.method).1
  subst hsz
  have hD := hD0.self (sz := s.heap.size)
  generalize hAe : va_A [(h0, .inr (7, [.null, .int 0]))] s.heap.size = A at hD hE ⊢
  have hA : ∀ q : Nat, s.heap.size ≤ q → A q := fun q h => by rw [← hAe]; exact Or.inr h
  have hS : va_S A s.heap s.heap [] := va_S.rf
  obtain ⟨H, hHe⟩ : ∃ H : Heap, H = s.heap := ⟨_, rfl⟩
  have hP : va_P (DG G) clP3 [(h0, .inr (7, [.null, .int 0]))] H := by rw [hHe]; exact hP
  have hS : va_S A s.heap H [] := by rw [hHe]; exact hS
  have hl := lv_entry ([.ref h0, .int n]) (n := 2) (Nat.le_of_ble_eq_true rfl)
  rw [lg_entry_eq, ← hHe]
  generalize (lg_sl ([.ref h0, .int n]) ++ List.replicate (2 - (lg_sl ([.ref h0, .int n])).length) Slot.unset).toArray = ls at hl ⊢
  have hl : lv_has ls 2 [(0, .ref h0), (1, .int n)] := hl
  refine lv_aload_n hx hb dX8_init_0 rfl (lv_at hl 0 rfl) ?_
  refine W.objInit hx hb hown (hts _ wm180) (hts _ wm31) (hts _ wm32) rfl (by rw [hml]; exact hl.1) rfl dX8_init_1 (Nat.le_of_ble_eq_true rfl) (Nat.le_of_ble_eq_true rfl) ?_
  refine W.eq (g2 := F0 m 4 ls []) rfl ?_
  refine lv_aload_n hx hb dX8_init_4 rfl (lv_at hl 0 rfl) ?_
  refine lv_iload_n hx hb dX8_init_5 rfl (lv_at hl 1 rfl) ?_
  refine lv_iconst (v := 0) hx hb dX8_init_6 (by decide) ?_
  refine va_mmax hx hb (hml.trans hl.1.symm) hown (hts _ wm181) (hts _ wm182) (hts _ wm8) (hts _ wm183) (Nat.le_of_ble_eq_true rfl) (Nat.le_of_ble_eq_true rfl) (Nat.le_of_ble_eq_true rfl) (Nat.le_of_ble_eq_true rfl) dX8_init_7 ?_
  refine my_newa (atype := .int) (N' := tsz n) (a0 := (tsz n, .inl (fun _ => 0))) (t1 := 0) hx hb (hts _ wm71) rfl rfl hK hP hD hS hA (fun _ => rfl) (tsz_pos n) (tsz_of n) (tsz_by hn) (Nat.le_of_ble_eq_true rfl) (tsz_sl hn (Nat.le_of_ble_eq_true rfl)) dX8_init_10 (fun q_2 H hP hD hS => ?_)
  have hP : va_P (DG G) clP3 [(h0, .inr (7, [.null, .int 0])), (q_2, .inl (cyA G 0, tsz n, .inl (fun _ => 0)))] H := hP
  have hD : va_D A [(h0, .inr (7, [.null, .int 0])), (q_2, .inl (cyA G 0, tsz n, .inl (fun _ => 0)))] := hD
  refine W.widen (k := 1) (n := 64) (Nat.le_of_ble_eq_true rfl) (tsz_sl hn (Nat.le_of_ble_eq_true rfl)) ?_
  refine va_putF (D := DG G) (ci := 7) (v := .ref q_2) (ty := tyX8 0) (C := RX8) (T := TX8) (N := 2) hx hb hts inW_X8 tyX8 tyX8_ok nmX8 hown hK hP hD hS 0 rfl rfl 0 (by decide) (hts _ wm184) (fun _ h9 => h9) rfl hin rfl (by decide +kernel) rfl rfl (Nat.le_of_ble_eq_true rfl) dX8_init_12 (fun H locs hP hD hS => ?_)
  have hP : va_P (DG G) clP3 [(h0, .inr (7, [.ref q_2, .int 0])), (q_2, .inl (cyA G 0, tsz n, .inl (fun _ => 0)))] H := hP
  have hD : va_D A [(h0, .inr (7, [.ref q_2, .int 0])), (q_2, .inl (cyA G 0, tsz n, .inl (fun _ => 0)))] := hD
  have hP9 := hP.sub (ws' := [(h0, .inr (7, [.ref q_2, .int 0])), (q_2, .inl (cyA G 0, tsz n, .inl (fun _ => 0)))]) [0, 1] rfl
  have hD9 := hD.sub (ws' := [(h0, .inr (7, [.ref q_2, .int 0])), (q_2, .inl (cyA G 0, tsz n, .inl (fun _ => 0)))]) [0, 1] (by decide) rfl
  refine W.widen (k := 1) (n := 64) (Nat.le_of_ble_eq_true rfl) (Nat.le_of_ble_eq_true rfl) ?_
  exact W.vret hx hb hr (fun t ht hW => ⟨⟨q_2, rfl, trivial, ⟨by rw [ht]; exact hP9, hD9⟩⟩, hS.F ht⟩) hS.2.2 dX8_init_15 hlocks
set_option maxHeartbeats 4000000 in
set_option maxRecDepth 100000 in
theorem k_X2_init (l : Launch) (hfl : l.stackTraces = false) (G : GC) (h0 : Nat) (p1 : Int32) (p2 : Int32) (p3 : Int32) (sz : Nat) : Met l yX2_init (Cond.code yX2_init cX2_init 4 none :: W0) ({ frames := 1, cells := 0, slots := 0, locals := 12 }) (va_Pc [.ref h0, .int p1, .int p2, .int p3] (WD G [(h0, .inr (2, [.int 0, .int 0, .int 0]))] sz)) (va_Qv (fun _ : Unit => True) (fun _ t => PW G (va_A [(h0, .inr (2, [.int 0, .int 0, .int 0]))] sz) [(h0, .inr (2, [.int p1, .int p2, .int p3]))] t) (va_A [(h0, .inr (2, [.int 0, .int 0, .int 0]))] sz)) 0 0 (va_A [(h0, .inr (2, [.int 0, .int 0, .int 0]))] sz) := by
  refine Met.ofW (cc := cX2_init) (maxL := 4) (ret := none) (by decide) rfl ?_
  intro p e s m args below meth c s₁ B hml hv
  obtain ⟨rfl, hsz, hP, hK, hD0, hE⟩ := hv
  have hx := B.exec
  have hb := B.bytes
  have hr := B.returns
  have hts := w0_tail B.pre
  have hown : s.vm.findClass RX2 = some m.cls := findClass_of_methodNamed B.named
  have hlocks := B.notSynchronized
  have hin : meth.name = "<init>" := (name_of_methodNamed B.named B.method).1
  subst hsz
  have hD := hD0.self (sz := s.heap.size)
  generalize hAe : va_A [(h0, .inr (2, [.int 0, .int 0, .int 0]))] s.heap.size = A at hD hE ⊢
  have hA : ∀ q : Nat, s.heap.size ≤ q → A q := fun q h => by rw [← hAe]; exact Or.inr h
  have hS : va_S A s.heap s.heap [] := va_S.rf
  obtain ⟨H, hHe⟩ : ∃ H : Heap, H = s.heap := ⟨_, rfl⟩
  have hP : va_P (DG G) clP3 [(h0, .inr (2, [.int 0, .int 0, .int 0]))] H := by rw [hHe]; exact hP
  have hS : va_S A s.heap H [] := by rw [hHe]; exact hS
  have hl := lv_entry ([.ref h0, .int p1, .int p2, .int p3]) (n := 4) (Nat.le_of_ble_eq_true rfl)
  rw [lg_entry_eq, ← hHe]
  generalize (lg_sl ([.ref h0, .int p1, .int p2, .int p3]) ++ List.replicate (4 - (lg_sl ([.ref h0, .int p1, .int p2, .int p3])).length) Slot.unset).toArray = ls at hl ⊢
  have hl : lv_has ls 4 [(0, .ref h0), (1, .int p1), (2, .int p2), (3, .int p3)] := hl
  refine lv_aload_n hx hb dX2_init_0 rfl (lv_at hl 0 rfl) ?_
  refine W.objInit hx hb hown (hts _ wm883) (hts _ wm31) (hts _ wm32) rfl (by rw [hml]; exact hl.1) rfl dX2_init_1 (Nat.le_of_ble_eq_true rfl) (Nat.le_of_ble_eq_true rfl) ?_
  refine W.eq (g2 := F0 m 4 ls []) rfl ?_
  refine lv_aload_n hx hb dX2_init_4 rfl (lv_at hl 0 rfl) ?_
  refine lv_iload_n hx hb dX2_init_5 rfl (lv_at hl 1 rfl) ?_
  refine va_putF (D := DG G) (ci := 2) (v := .int p1) (ty := tyX2 0) (C := RX2) (T := TX2) (N := 3) hx hb hts inW_X2 tyX2 tyX2_ok nmX2 hown hK hP hD hS 0 rfl rfl 0 (by decide) (hts _ wm884) (fun _ h9 => h9) rfl hin rfl (by decide +kernel) rfl rfl (Nat.le_of_ble_eq_true rfl) dX2_init_6 (fun H locs hP hD hS => ?_)
  have hP : va_P (DG G) clP3 [(h0, .inr (2, [.int p1, .int 0, .int 0]))] H := hP
  have hD : va_D A [(h0, .inr (2, [.int p1, .int 0, .int 0]))] := hD
  refine lv_aload_n hx hb dX2_init_9 rfl (lv_at hl 0 rfl) ?_
  refine lv_iload_n hx hb dX2_init_10 rfl (lv_at hl 2 rfl) ?_
  refine va_putF (D := DG G) (ci := 2) (v := .int p2) (ty := tyX2 1) (C := RX2) (T := TX2) (N := 3) hx hb hts inW_X2 tyX2 tyX2_ok nmX2 hown hK hP hD hS 0 rfl rfl 1 (by decide) (hts _ wm886) (fun _ h9 => h9) rfl hin rfl (by decide +kernel) rfl rfl (Nat.le_of_ble_eq_true rfl) dX2_init_11 (fun H locs hP hD hS => ?_)
  have hP : va_P (DG G) clP3 [(h0, .inr (2, [.int p1, .int p2, .int 0]))] H := hP
  have hD : va_D A [(h0, .inr (2, [.int p1, .int p2, .int 0]))] := hD
  refine lv_aload_n hx hb dX2_init_14 rfl (lv_at hl 0 rfl) ?_
  refine lv_iload_n hx hb dX2_init_15 rfl (lv_at hl 3 rfl) ?_
  refine va_putF (D := DG G) (ci := 2) (v := .int p3) (ty := tyX2 2) (C := RX2) (T := TX2) (N := 3) hx hb hts inW_X2 tyX2 tyX2_ok nmX2 hown hK hP hD hS 0 rfl rfl 2 (by decide) (hts _ wm889) (fun _ h9 => h9) rfl hin rfl (by decide +kernel) rfl rfl (Nat.le_of_ble_eq_true rfl) dX2_init_16 (fun H locs hP hD hS => ?_)
  have hP : va_P (DG G) clP3 [(h0, .inr (2, [.int p1, .int p2, .int p3]))] H := hP
  have hD : va_D A [(h0, .inr (2, [.int p1, .int p2, .int p3]))] := hD
  have hP9 := hP.sub (ws' := [(h0, .inr (2, [.int p1, .int p2, .int p3]))]) [0] rfl
  have hD9 := hD.sub (ws' := [(h0, .inr (2, [.int p1, .int p2, .int p3]))]) [0] (by decide) rfl
  refine W.widen (k := 0) (n := 0) (Nat.le_of_ble_eq_true rfl) (Nat.le_of_ble_eq_true rfl) ?_
  exact W.vret hx hb hr (fun t ht hW => ⟨⟨(), rfl, trivial, ⟨by rw [ht]; exact hP9, hD9⟩⟩, hS.F ht⟩) hS.2.2 dX2_init_19 hlocks
set_option maxHeartbeats 4000000 in
set_option maxRecDepth 100000 in
theorem k_X3_init (l : Launch) (hfl : l.stackTraces = false) (G : GC) (h0 : Nat) (p1 : Int32) (c1 : Nat) (p2 : Int32) (n1 : Nat) (sz : Nat) : Met l yX3_init (Cond.code yX3_init cX3_init 5 none :: W0) ({ frames := 1, cells := 0, slots := 0, locals := 12 }) (va_Pc [.ref h0, .int p1, .ref c1, .int p2, .ref n1] (WD G [(h0, .inr (3, [.int 0, .null, .int 0, .null, .int 0, .int 0, .int 0, .int 0]))] sz)) (va_Qv (fun _ : Unit => True) (fun _ t => PW G (va_A [(h0, .inr (3, [.int 0, .null, .int 0, .null, .int 0, .int 0, .int 0, .int 0]))] sz) [(h0, .inr (3, [.int p1, .ref c1, .int p2, .ref n1, .int 111, .int (-1), .int (-1), .int (-1)]))] t) (va_A [(h0, .inr (3, [.int 0, .null, .int 0, .null, .int 0, .int 0, .int 0, .int 0]))] sz)) 0 0 (va_A [(h0, .inr (3, [.int 0, .null, .int 0, .null, .int 0, .int 0, .int 0, .int 0]))] sz) := by
  refine Met.ofW (cc := cX3_init) (maxL := 5) (ret := none) (by decide) rfl ?_
  intro p e s m args below meth c s₁ B hml hv
  obtain ⟨rfl, hsz, hP, hK, hD0, hE⟩ := hv
  have hx := B.exec
  have hb := B.bytes
  have hr := B.returns
  have hts := w0_tail B.pre
  have hown : s.vm.findClass RX3 = some m.cls := findClass_of_methodNamed B.named
  have hlocks := B.notSynchronized
  have hin : meth.name = "<init>" := (name_of_methodNamed B.named B.method).1
  subst hsz
  have hD := hD0.self (sz := s.heap.size)
  generalize hAe : va_A [(h0, .inr (3, [.int 0, .null, .int 0, .null, .int 0, .int 0, .int 0, .int 0]))] s.heap.size = A at hD hE ⊢
  have hA : ∀ q : Nat, s.heap.size ≤ q → A q := fun q h => by rw [← hAe]; exact Or.inr h
  have hS : va_S A s.heap s.heap [] := va_S.rf
  obtain ⟨H, hHe⟩ : ∃ H : Heap, H = s.heap := ⟨_, rfl⟩
  have hP : va_P (DG G) clP3 [(h0, .inr (3, [.int 0, .null, .int 0, .null, .int 0, .int 0, .int 0, .int 0]))] H := by rw [hHe]; exact hP
  have hS : va_S A s.heap H [] := by rw [hHe]; exact hS
  have hl := lv_entry ([.ref h0, .int p1, .ref c1, .int p2, .ref n1]) (n := 5) (Nat.le_of_ble_eq_true rfl)
  rw [lg_entry_eq, ← hHe]
  generalize (lg_sl ([.ref h0, .int p1, .ref c1, .int p2, .ref n1]) ++ List.replicate (5 - (lg_sl ([.ref h0, .int p1, .ref c1, .int p2, .ref n1])).length) Slot.unset).toArray = ls at hl ⊢
  have hl : lv_has ls 5 [(0, .ref h0), (1, .int p1), (2, .ref c1), (3, .int p2), (4, .ref n1)] := hl
  refine lv_aload_n hx hb dX3_init_0 rfl (lv_at hl 0 rfl) ?_
  refine W.objInit hx hb hown (hts _ wm902) (hts _ wm31) (hts _ wm32) rfl (by rw [hml]; exact hl.1) rfl dX3_init_1 (Nat.le_of_ble_eq_true rfl) (Nat.le_of_ble_eq_true rfl) ?_
  refine W.eq (g2 := F0 m 4 ls []) rfl ?_
  refine lv_aload_n hx hb dX3_init_4 rfl (lv_at hl 0 rfl) ?_
  refine lv_iload_n hx hb dX3_init_5 rfl (lv_at hl 1 rfl) ?_
  refine va_putF (D := DG G) (ci := 3) (v := .int p1) (ty := tyX3 0) (C := RX3) (T := TX3) (N := 8) hx hb hts inW_X3 tyX3 tyX3_ok nmX3 hown hK hP hD hS 0 rfl rfl 0 (by decide) (hts _ wm903) (fun _ h9 => h9) rfl hin rfl (by decide +kernel) rfl rfl (Nat.le_of_ble_eq_true rfl) dX3_init_6 (fun H locs hP hD hS => ?_)
  have hP : va_P (DG G) clP3 [(h0, .inr (3, [.int p1, .null, .int 0, .null, .int 0, .int 0, .int 0, .int 0]))] H := hP
  have hD : va_D A [(h0, .inr (3, [.int p1, .null, .int 0, .null, .int 0, .int 0, .int 0, .int 0]))] := hD
  refine lv_aload_n hx hb dX3_init_9 rfl (lv_at hl 0 rfl) ?_
  refine lv_aload_n hx hb dX3_init_10 rfl (lv_at hl 2 rfl) ?_
  refine va_putF (D := DG G) (ci := 3) (v := .ref c1) (ty := tyX3 1) (C := RX3) (T := TX3) (N := 8) hx hb hts inW_X3 tyX3 tyX3_ok nmX3 hown hK hP hD hS 0 rfl rfl 1 (by decide) (hts _ wm908) (fun _ h9 => h9) rfl hin rfl (by decide +kernel) rfl rfl (Nat.le_of_ble_eq_true rfl) dX3_init_11 (fun H locs hP hD hS => ?_)
  have hP : va_P (DG G) clP3 [(h0, .inr (3, [.int p1, .ref c1, .int 0, .null, .int 0, .int 0, .int 0, .int 0]))] H := hP
  have hD : va_D A [(h0, .inr (3, [.int p1, .ref c1, .int 0, .null, .int 0, .int 0, .int 0, .int 0]))] := hD
  refine lv_aload_n hx hb dX3_init_14 rfl (lv_at hl 0 rfl) ?_
  refine lv_iload_n hx hb dX3_init_15 rfl (lv_at hl 3 rfl) ?_
  refine va_putF (D := DG G) (ci := 3) (v := .int p2) (ty := tyX3 2) (C := RX3) (T := TX3) (N := 8) hx hb hts inW_X3 tyX3 tyX3_ok nmX3 hown hK hP hD hS 0 rfl rfl 2 (by decide) (hts _ wm912) (fun _ h9 => h9) rfl hin rfl (by decide +kernel) rfl rfl (Nat.le_of_ble_eq_true rfl) dX3_init_16 (fun H locs hP hD hS => ?_)
  have hP : va_P (DG G) clP3 [(h0, .inr (3, [.int p1, .ref c1, .int p2, .null, .int 0, .int 0, .int 0, .int 0]))] H := hP
  have hD : va_D A [(h0, .inr (3, [.int p1, .ref c1, .int p2, .null, .int 0, .int 0, .int 0, .int 0]))] := hD
  refine lv_aload_n hx hb dX3_init_19 rfl (lv_at hl 0 rfl) ?_
  refine lv_aload hx hb dX3_init_20 (lv_at hl 4 rfl) ?_
  refine va_putF (D := DG G) (ci := 3) (v := .ref n1) (ty := tyX3 3) (C := RX3) (T := TX3) (N := 8) hx hb hts inW_X3 tyX3 tyX3_ok nmX3 hown hK hP hD hS 0 rfl rfl 3 (by decide) (hts _ wm915) (fun _ h9 => h9) rfl hin rfl (by decide +kernel) rfl rfl (Nat.le_of_ble_eq_true rfl) dX3_init_22 (fun H locs hP hD hS => ?_)
  have hP : va_P (DG G) clP3 [(h0, .inr (3, [.int p1, .ref c1, .int p2, .ref n1, .int 0, .int 0, .int 0, .int 0]))] H := hP
  have hD : va_D A [(h0, .inr (3, [.int p1, .ref c1, .int p2, .ref n1, .int 0, .int 0, .int 0, .int 0]))] := hD
  refine lv_aload_n hx hb dX3_init_25 rfl (lv_at hl 0 rfl) ?_
  refine lv_bipush (v := 111) hx hb dX3_init_26 (by decide) ?_
  refine va_put (D := DG G) (ci := 3) (v := .int 111) (ty := tyX3 4) (C := RX3) (T := TX3) (N := 8) hx hb hts inW_X3 tyX3 tyX3_ok nmX3 hown hK hP hD hS 0 rfl rfl 4 (by decide) (hts _ wm919) (fun _ h9 => h9) rfl (by decide +kernel) rfl rfl (Nat.le_of_ble_eq_true rfl) dX3_init_28 (fun H locs hP hD hS => ?_)
  have hP : va_P (DG G) clP3 [(h0, .inr (3, [.int p1, .ref c1, .int p2, .ref n1, .int 111, .int 0, .int 0, .int 0]))] H := hP
  have hD : va_D A [(h0, .inr (3, [.int p1, .ref c1, .int p2, .ref n1, .int 111, .int 0, .int 0, .int 0]))] := hD
  refine lv_aload_n hx hb dX3_init_31 rfl (lv_at hl 0 rfl) ?_
  refine lv_iconst (v := (-1)) hx hb dX3_init_32 (by decide) ?_
  refine va_put (D := DG G) (ci := 3) (v := .int (-1)) (ty := tyX3 5) (C := RX3) (T := TX3) (N := 8) hx hb hts inW_X3 tyX3 tyX3_ok nmX3 hown hK hP hD hS 0 rfl rfl 5 (by decide) (hts _ wm924) (fun _ h9 => h9) rfl (by decide +kernel) rfl rfl (Nat.le_of_ble_eq_true rfl) dX3_init_33 (fun H locs hP hD hS => ?_)
  have hP : va_P (DG G) clP3 [(h0, .inr (3, [.int p1, .ref c1, .int p2, .ref n1, .int 111, .int (-1), .int 0, .int 0]))] H := hP
  have hD : va_D A [(h0, .inr (3, [.int p1, .ref c1, .int p2, .ref n1, .int 111, .int (-1), .int 0, .int 0]))] := hD
  refine lv_aload_n hx hb dX3_init_36 rfl (lv_at hl 0 rfl) ?_
  refine lv_iconst (v := (-1)) hx hb dX3_init_37 (by decide) ?_
  refine va_put (D := DG G) (ci := 3) (v := .int (-1)) (ty := tyX3 6) (C := RX3) (T := TX3) (N := 8) hx hb hts inW_X3 tyX3 tyX3_ok nmX3 hown hK hP hD hS 0 rfl rfl 6 (by decide) (hts _ wm928) (fun _ h9 => h9) rfl (by decide +kernel) rfl rfl (Nat.le_of_ble_eq_true rfl) dX3_init_38 (fun H locs hP hD hS => ?_)
  have hP : va_P (DG G) clP3 [(h0, .inr (3, [.int p1, .ref c1, .int p2, .ref n1, .int 111, .int (-1), .int (-1), .int 0]))] H := hP
  have hD : va_D A [(h0, .inr (3, [.int p1, .ref c1, .int p2, .ref n1, .int 111, .int (-1), .int (-1), .int 0]))] := hD
  refine lv_aload_n hx hb dX3_init_41 rfl (lv_at hl 0 rfl) ?_
  refine lv_iconst (v := (-1)) hx hb dX3_init_42 (by decide) ?_
  refine va_put (D := DG G) (ci := 3) (v := .int (-1)) (ty := tyX3 7) (C := RX3) (T := TX3) (N := 8) hx hb hts inW_X3 tyX3 tyX3_ok nmX3 hown hK hP hD hS 0 rfl rfl 7 (by decide) (hts _ wm930) (fun _ h9 => h9) rfl (by decide +kernel) rfl rfl (Nat.le_of_ble_eq_true rfl) dX3_init_43 (fun H locs hP hD hS => ?_)
  have hP : va_P (DG G) clP3 [(h0, .inr (3, [.int p1, .ref c1, .int p2, .ref n1, .int 111, .int (-1), .int (-1), .int (-1)]))] H := hP
  have hD : va_D A [(h0, .inr (3, [.int p1, .ref c1, .int p2, .ref n1, .int 111, .int (-1), .int (-1), .int (-1)]))] := hD
  have hP9 := hP.sub (ws' := [(h0, .inr (3, [.int p1, .ref c1, .int p2, .ref n1, .int 111, .int (-1), .int (-1), .int (-1)]))]) [0] rfl
  have hD9 := hD.sub (ws' := [(h0, .inr (3, [.int p1, .ref c1, .int p2, .ref n1, .int 111, .int (-1), .int (-1), .int (-1)]))]) [0] (by decide) rfl
  refine W.widen (k := 0) (n := 0) (Nat.le_of_ble_eq_true rfl) (Nat.le_of_ble_eq_true rfl) ?_
  exact W.vret hx hb hr (fun t ht hW => ⟨⟨(), rfl, trivial, ⟨by rw [ht]; exact hP9, hD9⟩⟩, hS.F ht⟩) hS.2.2 dX3_init_46 hlocks
def f_X0_enterFunction_L20 : Nat → TS → DS → PS → Int32 → IA → IA → Int32 → Int32 → Int32 → Int32 → Option (Int32 × TS × DS × PS)
  | 0, _, _, _, _, _, _, _, _, _, _ => none
  | n + 1, T, D, P, em, ef, eg, v1, v2, v5, v6 => (if v2 ≤ v6 then (if inb D.1 8 = true then (if inb D.2.1 40 = true then some (((D.1 + (1 : Int32)) - (1 : Int32)), T, ((D.1 + (1 : Int32)), (D.2.1 + (1 : Int32)), D.2.2), (addG (addF P (Int32.toNatClampNeg D.1) v1 v2 D.2.1) (Int32.toNatClampNeg D.2.1) (D.1, v5, (tsz v2), em, ef, (Int32.toNatClampNeg v2), eg))) else none) else none) else (Option.bind (g_X9_firstOf T v5) (fun q_6 => (Option.bind (f_X8_push (tsz v2) em ef q_6) (fun q_7 => (Option.bind (g_X9_leaf T 1 ((v2 - (1 : Int32)) - v6)) (fun q_8 => (if inb v6 (Int32.toNatClampNeg v2) = true then (Option.bind (g_X9_secondOf q_8.2 v5) (fun q_10 => (f_X0_enterFunction_L20 n q_8.2 D P q_7.2.1 q_7.2.2 (upd eg (Int32.toNatClampNeg v6) q_8.1) v1 v2 q_10 (v6 + 1)))) else none))))))))
def f_X0_enterFunction (T : TS) (D : DS) (P : PS) (p1 : Int32) (p2 : Int32) : Option (Int32 × TS × DS × PS) := (if szok p2 = true then (if inb p2 65 = true then (f_X0_enterFunction_L20 100000 T D P 0 (fun _ => 0) (fun _ => 0) p1 p2 p1 0) else none) else none)
set_option maxHeartbeats 2000000 in
set_option maxRecDepth 100000 in
theorem kl_X0_enterFunction_20 {l : Launch} (hfl : l.stackTraces = false) {G : GC} {a : AS} {T : TS} {F : FS} {U : US} {S : SS} {D : DS} {R : RS} {M : MS} {N : NS} {P : PS} {q1 : Nat} {q2 : Nat} {q3 : Nat} {A : Nat → Prop} {sz : Nat} {p : Program} {e : Env} {s : State} {m : MethodId} {args : Array Value} {below : List Frame} {meth : Method} {c : Code} (hx : p.tables.exec = Jvm.exec) (hb : c.code = cX0_enterFunction) (hr : meth.sig.returnType = (some .int)) (hml : c.maxLocals = 7) (hown : s.vm.findClass RX0 = some m.cls) (hts : ∀ w ∈ W0, w.before args s = true) (hlocks : meth.locks = false) (hlk : lkA a D.1.toNatClampNeg D.2.1.toNatClampNeg) (hAe : (va_A (wC G a T F U S D R M N P) sz) = A) (hA : ∀ q : Nat, s.heap.size ≤ q → A q) (hE : EV G A s s.heap) (hK : va_K (DG G) clP3 (TY G) s) (r9 : Int32) (T9 : TS) (D9 : DS) (P9 : PS) : ∀ (n : Nat), ∀ (T8 : TS) (em : Int32) (ef : IA) (eg : IA) (v1 : Int32) (v2 : Int32) (v5 : Int32) (v6 : Int32) (H : Heap) (locs : List Loc), va_P (DG G) clP3 ((wC G a T8 F U S D R M N P) ++ ([(q1, .inr (7, [.ref q2, .int em])), (q2, .inl (cyA G 0, (tsz v2), .inl ef)), (q3, .inl (cyA G 0, (Int32.toNatClampNeg v2), .inl eg))] : va_W)) H → va_D A ((wC G a T8 F U S D R M N P) ++ ([(q1, .inr (7, [.ref q2, .int em])), (q2, .inl (cyA G 0, (tsz v2), .inl ef)), (q3, .inl (cyA G 0, (Int32.toNatClampNeg v2), .inl eg))] : va_W)) → va_S A s.heap H locs → ∀ (ls : Array Slot), lv_has ls 7 [(0, .ref (a.1 21)), (1, .int v1), (2, .int v2), (3, .ref q1), (4, .ref q3), (5, .int v5), (6, .int v6)] → f_X0_enterFunction_L20 n T8 D P em ef eg v1 v2 v5 v6 = some (r9, T9, D9, P9) → W p l e ({ frames := 2, cells := 5, slots := 141, locals := 36 }) s m args below meth c H locs 3 130 (MQ below (va_Qi (S := BS) (fun r _ => r = r9) (fun b2 t => lkA (a.1, b2) D9.1.toNatClampNeg D9.2.1.toNatClampNeg ∧ PW G (va_A (wC G a T F U S D R M N P) sz) (wC G (a.1, b2) T9 F U S D9 R M N P9) t) (va_A (wC G a T F U S D R M N P) sz)) args s 5 141 (va_A (wC G a T F U S D R M N P) sz)) (F0 m 20 ls []) := by
  intro n
  induction n with
  | zero =>
    intro T8 em ef eg v1 v2 v5 v6 H locs hP hD hS ls hl hm
    rw [f_X0_enterFunction_L20] at hm
    cases hm
  | succ n ih =>
    intro T8 em ef eg v1 v2 v5 v6 H locs hP hD hS ls hl hm
    rw [f_X0_enterFunction_L20] at hm
    refine lv_iload hx hb dX0_enterFunction_20 (lv_at hl 6 rfl) ?_
    refine lv_iload_n hx hb dX0_enterFunction_22 rfl (lv_at hl 2 rfl) ?_
    refine lv_icmp_ge (tgt := 76) hx hb dX0_enterFunction_23 (by decide) (fun c_3 => ?_) (fun c_3 => ?_)
    · rw [if_pos c_3] at hm
      refine lv_aload_n hx hb dX0_enterFunction_76 rfl (lv_at hl 0 rfl) ?_
      refine va_get (D := DG G) (ci := 0) (v := .ref (a.1 22)) (C := RX0) (T := TX0) (N := 8) hx hb hts inW_X0 hown hK hP 21 rfl rfl 3 (by decide) (hts _ wm142) (fun _ h9 => h9) rfl dX0_enterFunction_77 ?_
      refine lv_aload_n hx hb dX0_enterFunction_80 rfl (lv_at hl 0 rfl) ?_
      refine va_get (D := DG G) (ci := 0) (v := .int D.1) (C := RX0) (T := TX0) (N := 8) hx hb hts inW_X0 hown hK hP 21 rfl rfl 5 (by decide) (hts _ wm144) (fun _ h9 => h9) rfl dX0_enterFunction_81 ?_
      refine va_new (ci := 2) (fs := [.int 0, .int 0, .int 0]) (C := RX2) (T := TX2) (N := 3) hx hb hts inW_X2 tyX2 tyX2_ok hown (hts _ wm135) (hts _ wm879) (hts _ wm22) hK hP hD hS hA rfl (by decide +kernel) (Nat.le_of_ble_eq_true rfl) (Nat.le_of_ble_eq_true rfl) dX0_enterFunction_84 (fun q4 H hP hD hS => ?_)
      have hP : va_P (DG G) clP3 ((wC G a T8 F U S D R M N P) ++ ([(q1, .inr (7, [.ref q2, .int em])), (q2, .inl (cyA G 0, (tsz v2), .inl ef)), (q3, .inl (cyA G 0, (Int32.toNatClampNeg v2), .inl eg)), (q4, .inr (2, [.int 0, .int 0, .int 0]))] : va_W)) H := by rw [List.append_assoc] at hP; exact hP
      have hD : va_D A ((wC G a T8 F U S D R M N P) ++ ([(q1, .inr (7, [.ref q2, .int em])), (q2, .inl (cyA G 0, (tsz v2), .inl ef)), (q3, .inl (cyA G 0, (Int32.toNatClampNeg v2), .inl eg)), (q4, .inr (2, [.int 0, .int 0, .int 0]))] : va_W)) := by rw [List.append_assoc] at hD; exact hD
      refine W.widen (k := 4) (n := 133) (Nat.le_of_ble_eq_true rfl) (Nat.le_of_ble_eq_true rfl) ?_
      refine lv_dup hx hb dX0_enterFunction_87 rfl ?_
      refine lv_iload_n hx hb dX0_enterFunction_88 rfl (lv_at hl 1 rfl) ?_
      refine lv_iload_n hx hb dX0_enterFunction_89 rfl (lv_at hl 2 rfl) ?_
      refine lv_aload_n hx hb dX0_enterFunction_90 rfl (lv_at hl 0 rfl) ?_
      refine va_get (D := DG G) (ci := 0) (v := .int D.2.1) (C := RX0) (T := TX0) (N := 8) hx hb hts inW_X0 hown hK hP 21 rfl rfl 6 (by decide) (hts _ wm146) (fun _ h9 => h9) rfl dX0_enterFunction_91 ?_
      have hFc := free_all hD hS hA
      refine va_callv (va_runI (As := [.int v1, .int v2, .int D.2.1]) (rest := [.ref q4, .int D.1, .ref (a.1 22)]) ⟨hx, hb, hml, hown, hts⟩ (frame_v (wr := ((wC G a T8 F U S D R M N P) ++ [(q1, .inr (7, [.ref q2, .int em])), (q2, .inl (cyA G 0, (tsz v2), .inl ef)), (q3, .inl (cyA G 0, (Int32.toNatClampNeg v2), .inl eg))])) (X1 := (wC G a T8 F U S D R M N P) ++ ([(q1, .inr (7, [.ref q2, .int em])), (q2, .inl (cyA G 0, (tsz v2), .inl ef)), (q3, .inl (cyA G 0, (Int32.toNatClampNeg v2), .inl eg))] ++ [(q4, .inr (2, [.int v1, .int v2, .int D.2.1]))])) (perm_last (E := [(q1, .inr (7, [.ref q2, .int em])), (q2, .inl (cyA G 0, (tsz v2), .inl ef)), (q3, .inl (cyA G 0, (Int32.toNatClampNeg v2), .inl eg))])) (perm_last (E := [(q1, .inr (7, [.ref q2, .int em])), (q2, .inl (cyA G 0, (tsz v2), .inl ef)), (q3, .inl (cyA G 0, (Int32.toNatClampNeg v2), .inl eg))])) (k_X2_init l hfl G q4 v1 v2 D.2.1 H.size)) (cwI 3 hts (gC wm882) rfl rfl rfl (hts _ wm22) (hts _ wm880) (hts _ wm881) rfl (by decide +kernel) ⟨Nat.le_of_ble_eq_true rfl, Nat.le_of_ble_eq_true rfl⟩) (pre_w hK hP hD hS hE hFc) rfl rfl hl.1 rfl (lv_room (Nat.le_of_ble_eq_true rfl)) dX0_enterFunction_94 ⟨Nat.le_of_ble_eq_true rfl, Nat.le_of_ble_eq_true rfl⟩) hS (fun q _ h => hFc q h) hFc (fun u t H locs ht hvm hw hB hz1 hk1 hS => ?_)
      have hP : va_P (DG G) clP3 ((wC G a T8 F U S D R M N P) ++ ([(q1, .inr (7, [.ref q2, .int em])), (q2, .inl (cyA G 0, (tsz v2), .inl ef)), (q3, .inl (cyA G 0, (Int32.toNatClampNeg v2), .inl eg)), (q4, .inr (2, [.int v1, .int v2, .int D.2.1]))] : va_W)) H := by rw [← ht]; exact hB.1
      have hD : va_D A ((wC G a T8 F U S D R M N P) ++ ([(q1, .inr (7, [.ref q2, .int em])), (q2, .inl (cyA G 0, (tsz v2), .inl ef)), (q3, .inl (cyA G 0, (Int32.toNatClampNeg v2), .inl eg)), (q4, .inr (2, [.int v1, .int v2, .int D.2.1]))] : va_W)) := hB.2.weaken (fun _ p _ h => hFc p.1 h)
      clear hB hFc hk1
      refine W.widen (k := 4) (n := 133) (Nat.le_of_ble_eq_true rfl) (Nat.le_of_ble_eq_true rfl) ?_
      obtain ⟨b_4, hm⟩ := ite_some hm
      refine va_astq (r := (RX2, TX2, 3)) hx hb hK hP hD hS 22 2 _ 2 rfl rfl (at_tail (j := 3) rfl) rfl (inb_vp b_4) dX0_enterFunction_97 (fun H locs hP hD hS => ?_)
      have hP : va_P (DG G) clP3 ((wC G (a.1, a.2.1, a.2.2.1, (va_up a.2.2.2.1 (Int32.toNatClampNeg D.1) (some q4)), a.2.2.2.2) T8 F U S D R M N P) ++ ([(q1, .inr (7, [.ref q2, .int em])), (q2, .inl (cyA G 0, (tsz v2), .inl ef)), (q3, .inl (cyA G 0, (Int32.toNatClampNeg v2), .inl eg)), (q4, .inr (2, [.int v1, .int v2, .int D.2.1]))] : va_W)) H := hP
      have hD : va_D A ((wC G (a.1, a.2.1, a.2.2.1, (va_up a.2.2.2.1 (Int32.toNatClampNeg D.1) (some q4)), a.2.2.2.2) T8 F U S D R M N P) ++ ([(q1, .inr (7, [.ref q2, .int em])), (q2, .inl (cyA G 0, (tsz v2), .inl ef)), (q3, .inl (cyA G 0, (Int32.toNatClampNeg v2), .inl eg)), (q4, .inr (2, [.int v1, .int v2, .int D.2.1]))] : va_W)) := hD
      refine lv_aload_n hx hb dX0_enterFunction_98 rfl (lv_at hl 0 rfl) ?_
      refine va_get (D := DG G) (ci := 0) (v := .ref (a.1 23)) (C := RX0) (T := TX0) (N := 8) hx hb hts inW_X0 hown hK hP 21 rfl rfl 4 (by decide) (hts _ wm143) (fun _ h9 => h9) rfl dX0_enterFunction_99 ?_
      refine lv_aload_n hx hb dX0_enterFunction_102 rfl (lv_at hl 0 rfl) ?_
      refine va_get (D := DG G) (ci := 0) (v := .int D.2.1) (C := RX0) (T := TX0) (N := 8) hx hb hts inW_X0 hown hK hP 21 rfl rfl 6 (by decide) (hts _ wm146) (fun _ h9 => h9) rfl dX0_enterFunction_103 ?_
      refine va_new (ci := 3) (fs := [.int 0, .null, .int 0, .null, .int 0, .int 0, .int 0, .int 0]) (C := RX3) (T := TX3) (N := 8) hx hb hts inW_X3 tyX3 tyX3_ok hown (hts _ wm137) (hts _ wm898) (hts _ wm23) hK hP hD hS hA rfl (by decide +kernel) (Nat.le_of_ble_eq_true rfl) (Nat.le_of_ble_eq_true rfl) dX0_enterFunction_106 (fun q5 H hP hD hS => ?_)
      have hP : va_P (DG G) clP3 ((wC G (a.1, a.2.1, a.2.2.1, (va_up a.2.2.2.1 (Int32.toNatClampNeg D.1) (some q4)), a.2.2.2.2) T8 F U S D R M N P) ++ ([(q1, .inr (7, [.ref q2, .int em])), (q2, .inl (cyA G 0, (tsz v2), .inl ef)), (q3, .inl (cyA G 0, (Int32.toNatClampNeg v2), .inl eg)), (q4, .inr (2, [.int v1, .int v2, .int D.2.1])), (q5, .inr (3, [.int 0, .null, .int 0, .null, .int 0, .int 0, .int 0, .int 0]))] : va_W)) H := by rw [List.append_assoc] at hP; exact hP
      have hD : va_D A ((wC G (a.1, a.2.1, a.2.2.1, (va_up a.2.2.2.1 (Int32.toNatClampNeg D.1) (some q4)), a.2.2.2.2) T8 F U S D R M N P) ++ ([(q1, .inr (7, [.ref q2, .int em])), (q2, .inl (cyA G 0, (tsz v2), .inl ef)), (q3, .inl (cyA G 0, (Int32.toNatClampNeg v2), .inl eg)), (q4, .inr (2, [.int v1, .int v2, .int D.2.1])), (q5, .inr (3, [.int 0, .null, .int 0, .null, .int 0, .int 0, .int 0, .int 0]))] : va_W)) := by rw [List.append_assoc] at hD; exact hD
      refine W.widen (k := 5) (n := 141) (Nat.le_of_ble_eq_true rfl) (Nat.le_of_ble_eq_true rfl) ?_
      refine lv_dup hx hb dX0_enterFunction_109 rfl ?_
      refine lv_aload_n hx hb dX0_enterFunction_110 rfl (lv_at hl 0 rfl) ?_
      refine va_get (D := DG G) (ci := 0) (v := .int D.1) (C := RX0) (T := TX0) (N := 8) hx hb hts inW_X0 hown hK hP 21 rfl rfl 5 (by decide) (hts _ wm144) (fun _ h9 => h9) rfl dX0_enterFunction_111 ?_
      refine lv_aload_n hx hb dX0_enterFunction_114 rfl (lv_at hl 3 rfl) ?_
      refine lv_iload hx hb dX0_enterFunction_115 (lv_at hl 5 rfl) ?_
      refine lv_aload hx hb dX0_enterFunction_117 (lv_at hl 4 rfl) ?_
      have hFc := free_all hD hS hA
      refine va_callv (va_runI (As := [.int D.1, .ref q1, .int v5, .ref q3]) (rest := [.ref q5, .int D.2.1, .ref (a.1 23)]) ⟨hx, hb, hml, hown, hts⟩ (frame_v (wr := ((wC G (a.1, a.2.1, a.2.2.1, (va_up a.2.2.2.1 (Int32.toNatClampNeg D.1) (some q4)), a.2.2.2.2) T8 F U S D R M N P) ++ [(q1, .inr (7, [.ref q2, .int em])), (q2, .inl (cyA G 0, (tsz v2), .inl ef)), (q3, .inl (cyA G 0, (Int32.toNatClampNeg v2), .inl eg)), (q4, .inr (2, [.int v1, .int v2, .int D.2.1]))])) (X1 := (wC G (a.1, a.2.1, a.2.2.1, (va_up a.2.2.2.1 (Int32.toNatClampNeg D.1) (some q4)), a.2.2.2.2) T8 F U S D R M N P) ++ ([(q1, .inr (7, [.ref q2, .int em])), (q2, .inl (cyA G 0, (tsz v2), .inl ef)), (q3, .inl (cyA G 0, (Int32.toNatClampNeg v2), .inl eg)), (q4, .inr (2, [.int v1, .int v2, .int D.2.1]))] ++ [(q5, .inr (3, [.int D.1, .ref q1, .int v5, .ref q3, .int 111, .int (-1), .int (-1), .int (-1)]))])) (perm_last (E := [(q1, .inr (7, [.ref q2, .int em])), (q2, .inl (cyA G 0, (tsz v2), .inl ef)), (q3, .inl (cyA G 0, (Int32.toNatClampNeg v2), .inl eg)), (q4, .inr (2, [.int v1, .int v2, .int D.2.1]))])) (perm_last (E := [(q1, .inr (7, [.ref q2, .int em])), (q2, .inl (cyA G 0, (tsz v2), .inl ef)), (q3, .inl (cyA G 0, (Int32.toNatClampNeg v2), .inl eg)), (q4, .inr (2, [.int v1, .int v2, .int D.2.1]))])) (k_X3_init l hfl G q5 D.1 q1 v5 q3 H.size)) (cwI 4 hts (gC wm901) rfl rfl rfl (hts _ wm23) (hts _ wm899) (hts _ wm900) rfl (by decide +kernel) ⟨Nat.le_of_ble_eq_true rfl, Nat.le_of_ble_eq_true rfl⟩) (pre_w hK hP hD hS hE hFc) rfl rfl hl.1 rfl (lv_room (Nat.le_of_ble_eq_true rfl)) dX0_enterFunction_119 ⟨Nat.le_of_ble_eq_true rfl, Nat.le_of_ble_eq_true rfl⟩) hS (fun q _ h => hFc q h) hFc (fun u t H locs ht hvm hw hB hz1 hk1 hS => ?_)
      have hP : va_P (DG G) clP3 ((wC G (a.1, a.2.1, a.2.2.1, (va_up a.2.2.2.1 (Int32.toNatClampNeg D.1) (some q4)), a.2.2.2.2) T8 F U S D R M N P) ++ ([(q1, .inr (7, [.ref q2, .int em])), (q2, .inl (cyA G 0, (tsz v2), .inl ef)), (q3, .inl (cyA G 0, (Int32.toNatClampNeg v2), .inl eg)), (q4, .inr (2, [.int v1, .int v2, .int D.2.1])), (q5, .inr (3, [.int D.1, .ref q1, .int v5, .ref q3, .int 111, .int (-1), .int (-1), .int (-1)]))] : va_W)) H := by rw [← ht]; exact hB.1
      have hD : va_D A ((wC G (a.1, a.2.1, a.2.2.1, (va_up a.2.2.2.1 (Int32.toNatClampNeg D.1) (some q4)), a.2.2.2.2) T8 F U S D R M N P) ++ ([(q1, .inr (7, [.ref q2, .int em])), (q2, .inl (cyA G 0, (tsz v2), .inl ef)), (q3, .inl (cyA G 0, (Int32.toNatClampNeg v2), .inl eg)), (q4, .inr (2, [.int v1, .int v2, .int D.2.1])), (q5, .inr (3, [.int D.1, .ref q1, .int v5, .ref q3, .int 111, .int (-1), .int (-1), .int (-1)]))] : va_W)) := hB.2.weaken (fun _ p _ h => hFc p.1 h)
      clear hB hFc hk1
      refine W.widen (k := 5) (n := 141) (Nat.le_of_ble_eq_true rfl) (Nat.le_of_ble_eq_true rfl) ?_
      obtain ⟨b_5, hm⟩ := ite_some hm
      refine va_astq (r := (RX3, TX3, 8)) hx hb hK hP hD hS 23 3 _ 3 rfl rfl (at_tail (j := 4) rfl) rfl (inb_vp b_5) dX0_enterFunction_122 (fun H locs hP hD hS => ?_)
      have hP : va_P (DG G) clP3 ((wC G (a.1, a.2.1, a.2.2.1, (va_up a.2.2.2.1 (Int32.toNatClampNeg D.1) (some q4)), (va_up a.2.2.2.2 (Int32.toNatClampNeg D.2.1) (some q5))) T8 F U S D R M N P) ++ ([(q1, .inr (7, [.ref q2, .int em])), (q2, .inl (cyA G 0, (tsz v2), .inl ef)), (q3, .inl (cyA G 0, (Int32.toNatClampNeg v2), .inl eg)), (q4, .inr (2, [.int v1, .int v2, .int D.2.1])), (q5, .inr (3, [.int D.1, .ref q1, .int v5, .ref q3, .int 111, .int (-1), .int (-1), .int (-1)]))] : va_W)) H := hP
      have hD : va_D A ((wC G (a.1, a.2.1, a.2.2.1, (va_up a.2.2.2.1 (Int32.toNatClampNeg D.1) (some q4)), (va_up a.2.2.2.2 (Int32.toNatClampNeg D.2.1) (some q5))) T8 F U S D R M N P) ++ ([(q1, .inr (7, [.ref q2, .int em])), (q2, .inl (cyA G 0, (tsz v2), .inl ef)), (q3, .inl (cyA G 0, (Int32.toNatClampNeg v2), .inl eg)), (q4, .inr (2, [.int v1, .int v2, .int D.2.1])), (q5, .inr (3, [.int D.1, .ref q1, .int v5, .ref q3, .int 111, .int (-1), .int (-1), .int (-1)]))] : va_W)) := hD
      refine lv_aload_n hx hb dX0_enterFunction_123 rfl (lv_at hl 0 rfl) ?_
      refine lv_dup hx hb dX0_enterFunction_124 rfl ?_
      refine va_get (D := DG G) (ci := 0) (v := .int D.2.1) (C := RX0) (T := TX0) (N := 8) hx hb hts inW_X0 hown hK hP 21 rfl rfl 6 (by decide) (hts _ wm146) (fun _ h9 => h9) rfl dX0_enterFunction_125 ?_
      refine lv_iconst (v := 1) hx hb dX0_enterFunction_128 (by decide) ?_
      refine lv_iadd hx hb dX0_enterFunction_129 ?_
      unfold wC at hP hD
      rw [List.append_assoc] at hP hD
      have hP : va_P (DG G) clP3 (wX G (a.1, a.2.1, a.2.2.1, (va_up a.2.2.2.1 (Int32.toNatClampNeg D.1) (some q4)), (va_up a.2.2.2.2 (Int32.toNatClampNeg D.2.1) (some q5))) T8 F U S D R M N ++ (wP G a P D.1.toNatClampNeg D.2.1.toNatClampNeg ++ ([(q1, .inr (7, [.ref q2, .int em])), (q2, .inl (cyA G 0, (tsz v2), .inl ef)), (q3, .inl (cyA G 0, (Int32.toNatClampNeg v2), .inl eg)), (q4, .inr (2, [.int v1, .int v2, .int D.2.1])), (q5, .inr (3, [.int D.1, .ref q1, .int v5, .ref q3, .int 111, .int (-1), .int (-1), .int (-1)]))] : va_W))) H := hP
      have hD : va_D A (wX G (a.1, a.2.1, a.2.2.1, (va_up a.2.2.2.1 (Int32.toNatClampNeg D.1) (some q4)), (va_up a.2.2.2.2 (Int32.toNatClampNeg D.2.1) (some q5))) T8 F U S D R M N ++ (wP G a P D.1.toNatClampNeg D.2.1.toNatClampNeg ++ ([(q1, .inr (7, [.ref q2, .int em])), (q2, .inl (cyA G 0, (tsz v2), .inl ef)), (q3, .inl (cyA G 0, (Int32.toNatClampNeg v2), .inl eg)), (q4, .inr (2, [.int v1, .int v2, .int D.2.1])), (q5, .inr (3, [.int D.1, .ref q1, .int v5, .ref q3, .int 111, .int (-1), .int (-1), .int (-1)]))] : va_W))) := hD
      refine va_put (D := DG G) (ci := 0) (v := .int (D.2.1 + (1 : Int32))) (ty := tyX0 6) (C := RX0) (T := TX0) (N := 8) hx hb hts inW_X0 tyX0 tyX0_ok nmX0 hown hK hP hD hS 21 rfl rfl 6 (by decide) (hts _ wm146) (fun _ h9 => h9) rfl (by decide +kernel) rfl rfl (Nat.le_of_ble_eq_true rfl) dX0_enterFunction_130 (fun H locs hP hD hS => ?_)
      have hP : va_P (DG G) clP3 (wX G (a.1, a.2.1, a.2.2.1, (va_up a.2.2.2.1 (Int32.toNatClampNeg D.1) (some q4)), (va_up a.2.2.2.2 (Int32.toNatClampNeg D.2.1) (some q5))) T8 F U S (D.1, (D.2.1 + (1 : Int32)), D.2.2) R M N ++ (wP G a P D.1.toNatClampNeg D.2.1.toNatClampNeg ++ ([(q1, .inr (7, [.ref q2, .int em])), (q2, .inl (cyA G 0, (tsz v2), .inl ef)), (q3, .inl (cyA G 0, (Int32.toNatClampNeg v2), .inl eg)), (q4, .inr (2, [.int v1, .int v2, .int D.2.1])), (q5, .inr (3, [.int D.1, .ref q1, .int v5, .ref q3, .int 111, .int (-1), .int (-1), .int (-1)]))] : va_W))) H := hP
      have hD : va_D A (wX G (a.1, a.2.1, a.2.2.1, (va_up a.2.2.2.1 (Int32.toNatClampNeg D.1) (some q4)), (va_up a.2.2.2.2 (Int32.toNatClampNeg D.2.1) (some q5))) T8 F U S (D.1, (D.2.1 + (1 : Int32)), D.2.2) R M N ++ (wP G a P D.1.toNatClampNeg D.2.1.toNatClampNeg ++ ([(q1, .inr (7, [.ref q2, .int em])), (q2, .inl (cyA G 0, (tsz v2), .inl ef)), (q3, .inl (cyA G 0, (Int32.toNatClampNeg v2), .inl eg)), (q4, .inr (2, [.int v1, .int v2, .int D.2.1])), (q5, .inr (3, [.int D.1, .ref q1, .int v5, .ref q3, .int 111, .int (-1), .int (-1), .int (-1)]))] : va_W))) := hD
      refine lv_aload_n hx hb dX0_enterFunction_133 rfl (lv_at hl 0 rfl) ?_
      refine lv_dup hx hb dX0_enterFunction_134 rfl ?_
      refine va_get (D := DG G) (ci := 0) (v := .int D.1) (C := RX0) (T := TX0) (N := 8) hx hb hts inW_X0 hown hK hP 21 rfl rfl 5 (by decide) (hts _ wm144) (fun _ h9 => h9) rfl dX0_enterFunction_135 ?_
      refine lv_iconst (v := 1) hx hb dX0_enterFunction_138 (by decide) ?_
      refine lv_iadd hx hb dX0_enterFunction_139 ?_
      refine va_put (D := DG G) (ci := 0) (v := .int (D.1 + (1 : Int32))) (ty := tyX0 5) (C := RX0) (T := TX0) (N := 8) hx hb hts inW_X0 tyX0 tyX0_ok nmX0 hown hK hP hD hS 21 rfl rfl 5 (by decide) (hts _ wm144) (fun _ h9 => h9) rfl (by decide +kernel) rfl rfl (Nat.le_of_ble_eq_true rfl) dX0_enterFunction_140 (fun H locs hP hD hS => ?_)
      have hP : va_P (DG G) clP3 (wX G (a.1, a.2.1, a.2.2.1, (va_up a.2.2.2.1 (Int32.toNatClampNeg D.1) (some q4)), (va_up a.2.2.2.2 (Int32.toNatClampNeg D.2.1) (some q5))) T8 F U S ((D.1 + (1 : Int32)), (D.2.1 + (1 : Int32)), D.2.2) R M N ++ (wP G a P D.1.toNatClampNeg D.2.1.toNatClampNeg ++ ([(q1, .inr (7, [.ref q2, .int em])), (q2, .inl (cyA G 0, (tsz v2), .inl ef)), (q3, .inl (cyA G 0, (Int32.toNatClampNeg v2), .inl eg)), (q4, .inr (2, [.int v1, .int v2, .int D.2.1])), (q5, .inr (3, [.int D.1, .ref q1, .int v5, .ref q3, .int 111, .int (-1), .int (-1), .int (-1)]))] : va_W))) H := hP
      have hD : va_D A (wX G (a.1, a.2.1, a.2.2.1, (va_up a.2.2.2.1 (Int32.toNatClampNeg D.1) (some q4)), (va_up a.2.2.2.2 (Int32.toNatClampNeg D.2.1) (some q5))) T8 F U S ((D.1 + (1 : Int32)), (D.2.1 + (1 : Int32)), D.2.2) R M N ++ (wP G a P D.1.toNatClampNeg D.2.1.toNatClampNeg ++ ([(q1, .inr (7, [.ref q2, .int em])), (q2, .inl (cyA G 0, (tsz v2), .inl ef)), (q3, .inl (cyA G 0, (Int32.toNatClampNeg v2), .inl eg)), (q4, .inr (2, [.int v1, .int v2, .int D.2.1])), (q5, .inr (3, [.int D.1, .ref q1, .int v5, .ref q3, .int 111, .int (-1), .int (-1), .int (-1)]))] : va_W))) := hD
      refine lv_aload_n hx hb dX0_enterFunction_143 rfl (lv_at hl 0 rfl) ?_
      refine va_get (D := DG G) (ci := 0) (v := .int (D.1 + (1 : Int32))) (C := RX0) (T := TX0) (N := 8) hx hb hts inW_X0 hown hK hP 21 rfl rfl 5 (by decide) (hts _ wm144) (fun _ h9 => h9) rfl dX0_enterFunction_144 ?_
      refine lv_iconst (v := 1) hx hb dX0_enterFunction_147 (by decide) ?_
      refine lv_isub hx hb dX0_enterFunction_148 ?_
      simp only [Option.some.injEq, Prod.mk.injEq] at hm
      obtain ⟨rfl, rfl, rfl, rfl⟩ := hm
      have e1 := inc_cl (n := D.1) b_4 (by decide)
      have e2 := inc_cl (n := D.2.1) b_5 (by decide)
      have hp : (wX G (a.1, a.2.1, a.2.2.1, (va_up a.2.2.2.1 (Int32.toNatClampNeg D.1) (some q4)), (va_up a.2.2.2.2 (Int32.toNatClampNeg D.2.1) (some q5))) T8 F U S ((D.1 + (1 : Int32)), (D.2.1 + (1 : Int32)), D.2.2) R M N ++ (wP G a P D.1.toNatClampNeg D.2.1.toNatClampNeg ++ ([(q1, .inr (7, [.ref q2, .int em])), (q2, .inl (cyA G 0, (tsz v2), .inl ef)), (q3, .inl (cyA G 0, (Int32.toNatClampNeg v2), .inl eg)), (q4, .inr (2, [.int v1, .int v2, .int D.2.1])), (q5, .inr (3, [.int D.1, .ref q1, .int v5, .ref q3, .int 111, .int (-1), .int (-1), .int (-1)]))] : va_W))).Perm (wC G (a.1, (va_up a.2.1 (Int32.toNatClampNeg D.1) q4, adrG a.2 (Int32.toNatClampNeg D.2.1) (q5, q1, q2, q3), va_up a.2.2.2.1 (Int32.toNatClampNeg D.1) (some q4), va_up a.2.2.2.2 (Int32.toNatClampNeg D.2.1) (some q5))) T8 F U S ((D.1 + (1 : Int32)), (D.2.1 + (1 : Int32)), D.2.2) R M N (addG (addF P (Int32.toNatClampNeg D.1) v1 v2 D.2.1) (Int32.toNatClampNeg D.2.1) (D.1, v5, (tsz v2), em, ef, (Int32.toNatClampNeg v2), eg))) := by
        unfold wC
        refine List.Perm.append_left (wX G (a.1, (va_up a.2.1 (Int32.toNatClampNeg D.1) q4, adrG a.2 (Int32.toNatClampNeg D.2.1) (q5, q1, q2, q3), va_up a.2.2.2.1 (Int32.toNatClampNeg D.1) (some q4), va_up a.2.2.2.2 (Int32.toNatClampNeg D.2.1) (some q5))) T8 F U S ((D.1 + (1 : Int32)), (D.2.1 + (1 : Int32)), D.2.2) R M N) ?_
        show (wP G (a.1, a.2) P (Int32.toNatClampNeg D.1) (Int32.toNatClampNeg D.2.1) ++ ([(q1, .inr (7, [.ref q2, .int em])), (q2, .inl (cyA G 0, (tsz v2), .inl ef)), (q3, .inl (cyA G 0, (Int32.toNatClampNeg v2), .inl eg)), (q4, .inr (2, [.int v1, .int v2, .int D.2.1])), (q5, .inr (3, [.int D.1, .ref q1, .int v5, .ref q3, .int 111, .int (-1), .int (-1), .int (-1)]))] : va_W)).Perm (wP G (a.1, (va_up a.2.1 (Int32.toNatClampNeg D.1) q4, adrG a.2 (Int32.toNatClampNeg D.2.1) (q5, q1, q2, q3), va_up a.2.2.2.1 (Int32.toNatClampNeg D.1) (some q4), va_up a.2.2.2.2 (Int32.toNatClampNeg D.2.1) (some q5))) (addG (addF P (Int32.toNatClampNeg D.1) v1 v2 D.2.1) (Int32.toNatClampNeg D.2.1) (D.1, v5, (tsz v2), em, ef, (Int32.toNatClampNeg v2), eg)) (D.1 + 1).toNatClampNeg (D.2.1 + 1).toNatClampNeg)
        rw [e1, e2]
        refine List.Perm.trans (List.Perm.append_left _ ?_) (wP_enter (b := a.2) (b' := (va_up a.2.1 (Int32.toNatClampNeg D.1) q4, adrG a.2 (Int32.toNatClampNeg D.2.1) (q5, q1, q2, q3), va_up a.2.2.2.1 (Int32.toNatClampNeg D.1) (some q4), va_up a.2.2.2.2 (Int32.toNatClampNeg D.2.1) (some q5))) (u := (q5, q1, q2, q3)) (v := q4) rfl rfl)
        exact List.Perm.cons _ (List.Perm.cons _ (List.Perm.cons _ (List.Perm.swap _ _ _)))
      have hP9 := va_Pmem hP (fun q hq => hp.mem_iff.mpr hq)
      have hD9 := va_Dperm hD hp
      have hl9 : lkA (a.1, (va_up a.2.1 (Int32.toNatClampNeg D.1) q4, adrG a.2 (Int32.toNatClampNeg D.2.1) (q5, q1, q2, q3), va_up a.2.2.2.1 (Int32.toNatClampNeg D.1) (some q4), va_up a.2.2.2.2 (Int32.toNatClampNeg D.2.1) (some q5))) (Int32.toNatClampNeg (((D.1 + (1 : Int32)), (D.2.1 + (1 : Int32)), D.2.2)).1) (Int32.toNatClampNeg (((D.1 + (1 : Int32)), (D.2.1 + (1 : Int32)), D.2.2)).2.1) := by
        show lkA _ (D.1 + 1).toNatClampNeg (D.2.1 + 1).toNatClampNeg
        rw [e1, e2]
        exact lk_enter (b := a.2) hlk rfl rfl rfl rfl
      refine W.widen (k := 5) (n := 141) (Nat.le_of_ble_eq_true rfl) (Nat.le_of_ble_eq_true rfl) ?_
      exact W.iret (v := ((D.1 + (1 : Int32)) - (1 : Int32))) hx hb hr (fun t ht hW => ⟨⟨((D.1 + (1 : Int32)) - (1 : Int32)), (va_up a.2.1 (Int32.toNatClampNeg D.1) q4, adrG a.2 (Int32.toNatClampNeg D.2.1) (q5, q1, q2, q3), va_up a.2.2.2.1 (Int32.toNatClampNeg D.1) (some q4), va_up a.2.2.2.2 (Int32.toNatClampNeg D.2.1) (some q5)), rfl, rfl, hl9, by rw [ht]; exact hP9, by rw [hAe]; exact hD9⟩, by rw [hAe]; exact hS.F ht⟩) (by rw [hAe]; exact hS.2.2) dX0_enterFunction_149 hlocks
    · rw [if_neg c_3] at hm
      refine lv_aload_n hx hb dX0_enterFunction_26 rfl (lv_at hl 3 rfl) ?_
      refine lv_aload_n hx hb dX0_enterFunction_27 rfl (lv_at hl 0 rfl) ?_
      refine va_get (D := DG G) (ci := 0) (v := .ref (a.1 1)) (C := RX0) (T := TX0) (N := 8) hx hb hts inW_X0 hown hK hP 21 rfl rfl 0 (by decide) (hts _ wm139) (fun _ h9 => h9) rfl dX0_enterFunction_28 ?_
      refine lv_iload hx hb dX0_enterFunction_31 (lv_at hl 5 rfl) ?_
      obtain ⟨q_6, hq_6, hm⟩ := bind_some hm
      have hFc := free_all hD hS hA
      refine va_calli (va_runV (As := [.int v5]) (rest := [.ref q1]) ⟨hx, hb, hml, hown, hts⟩ (frame_i (List.Perm.refl _) (List.Perm.refl _) (wr := ([(q1, .inr (7, [.ref q2, .int em])), (q2, .inl (cyA G 0, (tsz v2), .inl ef)), (q3, .inl (cyA G 0, (Int32.toNatClampNeg v2), .inl eg))] : va_W)) (K_X9_firstOf l hfl G a T8 F U S D R M N P v5  q_6 hq_6 H.size)) (cwV 1 hts (gV wm876 wm431 wm432 wm2 wm433) rfl rfl rfl (by decide +kernel) ⟨Nat.le_of_ble_eq_true rfl, Nat.le_of_ble_eq_true rfl⟩) (pre_v (pre_w hK hP hD hS hE hFc) (va_recv hK hP (ci := 8) (q0 := 1) rfl rfl)) rfl rfl hl.1 rfl (lv_room (Nat.le_of_ble_eq_true rfl)) dX0_enterFunction_33 ⟨Nat.le_of_ble_eq_true rfl, Nat.le_of_ble_eq_true rfl⟩) hS (fun q _ h => hFc q h) hFc (fun r u t H locs ht hvm hw hB hz1 hk1 hS => ?_)
      rw [show r = q_6 from hw]
      have hP : va_P (DG G) clP3 ((wC G a T8 F U S D R M N P) ++ ([(q1, .inr (7, [.ref q2, .int em])), (q2, .inl (cyA G 0, (tsz v2), .inl ef)), (q3, .inl (cyA G 0, (Int32.toNatClampNeg v2), .inl eg))] : va_W)) H := by rw [← ht]; exact hB.1
      have hD : va_D A ((wC G a T8 F U S D R M N P) ++ ([(q1, .inr (7, [.ref q2, .int em])), (q2, .inl (cyA G 0, (tsz v2), .inl ef)), (q3, .inl (cyA G 0, (Int32.toNatClampNeg v2), .inl eg))] : va_W)) := hB.2.weaken (fun _ p _ h => hFc p.1 h)
      clear hB hFc hw hk1
      refine W.widen (k := 3) (n := 130) (Nat.le_of_ble_eq_true rfl) (Nat.le_of_ble_eq_true rfl) ?_
      have hFc := free_all hD hS hA
      obtain ⟨q_7, hq_7, hm⟩ := bind_some hm
      refine va_calli (va_runV (As := [.int q_6]) (rest := []) ⟨hx, hb, hml, hown, hts⟩ (frame_i (wr := (wC G a T8 F U S D R M N P) ++ ([(q3, .inl (cyA G 0, (Int32.toNatClampNeg v2), .inl eg))] : va_W)) (X1 := (wC G a T8 F U S D R M N P) ++ ([(q1, .inr (7, [.ref q2, .int q_7.2.1])), (q2, .inl (cyA G 0, (tsz v2), .inl q_7.2.2))] ++ ([(q3, .inl (cyA G 0, (Int32.toNatClampNeg v2), .inl eg))] : va_W))) (List.perm_append_comm_assoc _ [_, _] _) (List.perm_append_comm_assoc _ [_, _] _) (k_X8_push l hfl G (tsz v2) q1 q_6 q2 em ef q_7.1 q_7.2.1 q_7.2.2 hq_7 H.size)) (cwV 1 hts (gV wm877 wm424 wm425 wm7 wm426) rfl rfl rfl (by decide +kernel) ⟨Nat.le_of_ble_eq_true rfl, Nat.le_of_ble_eq_true rfl⟩) (pre_v (pre_w hK hP hD hS hE hFc) (va_recv hK hP (ci := 7) (q0 := _) rfl (at_tail (j := 0) rfl))) rfl rfl hl.1 rfl (lv_room (Nat.le_of_ble_eq_true rfl)) dX0_enterFunction_36 ⟨Nat.le_of_ble_eq_true rfl, Nat.le_of_ble_eq_true rfl⟩) hS (fun q _ h => hFc q h) hFc (fun r u t H locs ht hvm hw hB hz1 hk1 hS => ?_)
      rw [show r = q_7.1 from hw]
      have hP : va_P (DG G) clP3 ((wC G a T8 F U S D R M N P) ++ ([(q1, .inr (7, [.ref q2, .int q_7.2.1])), (q2, .inl (cyA G 0, (tsz v2), .inl q_7.2.2)), (q3, .inl (cyA G 0, (Int32.toNatClampNeg v2), .inl eg))] : va_W)) H := by rw [← ht]; exact hB.1
      have hD : va_D A ((wC G a T8 F U S D R M N P) ++ ([(q1, .inr (7, [.ref q2, .int q_7.2.1])), (q2, .inl (cyA G 0, (tsz v2), .inl q_7.2.2)), (q3, .inl (cyA G 0, (Int32.toNatClampNeg v2), .inl eg))] : va_W)) := hB.2.weaken (fun _ p _ h => hFc p.1 h)
      clear hB hFc hw hk1
      refine W.widen (k := 3) (n := 130) (Nat.le_of_ble_eq_true rfl) (Nat.le_of_ble_eq_true rfl) ?_
      refine lv_pop hx hb dX0_enterFunction_39 rfl ?_
      refine lv_aload hx hb dX0_enterFunction_40 (lv_at hl 4 rfl) ?_
      refine lv_iload hx hb dX0_enterFunction_42 (lv_at hl 6 rfl) ?_
      refine lv_aload_n hx hb dX0_enterFunction_44 rfl (lv_at hl 0 rfl) ?_
      refine va_get (D := DG G) (ci := 0) (v := .ref (a.1 1)) (C := RX0) (T := TX0) (N := 8) hx hb hts inW_X0 hown hK hP 21 rfl rfl 0 (by decide) (hts _ wm139) (fun _ h9 => h9) rfl dX0_enterFunction_45 ?_
      refine lv_iconst (v := 1) hx hb dX0_enterFunction_48 (by decide) ?_
      refine lv_iload_n hx hb dX0_enterFunction_49 rfl (lv_at hl 2 rfl) ?_
      refine lv_iconst (v := 1) hx hb dX0_enterFunction_50 (by decide) ?_
      refine lv_isub hx hb dX0_enterFunction_51 ?_
      refine lv_iload hx hb dX0_enterFunction_52 (lv_at hl 6 rfl) ?_
      refine lv_isub hx hb dX0_enterFunction_54 ?_
      obtain ⟨q_8, hq_8, hm⟩ := bind_some hm
      have hFc := free_all hD hS hA
      refine va_calli (va_runV (As := [.int 1, .int ((v2 - (1 : Int32)) - v6)]) (rest := [.int v6, .ref q3]) ⟨hx, hb, hml, hown, hts⟩ (frame_i (List.Perm.refl _) (List.Perm.refl _) (wr := ([(q1, .inr (7, [.ref q2, .int q_7.2.1])), (q2, .inl (cyA G 0, (tsz v2), .inl q_7.2.2)), (q3, .inl (cyA G 0, (Int32.toNatClampNeg v2), .inl eg))] : va_W)) (K_X9_leaf l hfl G a T8 F U S D R M N P 1 ((v2 - (1 : Int32)) - v6)  q_8.1 q_8.2 hq_8 H.size)) (cwV 2 hts (gV wm878 wm439 wm440 wm2 wm441) rfl rfl rfl (by decide +kernel) ⟨Nat.le_of_ble_eq_true rfl, Nat.le_of_ble_eq_true rfl⟩) (pre_v (pre_w hK hP hD hS hE hFc) (va_recv hK hP (ci := 8) (q0 := 1) rfl rfl)) rfl rfl hl.1 rfl (lv_room (Nat.le_of_ble_eq_true rfl)) dX0_enterFunction_55 ⟨Nat.le_of_ble_eq_true rfl, Nat.le_of_ble_eq_true rfl⟩) hS (fun q _ h => hFc q h) hFc (fun r u t H locs ht hvm hw hB hz1 hk1 hS => ?_)
      rw [show r = q_8.1 from hw]
      have hP : va_P (DG G) clP3 ((wC G a q_8.2 F U S D R M N P) ++ ([(q1, .inr (7, [.ref q2, .int q_7.2.1])), (q2, .inl (cyA G 0, (tsz v2), .inl q_7.2.2)), (q3, .inl (cyA G 0, (Int32.toNatClampNeg v2), .inl eg))] : va_W)) H := by rw [← ht]; exact hB.1
      have hD : va_D A ((wC G a q_8.2 F U S D R M N P) ++ ([(q1, .inr (7, [.ref q2, .int q_7.2.1])), (q2, .inl (cyA G 0, (tsz v2), .inl q_7.2.2)), (q3, .inl (cyA G 0, (Int32.toNatClampNeg v2), .inl eg))] : va_W)) := hB.2.weaken (fun _ p _ h => hFc p.1 h)
      clear hB hFc hw hk1
      refine W.widen (k := 3) (n := 130) (Nat.le_of_ble_eq_true rfl) (Nat.le_of_ble_eq_true rfl) ?_
      obtain ⟨b_9, hm⟩ := ite_some hm
      refine va_iast hx hb hK hP hD hS _ 0 (at_tail (j := 2) rfl) rfl (inb_vp b_9) dX0_enterFunction_58 (fun H locs hP hD hS => ?_)
      have hP : va_P (DG G) clP3 ((wC G a q_8.2 F U S D R M N P) ++ ([(q1, .inr (7, [.ref q2, .int q_7.2.1])), (q2, .inl (cyA G 0, (tsz v2), .inl q_7.2.2)), (q3, .inl (cyA G 0, (Int32.toNatClampNeg v2), .inl (upd eg (Int32.toNatClampNeg v6) q_8.1)))] : va_W)) H := by rw [set_tail] at hP; exact hP
      have hD : va_D A ((wC G a q_8.2 F U S D R M N P) ++ ([(q1, .inr (7, [.ref q2, .int q_7.2.1])), (q2, .inl (cyA G 0, (tsz v2), .inl q_7.2.2)), (q3, .inl (cyA G 0, (Int32.toNatClampNeg v2), .inl (upd eg (Int32.toNatClampNeg v6) q_8.1)))] : va_W)) := by rw [set_tail] at hD; exact hD
      refine lv_aload_n hx hb dX0_enterFunction_59 rfl (lv_at hl 0 rfl) ?_
      refine va_get (D := DG G) (ci := 0) (v := .ref (a.1 1)) (C := RX0) (T := TX0) (N := 8) hx hb hts inW_X0 hown hK hP 21 rfl rfl 0 (by decide) (hts _ wm139) (fun _ h9 => h9) rfl dX0_enterFunction_60 ?_
      refine lv_iload hx hb dX0_enterFunction_63 (lv_at hl 5 rfl) ?_
      obtain ⟨q_10, hq_10, hm⟩ := bind_some hm
      have hFc := free_all hD hS hA
      refine va_calli (va_runV (As := [.int v5]) (rest := []) ⟨hx, hb, hml, hown, hts⟩ (frame_i (List.Perm.refl _) (List.Perm.refl _) (wr := ([(q1, .inr (7, [.ref q2, .int q_7.2.1])), (q2, .inl (cyA G 0, (tsz v2), .inl q_7.2.2)), (q3, .inl (cyA G 0, (Int32.toNatClampNeg v2), .inl (upd eg (Int32.toNatClampNeg v6) q_8.1)))] : va_W)) (K_X9_secondOf l hfl G a q_8.2 F U S D R M N P v5  q_10 hq_10 H.size)) (cwV 1 hts (gV wm867 wm460 wm461 wm2 wm462) rfl rfl rfl (by decide +kernel) ⟨Nat.le_of_ble_eq_true rfl, Nat.le_of_ble_eq_true rfl⟩) (pre_v (pre_w hK hP hD hS hE hFc) (va_recv hK hP (ci := 8) (q0 := 1) rfl rfl)) rfl rfl hl.1 rfl (lv_room (Nat.le_of_ble_eq_true rfl)) dX0_enterFunction_65 ⟨Nat.le_of_ble_eq_true rfl, Nat.le_of_ble_eq_true rfl⟩) hS (fun q _ h => hFc q h) hFc (fun r u t H locs ht hvm hw hB hz1 hk1 hS => ?_)
      rw [show r = q_10 from hw]
      have hP : va_P (DG G) clP3 ((wC G a q_8.2 F U S D R M N P) ++ ([(q1, .inr (7, [.ref q2, .int q_7.2.1])), (q2, .inl (cyA G 0, (tsz v2), .inl q_7.2.2)), (q3, .inl (cyA G 0, (Int32.toNatClampNeg v2), .inl (upd eg (Int32.toNatClampNeg v6) q_8.1)))] : va_W)) H := by rw [← ht]; exact hB.1
      have hD : va_D A ((wC G a q_8.2 F U S D R M N P) ++ ([(q1, .inr (7, [.ref q2, .int q_7.2.1])), (q2, .inl (cyA G 0, (tsz v2), .inl q_7.2.2)), (q3, .inl (cyA G 0, (Int32.toNatClampNeg v2), .inl (upd eg (Int32.toNatClampNeg v6) q_8.1)))] : va_W)) := hB.2.weaken (fun _ p _ h => hFc p.1 h)
      clear hB hFc hw hk1
      refine W.widen (k := 3) (n := 130) (Nat.le_of_ble_eq_true rfl) (Nat.le_of_ble_eq_true rfl) ?_
      refine lv_istore (lv' := [(5, .int q_10), (0, .ref (a.1 21)), (1, .int v1), (2, .int v2), (3, .ref q1), (4, .ref q3), (6, .int v6)]) hx hb dX0_enterFunction_68 hl (by decide) rfl (fun ls hl => ?_)
      refine lv_iinc (v := (v6 + 1)) (lv' := [(6, .int (v6 + 1)), (5, .int q_10), (0, .ref (a.1 21)), (1, .int v1), (2, .int v2), (3, .ref q1), (4, .ref q3)]) hx hb dX0_enterFunction_70 hl (k := 6) rfl rfl (by decide) rfl (fun ls hl => ?_)
      refine lv_goto (tgt := 20) hx hb dX0_enterFunction_73 (by decide) ?_
      refine W.widen (k := 3) (n := 130) (Nat.le_of_ble_eq_true rfl) (Nat.le_of_ble_eq_true rfl) ?_
      exact ih q_8.2 q_7.2.1 q_7.2.2 (upd eg (Int32.toNatClampNeg v6) q_8.1) v1 v2 q_10 (v6 + 1)  _ _ hP hD hS _ (lv_sub hl [2, 3, 4, 5, 6, 1, 0] rfl) hm
set_option maxHeartbeats 2000000 in
set_option maxRecDepth 100000 in
theorem k_X0_enterFunction (l : Launch) (hfl : l.stackTraces = false) (G : GC) (a : AS) (T : TS) (F : FS) (U : US) (S : SS) (D : DS) (R : RS) (M : MS) (N : NS) (P : PS) (hlk : lkA a D.1.toNatClampNeg D.2.1.toNatClampNeg) (p1 : Int32) (p2 : Int32) (r9 : Int32) (T9 : TS) (D9 : DS) (P9 : PS) (hm : f_X0_enterFunction T D P p1 p2 = some (r9, T9, D9, P9)) (sz : Nat) : Met l yX0_enterFunction (Cond.code yX0_enterFunction cX0_enterFunction 7 (some .int) :: W0) ({ frames := 2, cells := 5, slots := 141, locals := 36 }) (va_Pc [.ref (a.1 21), .int p1, .int p2] (WD G (wC G a T F U S D R M N P) sz)) (va_Qi (S := BS) (fun r _ => r = r9) (fun b2 t => lkA (a.1, b2) D9.1.toNatClampNeg D9.2.1.toNatClampNeg ∧ PW G (va_A (wC G a T F U S D R M N P) sz) (wC G (a.1, b2) T9 F U S D9 R M N P9) t) (va_A (wC G a T F U S D R M N P) sz)) 5 141 (va_A (wC G a T F U S D R M N P) sz) := by
  rw [f_X0_enterFunction] at hm
  refine Met.ofW (cc := cX0_enterFunction) (maxL := 7) (ret := (some .int)) (by decide) rfl ?_
  intro p e s m args below meth c s₁ B hml hv
  obtain ⟨rfl, hsz, hP, hK, hD0, hE⟩ := hv
  have hx := B.exec
  have hb := B.bytes
  have hr := B.returns
  have hts := w0_tail B.pre
  have hown : s.vm.findClass RX0 = some m.cls := findClass_of_methodNamed B.named
  have hlocks := B.notSynchronized
  have hD := hD0.self (sz := sz)
  obtain ⟨A, hAe⟩ : ∃ A, (va_A (wC G a T F U S D R M N P) sz) = A := ⟨_, rfl⟩
  rw [hAe] at hD hE
  have hA : ∀ q : Nat, s.heap.size ≤ q → A q := fun q h => by rw [← hAe]; exact Or.inr (by rw [← hsz]; exact h)
  have hS : va_S A s.heap s.heap [] := va_S.rf
  obtain ⟨H, hHe⟩ : ∃ H : Heap, H = s.heap := ⟨_, rfl⟩
  have hP : va_P (DG G) clP3 (wC G a T F U S D R M N P) H := by rw [hHe]; exact hP
  have hS : va_S A s.heap H [] := by rw [hHe]; exact hS
  have hl := lv_entry ([.ref (a.1 21), .int p1, .int p2]) (n := 7) (Nat.le_of_ble_eq_true rfl)
  rw [lg_entry_eq, ← hHe]
  generalize (lg_sl ([.ref (a.1 21), .int p1, .int p2]) ++ List.replicate (7 - (lg_sl ([.ref (a.1 21), .int p1, .int p2])).length) Slot.unset).toArray = ls at hl ⊢
  have hl : lv_has ls 7 [(0, .ref (a.1 21)), (1, .int p1), (2, .int p2)] := hl
  refine va_new (ci := 7) (fs := [.null, .int 0]) (C := RX8) (T := TX8) (N := 2) hx hb hts inW_X8 tyX8 tyX8_ok hown (hts _ wm874) (hts _ wm176) (hts _ wm7) hK hP hD hS hA rfl (by decide +kernel) (Nat.le_of_ble_eq_true rfl) (Nat.le_of_ble_eq_true rfl) dX0_enterFunction_0 (fun q1 H hP hD hS => ?_)
  have hP : va_P (DG G) clP3 ((wC G a T F U S D R M N P) ++ ([(q1, .inr (7, [.null, .int 0]))] : va_W)) H := hP
  have hD : va_D A ((wC G a T F U S D R M N P) ++ ([(q1, .inr (7, [.null, .int 0]))] : va_W)) := hD
  refine W.widen (k := 1) (n := 2) (Nat.le_of_ble_eq_true rfl) (Nat.le_of_ble_eq_true rfl) ?_
  refine lv_dup hx hb dX0_enterFunction_3 rfl ?_
  refine lv_iload_n hx hb dX0_enterFunction_4 rfl (lv_at hl 2 rfl) ?_
  have hFc := free_all hD hS hA
  obtain ⟨b_1, hm⟩ := ite_some hm
  refine va_callv (va_runI (As := [.int p2]) (rest := [.ref q1]) ⟨hx, hb, hml, hown, hts⟩ (frame_vS (wr := (wC G a T F U S D R M N P)) (X1 := fun u9 : Nat => (wC G a T F U S D R M N P) ++ [(q1, .inr (7, [.ref u9, .int 0])), (u9, .inl (cyA G 0, (tsz p2), .inl (fun _ => 0)))]) List.perm_append_comm (fun u9 => List.perm_append_comm) (k_X8_initn l hfl G q1 p2 b_1 H.size)) (cwI 1 hts (gC wm179) rfl rfl rfl (hts _ wm7) (hts _ wm875) (hts _ wm178) rfl (by decide +kernel) ⟨Nat.le_of_ble_eq_true rfl, Nat.le_of_ble_eq_true rfl⟩) (pre_w hK hP hD hS hE hFc) rfl rfl hl.1 rfl (lv_room (Nat.le_of_ble_eq_true rfl)) dX0_enterFunction_5 ⟨Nat.le_of_ble_eq_true rfl, Nat.le_of_ble_eq_true rfl⟩) hS (fun q _ h => hFc q h) hFc (fun q2 t H locs ht hvm hw hB hz1 hk1 hS => ?_)
  have hP : va_P (DG G) clP3 ((wC G a T F U S D R M N P) ++ ([(q1, .inr (7, [.ref q2, .int 0])), (q2, .inl (cyA G 0, (tsz p2), .inl (fun _ => 0)))] : va_W)) H := by rw [← ht]; exact hB.1
  have hD : va_D A ((wC G a T F U S D R M N P) ++ ([(q1, .inr (7, [.ref q2, .int 0])), (q2, .inl (cyA G 0, (tsz p2), .inl (fun _ => 0)))] : va_W)) := hB.2.weaken (fun _ p _ h => hFc p.1 h)
  clear hB hFc hk1
  refine W.widen (k := 2) (n := 66) (Nat.le_of_ble_eq_true rfl) (Nat.le_of_ble_eq_true rfl) ?_
  refine lv_astore_n (lv' := [(3, .ref q1), (0, .ref (a.1 21)), (1, .int p1), (2, .int p2)]) hx hb dX0_enterFunction_8 rfl hl (by decide) rfl (fun ls hl => ?_)
  refine lv_iload_n hx hb dX0_enterFunction_9 rfl (lv_at hl 3 rfl) ?_
  obtain ⟨b_2, hm⟩ := ite_some hm
  refine my_newa (atype := .int) (N' := (Int32.toNatClampNeg p2)) (a0 := ((Int32.toNatClampNeg p2), .inl (fun _ => 0))) (t1 := 0) hx hb (hts _ wm71) rfl rfl hK hP hD hS hA (fun _ => rfl) (inb_nn b_2) rfl (inb_by b_2) (Nat.le_of_ble_eq_true rfl) (inb_sl b_2 (Nat.le_of_ble_eq_true rfl)) dX0_enterFunction_10 (fun q3 H hP hD hS => ?_)
  have hP : va_P (DG G) clP3 ((wC G a T F U S D R M N P) ++ ([(q1, .inr (7, [.ref q2, .int 0])), (q2, .inl (cyA G 0, (tsz p2), .inl (fun _ => 0))), (q3, .inl (cyA G 0, (Int32.toNatClampNeg p2), .inl (fun _ => 0)))] : va_W)) H := by rw [List.append_assoc] at hP; exact hP
  have hD : va_D A ((wC G a T F U S D R M N P) ++ ([(q1, .inr (7, [.ref q2, .int 0])), (q2, .inl (cyA G 0, (tsz p2), .inl (fun _ => 0))), (q3, .inl (cyA G 0, (Int32.toNatClampNeg p2), .inl (fun _ => 0)))] : va_W)) := by rw [List.append_assoc] at hD; exact hD
  refine W.widen (k := 3) (n := 130) (Nat.le_refl _) (inb_wd b_2) ?_
  refine lv_astore (lv' := [(4, .ref q3), (3, .ref q1), (0, .ref (a.1 21)), (1, .int p1), (2, .int p2)]) hx hb dX0_enterFunction_12 hl (by decide) rfl (fun ls hl => ?_)
  refine lv_iload_n hx hb dX0_enterFunction_14 rfl (lv_at hl 3 rfl) ?_
  refine lv_istore (lv' := [(5, .int p1), (4, .ref q3), (3, .ref q1), (0, .ref (a.1 21)), (1, .int p1), (2, .int p2)]) hx hb dX0_enterFunction_15 hl (by decide) rfl (fun ls hl => ?_)
  refine lv_iconst (v := 0) hx hb dX0_enterFunction_17 (by decide) ?_
  refine lv_istore (lv' := [(6, .int 0), (5, .int p1), (4, .ref q3), (3, .ref q1), (0, .ref (a.1 21)), (1, .int p1), (2, .int p2)]) hx hb dX0_enterFunction_18 hl (by decide) rfl (fun ls hl => ?_)
  refine W.widen (k := 3) (n := 130) (Nat.le_of_ble_eq_true rfl) (Nat.le_of_ble_eq_true rfl) ?_
  exact kl_X0_enterFunction_20 hfl hx hb hr hml hown hts hlocks hlk hAe hA hE hK r9 T9 D9 P9 100000 T 0 (fun _ => 0) (fun _ => 0) p1 p2 p1 0  _ _ hP hD hS _ (lv_sub hl [4, 5, 6, 3, 2, 1, 0] rfl) hm
def f_X0_childOf_L243 : Nat → TS → FS → SS → DS → PS → Int32 → IA → IA → Int32 → Int32 → Int32 → Int32 → Int32 → Int32 → Int32 → Option (Int32 × TS × FS × CS)
  | 0, _, _, _, _, _, _, _, _, _, _, _, _, _, _, _ => none
  | n + 1, T, F, S, D, P, em, ef, eg, v1, v2, v4, v5, v7, v8, v10 => (if (Int32.ofNat (Int32.toNatClampNeg (Int32.ofNat (P.2.2.2.2.2.2.2.2.2.2.2.2.1 (Int32.toNatClampNeg v1))))) ≤ v10 then some ((0), T, F, ((P.2.2.2.1 (Int32.toNatClampNeg v1)), v8, (tsz ((v5 - (1 : Int32)) + v4)), em, ef, (Int32.toNatClampNeg (Int32.ofNat (P.2.2.2.2.2.2.2.2.2.2.2.2.1 (Int32.toNatClampNeg v1)))), eg)) else (Option.bind (g_X9_mark T) (fun q_22 => (if inb v10 (P.2.2.2.2.2.2.2.2.2.2.2.2.1 (Int32.toNatClampNeg v1)) = true then (Option.bind (f_X0_withValue T ((P.2.2.2.2.2.2.2.2.2.2.2.2.2 (Int32.toNatClampNeg v1)) (Int32.toNatClampNeg v10)) v7 v4 ((v5 - (1 : Int32)) - v2)) (fun q_24 => (Option.bind (g_X9_keep q_24.2 F q_22 q_24.1) (fun q_25 => (if inb v10 (Int32.toNatClampNeg (Int32.ofNat (P.2.2.2.2.2.2.2.2.2.2.2.2.1 (Int32.toNatClampNeg v1)))) = true then (f_X0_childOf_L243 n q_25.2.1 q_25.2.2 S D P em ef (upd eg (Int32.toNatClampNeg v10) q_25.1) v1 v2 v4 v5 v7 v8 (v10 + 1)) else none))))) else none))))
def f_X0_childOf_L149 : Nat → TS → FS → SS → DS → PS → Int32 → IA → Int32 → Int32 → Int32 → Int32 → Int32 → Int32 → Option (Int32 × TS × FS × CS)
  | 0, _, _, _, _, _, _, _, _, _, _, _, _, _ => none
  | n + 1, T, F, S, D, P, em, ef, v1, v2, v4, v5, v7, v8 => (if v5 ≤ v8 then (Option.bind (f_X0_formWithValue T F (P.2.2.2.2.1 (Int32.toNatClampNeg v1)) v7 v4 ((v5 - (1 : Int32)) - v2)) (fun q_14 => (if q_14.1 = (-1) then some ((-1), q_14.2.1, q_14.2.2, (0, 0, 0, 0, (fun _ => 0), 0, (fun _ => 0))) else (if inb (Int32.ofNat (P.2.2.2.2.2.2.2.2.2.2.2.2.1 (Int32.toNatClampNeg v1))) 65 = true then (f_X0_childOf_L243 100000 q_14.2.1 q_14.2.2 S D P em ef (fun _ => 0) v1 v2 v4 v5 v7 q_14.1 0) else none)))) else (Option.bind (g_X8_typeAt_g P v1 v8) (fun q_17 => (Option.bind (f_X0_formWithValue T F q_17 v7 v4 ((v8 - (1 : Int32)) - v2)) (fun q_18 => (if q_18.1 = (-1) then some ((-1), q_18.2.1, q_18.2.2, (0, 0, 0, 0, (fun _ => 0), 0, (fun _ => 0))) else (Option.bind (f_X8_push (tsz ((v5 - (1 : Int32)) + v4)) em ef q_18.1) (fun q_20 => (f_X0_childOf_L149 n q_18.2.1 q_18.2.2 S D P q_20.2.1 q_20.2.2 v1 v2 v4 v5 v7 (v8 + 1))))))))))
def f_X0_childOf_L79 : Nat → TS → FS → SS → DS → PS → Int32 → IA → Int32 → Int32 → Int32 → Int32 → Int32 → Int32 → Int32 → Option (Int32 × TS × FS × CS)
  | 0, _, _, _, _, _, _, _, _, _, _, _, _, _, _ => none
  | n + 1, T, F, S, D, P, em, ef, v1, v2, v3, v4, v5, v7, v8 => (if v4 ≤ v8 then (f_X0_childOf_L149 100000 T F S D P em ef v1 v2 v4 v5 v7 (v2 + (1 : Int32))) else (Option.bind (g_X7_partOf S v3 v8) (fun q_8 => (Option.bind (g_X9_leaf T 2 q_8) (fun q_9 => (Option.bind (f_X8_push (tsz ((v5 - (1 : Int32)) + v4)) em ef q_9.1) (fun q_10 => (Option.bind (g_X9_leaf q_9.2 1 ((v4 - (1 : Int32)) - v8)) (fun q_11 => (Option.bind (g_X9_pair q_11.2 7 v7 q_11.1) (fun q_12 => (f_X0_childOf_L79 n q_12.2 F S D P q_10.2.1 q_10.2.2 v1 v2 v3 v4 v5 q_12.1 (v8 + 1)))))))))))))
def f_X0_childOf_L38 : Nat → TS → FS → SS → DS → PS → Int32 → IA → Int32 → Int32 → Int32 → Int32 → Int32 → Int32 → Option (Int32 × TS × FS × CS)
  | 0, _, _, _, _, _, _, _, _, _, _, _, _, _ => none
  | n + 1, T, F, S, D, P, em, ef, v1, v2, v3, v4, v5, v7 => (if v2 ≤ v7 then (Option.bind (g_X9_leaf T 3 v3) (fun q_4 => (f_X0_childOf_L79 100000 q_4.2 F S D P em ef v1 v2 v3 v4 v5 q_4.1 0))) else (Option.bind (g_X8_typeAt_g P v1 v7) (fun q_5 => (Option.bind (f_X8_push (tsz ((v5 - (1 : Int32)) + v4)) em ef q_5) (fun q_6 => (f_X0_childOf_L38 n T F S D P q_6.2.1 q_6.2.2 v1 v2 v3 v4 v5 (v7 + 1)))))))
def f_X0_childOf (T : TS) (F : FS) (S : SS) (D : DS) (P : PS) (p1 : Int32) (p2 : Int32) (p3 : Int32) : Option (Int32 × TS × FS × CS) := (Option.bind (g_X7_partsOf S p3) (fun q_1 => (if szok (((P.2.2.2.2.2.2.2.2.2.2.1 (Int32.toNatClampNeg p1)) - (1 : Int32)) + q_1) = true then (f_X0_childOf_L38 100000 T F S D P 0 (fun _ => 0) p1 p2 p3 q_1 (P.2.2.2.2.2.2.2.2.2.2.1 (Int32.toNatClampNeg p1)) 0) else none)))
set_option maxHeartbeats 2000000 in
set_option maxRecDepth 100000 in
theorem kl_X0_childOf_243 {l : Launch} (hfl : l.stackTraces = false) {G : GC} {a : AS} {T : TS} {F : FS} {U : US} {S : SS} {D : DS} {R : RS} {M : MS} {N : NS} {P : PS} {q1 : Nat} {q2 : Nat} {q3 : Nat} {A : Nat → Prop} {sz : Nat} {p : Program} {e : Env} {s : State} {m : MethodId} {args : Array Value} {below : List Frame} {meth : Method} {c : Code} (hx : p.tables.exec = Jvm.exec) (hb : c.code = cX0_childOf) (hr : meth.sig.returnType = (some (.object "TelescopeCourt$Goal"))) (hml : c.maxLocals = 12) (hown : s.vm.findClass RX0 = some m.cls) (hts : ∀ w ∈ W0, w.before args s = true) (hlocks : meth.locks = false) (hlk : lkA a D.1.toNatClampNeg D.2.1.toNatClampNeg) (hAe : (va_A (wC G a T F U S D R M N P) sz) = A) (hA : ∀ q : Nat, s.heap.size ≤ q → A q) (hE : EV G A s s.heap) (hK : va_K (DG G) clP3 (TY G) s) (r9 : Int32) (T9 : TS) (F9 : FS) (Z9 : CS) : ∀ (n : Nat), ∀ (T8 : TS) (F8 : FS) (em : Int32) (ef : IA) (eg : IA) (v1 : Int32) (v2 : Int32) (v4 : Int32) (v5 : Int32) (v7 : Int32) (v8 : Int32) (v10 : Int32) (hv1 : gix D v1 = true) (H : Heap) (locs : List Loc), va_P (DG G) clP3 ((wC G a T8 F8 U S D R M N P) ++ ([(q1, .inr (7, [.ref q2, .int em])), (q2, .inl (cyA G 0, (tsz ((v5 - (1 : Int32)) + v4)), .inl ef)), (q3, .inl (cyA G 0, (Int32.toNatClampNeg (Int32.ofNat (P.2.2.2.2.2.2.2.2.2.2.2.2.1 (Int32.toNatClampNeg v1)))), .inl eg))] : va_W)) H → va_D A ((wC G a T8 F8 U S D R M N P) ++ ([(q1, .inr (7, [.ref q2, .int em])), (q2, .inl (cyA G 0, (tsz ((v5 - (1 : Int32)) + v4)), .inl ef)), (q3, .inl (cyA G 0, (Int32.toNatClampNeg (Int32.ofNat (P.2.2.2.2.2.2.2.2.2.2.2.2.1 (Int32.toNatClampNeg v1)))), .inl eg))] : va_W)) → va_S A s.heap H locs → ∀ (ls : Array Slot), lv_has ls 12 [(0, .ref (a.1 21)), (1, .ref (a.2.2.1 (Int32.toNatClampNeg v1) 0)), (2, .int v2), (4, .int v4), (5, .int v5), (6, .ref q1), (7, .int v7), (8, .int v8), (9, .ref q3), (10, .int v10)] → f_X0_childOf_L243 n T8 F8 S D P em ef eg v1 v2 v4 v5 v7 v8 v10 = some (r9, T9, F9, Z9) → W p l e ({ frames := 406, cells := 4, slots := 138, locals := 10542 }) s m args below meth c H locs 3 130 (MQ below (va_Qq (S := Nat × Nat × Nat × Nat) (fun r u => r = if r9 < 0 then none else some u.1) (fun u t => PW G (va_A (wC G a T F U S D R M N P) sz) (wC G a T9 F9 U S D R M N P ++ (if r9 < 0 then [] else childcells G u Z9)) t) (va_A (wC G a T F U S D R M N P) sz)) args s 4 138 (va_A (wC G a T F U S D R M N P) sz)) (F0 m 243 ls []) := by
  intro n
  induction n with
  | zero =>
    intro T8 F8 em ef eg v1 v2 v4 v5 v7 v8 v10 hv1 H locs hP hD hS ls hl hm
    rw [f_X0_childOf_L243] at hm
    cases hm
  | succ n ih =>
    intro T8 F8 em ef eg v1 v2 v4 v5 v7 v8 v10 hv1 H locs hP hD hS ls hl hm
    rw [f_X0_childOf_L243] at hm
    refine lv_iload hx hb dX0_childOf_243 (lv_at hl 9 rfl) ?_
    refine lv_aload hx hb dX0_childOf_245 (lv_at hl 8 rfl) ?_
    refine va_alen (v := Int32.ofNat (Int32.toNatClampNeg (Int32.ofNat (P.2.2.2.2.2.2.2.2.2.2.2.2.1 (Int32.toNatClampNeg v1))))) hx hb hK hP _ 0 (at_tail (j := 2) rfl) rfl rfl dX0_childOf_247 ?_
    refine lv_icmp_ge (tgt := 301) hx hb dX0_childOf_248 (by decide) (fun c_21 => ?_) (fun c_21 => ?_)
    · rw [if_pos c_21] at hm
      refine va_new (ci := 3) (fs := [.int 0, .null, .int 0, .null, .int 0, .int 0, .int 0, .int 0]) (C := RX3) (T := TX3) (N := 8) hx hb hts inW_X3 tyX3 tyX3_ok hown (hts _ wm137) (hts _ wm898) (hts _ wm23) hK hP hD hS hA rfl (by decide +kernel) (Nat.le_of_ble_eq_true rfl) (Nat.le_of_ble_eq_true rfl) dX0_childOf_301 (fun q4 H hP hD hS => ?_)
      have hP : va_P (DG G) clP3 ((wC G a T8 F8 U S D R M N P) ++ ([(q1, .inr (7, [.ref q2, .int em])), (q2, .inl (cyA G 0, (tsz ((v5 - (1 : Int32)) + v4)), .inl ef)), (q3, .inl (cyA G 0, (Int32.toNatClampNeg (Int32.ofNat (P.2.2.2.2.2.2.2.2.2.2.2.2.1 (Int32.toNatClampNeg v1)))), .inl eg)), (q4, .inr (3, [.int 0, .null, .int 0, .null, .int 0, .int 0, .int 0, .int 0]))] : va_W)) H := by rw [List.append_assoc] at hP; exact hP
      have hD : va_D A ((wC G a T8 F8 U S D R M N P) ++ ([(q1, .inr (7, [.ref q2, .int em])), (q2, .inl (cyA G 0, (tsz ((v5 - (1 : Int32)) + v4)), .inl ef)), (q3, .inl (cyA G 0, (Int32.toNatClampNeg (Int32.ofNat (P.2.2.2.2.2.2.2.2.2.2.2.2.1 (Int32.toNatClampNeg v1)))), .inl eg)), (q4, .inr (3, [.int 0, .null, .int 0, .null, .int 0, .int 0, .int 0, .int 0]))] : va_W)) := by rw [List.append_assoc] at hD; exact hD
      refine W.widen (k := 4) (n := 138) (Nat.le_of_ble_eq_true rfl) (Nat.le_of_ble_eq_true rfl) ?_
      refine lv_dup hx hb dX0_childOf_304 rfl ?_
      refine lv_aload_n hx hb dX0_childOf_305 rfl (lv_at hl 1 rfl) ?_
      refine va_getN (D := DG G) (ci := 3) (v := .int (P.2.2.2.1 (Int32.toNatClampNeg v1))) (C := RX3) (T := TX3) (N := 8) hx hb hts inW_X3 hown hK hP _ (at_pre ((at_goalC (c := 0) (gix_lt hv1) (by decide)).trans rfl)) rfl 0 (by decide) (va_Nw.use rfl (hE.1 _ nw906)) (fun _ h9 => h9) rfl dX0_childOf_306 ?_
      refine lv_aload hx hb dX0_childOf_309 (lv_at hl 5 rfl) ?_
      refine lv_iload hx hb dX0_childOf_311 (lv_at hl 7 rfl) ?_
      refine lv_aload hx hb dX0_childOf_313 (lv_at hl 8 rfl) ?_
      have hFc := free_all hD hS hA
      refine va_callv (va_runI (As := [.int (P.2.2.2.1 (Int32.toNatClampNeg v1)), .ref q1, .int v8, .ref q3]) (rest := [.ref q4]) ⟨hx, hb, hml, hown, hts⟩ (frame_v (wr := ((wC G a T8 F8 U S D R M N P) ++ [(q1, .inr (7, [.ref q2, .int em])), (q2, .inl (cyA G 0, (tsz ((v5 - (1 : Int32)) + v4)), .inl ef)), (q3, .inl (cyA G 0, (Int32.toNatClampNeg (Int32.ofNat (P.2.2.2.2.2.2.2.2.2.2.2.2.1 (Int32.toNatClampNeg v1)))), .inl eg))])) (X1 := (wC G a T8 F8 U S D R M N P) ++ ([(q1, .inr (7, [.ref q2, .int em])), (q2, .inl (cyA G 0, (tsz ((v5 - (1 : Int32)) + v4)), .inl ef)), (q3, .inl (cyA G 0, (Int32.toNatClampNeg (Int32.ofNat (P.2.2.2.2.2.2.2.2.2.2.2.2.1 (Int32.toNatClampNeg v1)))), .inl eg))] ++ [(q4, .inr (3, [.int (P.2.2.2.1 (Int32.toNatClampNeg v1)), .ref q1, .int v8, .ref q3, .int 111, .int (-1), .int (-1), .int (-1)]))])) (perm_last (E := [(q1, .inr (7, [.ref q2, .int em])), (q2, .inl (cyA G 0, (tsz ((v5 - (1 : Int32)) + v4)), .inl ef)), (q3, .inl (cyA G 0, (Int32.toNatClampNeg (Int32.ofNat (P.2.2.2.2.2.2.2.2.2.2.2.2.1 (Int32.toNatClampNeg v1)))), .inl eg))])) (perm_last (E := [(q1, .inr (7, [.ref q2, .int em])), (q2, .inl (cyA G 0, (tsz ((v5 - (1 : Int32)) + v4)), .inl ef)), (q3, .inl (cyA G 0, (Int32.toNatClampNeg (Int32.ofNat (P.2.2.2.2.2.2.2.2.2.2.2.2.1 (Int32.toNatClampNeg v1)))), .inl eg))])) (k_X3_init l hfl G q4 (P.2.2.2.1 (Int32.toNatClampNeg v1)) q1 v8 q3 H.size)) (cwI 4 hts (gC wm901) rfl rfl rfl (hts _ wm23) (hts _ wm899) (hts _ wm900) rfl (by decide +kernel) ⟨Nat.le_of_ble_eq_true rfl, Nat.le_of_ble_eq_true rfl⟩) (pre_w hK hP hD hS hE hFc) rfl rfl hl.1 rfl (lv_room (Nat.le_of_ble_eq_true rfl)) dX0_childOf_315 ⟨Nat.le_of_ble_eq_true rfl, Nat.le_of_ble_eq_true rfl⟩) hS (fun q _ h => hFc q h) hFc (fun u t H locs ht hvm hw hB hz1 hk1 hS => ?_)
      have hP : va_P (DG G) clP3 ((wC G a T8 F8 U S D R M N P) ++ ([(q1, .inr (7, [.ref q2, .int em])), (q2, .inl (cyA G 0, (tsz ((v5 - (1 : Int32)) + v4)), .inl ef)), (q3, .inl (cyA G 0, (Int32.toNatClampNeg (Int32.ofNat (P.2.2.2.2.2.2.2.2.2.2.2.2.1 (Int32.toNatClampNeg v1)))), .inl eg)), (q4, .inr (3, [.int (P.2.2.2.1 (Int32.toNatClampNeg v1)), .ref q1, .int v8, .ref q3, .int 111, .int (-1), .int (-1), .int (-1)]))] : va_W)) H := by rw [← ht]; exact hB.1
      have hD : va_D A ((wC G a T8 F8 U S D R M N P) ++ ([(q1, .inr (7, [.ref q2, .int em])), (q2, .inl (cyA G 0, (tsz ((v5 - (1 : Int32)) + v4)), .inl ef)), (q3, .inl (cyA G 0, (Int32.toNatClampNeg (Int32.ofNat (P.2.2.2.2.2.2.2.2.2.2.2.2.1 (Int32.toNatClampNeg v1)))), .inl eg)), (q4, .inr (3, [.int (P.2.2.2.1 (Int32.toNatClampNeg v1)), .ref q1, .int v8, .ref q3, .int 111, .int (-1), .int (-1), .int (-1)]))] : va_W)) := hB.2.weaken (fun _ p _ h => hFc p.1 h)
      clear hB hFc hk1
      refine W.widen (k := 4) (n := 138) (Nat.le_of_ble_eq_true rfl) (Nat.le_of_ble_eq_true rfl) ?_
      simp only [Option.some.injEq, Prod.mk.injEq] at hm
      obtain ⟨rfl, rfl, rfl, rfl⟩ := hm
      refine W.widen (k := 4) (n := 138) (Nat.le_of_ble_eq_true rfl) (Nat.le_of_ble_eq_true rfl) ?_
      have hif : (if ((0 : Int32)) < 0 then ([] : va_W) else childcells G (q4, q1, q2, q3) ((P.2.2.2.1 (Int32.toNatClampNeg v1)), v8, (tsz ((v5 - (1 : Int32)) + v4)), em, ef, (Int32.toNatClampNeg (Int32.ofNat (P.2.2.2.2.2.2.2.2.2.2.2.2.1 (Int32.toNatClampNeg v1)))), eg)) = childcells G (q4, q1, q2, q3) ((P.2.2.2.1 (Int32.toNatClampNeg v1)), v8, (tsz ((v5 - (1 : Int32)) + v4)), em, ef, (Int32.toNatClampNeg (Int32.ofNat (P.2.2.2.2.2.2.2.2.2.2.2.2.1 (Int32.toNatClampNeg v1)))), eg) := if_neg (by decide)
      exact W.aret (v := .ref q4) hx hb hr (Or.inl ⟨_, rfl⟩) (Or.inr ⟨_, rfl⟩) (fun t ht hW => ⟨⟨(some q4), (q4, q1, q2, q3), rfl, (if_neg (by decide)).symm, by rw [hif, ht]; exact hP, by rw [hAe, hif]; exact hD⟩, by rw [hAe]; exact hS.F ht⟩) (by rw [hAe]; exact hS.2.2) dX0_childOf_318 hlocks
    · rw [if_neg c_21] at hm
      refine lv_aload_n hx hb dX0_childOf_251 rfl (lv_at hl 0 rfl) ?_
      refine va_get (D := DG G) (ci := 0) (v := .ref (a.1 1)) (C := RX0) (T := TX0) (N := 8) hx hb hts inW_X0 hown hK hP 21 rfl rfl 0 (by decide) (hts _ wm139) (fun _ h9 => h9) rfl dX0_childOf_252 ?_
      obtain ⟨q_22, hq_22, hm⟩ := bind_some hm
      have hFc := free_all hD hS hA
      refine va_calli (va_runV (As := []) (rest := []) ⟨hx, hb, hml, hown, hts⟩ (frame_i (List.Perm.refl _) (List.Perm.refl _) (wr := ([(q1, .inr (7, [.ref q2, .int em])), (q2, .inl (cyA G 0, (tsz ((v5 - (1 : Int32)) + v4)), .inl ef)), (q3, .inl (cyA G 0, (Int32.toNatClampNeg (Int32.ofNat (P.2.2.2.2.2.2.2.2.2.2.2.2.1 (Int32.toNatClampNeg v1)))), .inl eg))] : va_W)) (K_X9_mark l hfl G a T8 F8 U S D R M N P   q_22 hq_22 H.size)) (cwV 0 hts (gV wm987 wm411 wm412 wm2 wm413) rfl rfl rfl (by decide +kernel) ⟨Nat.le_of_ble_eq_true rfl, Nat.le_of_ble_eq_true rfl⟩) (pre_v (pre_w hK hP hD hS hE hFc) (va_recv hK hP (ci := 8) (q0 := 1) rfl rfl)) rfl rfl hl.1 rfl (lv_room (Nat.le_of_ble_eq_true rfl)) dX0_childOf_255 ⟨Nat.le_of_ble_eq_true rfl, Nat.le_of_ble_eq_true rfl⟩) hS (fun q _ h => hFc q h) hFc (fun r u t H locs ht hvm hw hB hz1 hk1 hS => ?_)
      rw [show r = q_22 from hw]
      have hP : va_P (DG G) clP3 ((wC G a T8 F8 U S D R M N P) ++ ([(q1, .inr (7, [.ref q2, .int em])), (q2, .inl (cyA G 0, (tsz ((v5 - (1 : Int32)) + v4)), .inl ef)), (q3, .inl (cyA G 0, (Int32.toNatClampNeg (Int32.ofNat (P.2.2.2.2.2.2.2.2.2.2.2.2.1 (Int32.toNatClampNeg v1)))), .inl eg))] : va_W)) H := by rw [← ht]; exact hB.1
      have hD : va_D A ((wC G a T8 F8 U S D R M N P) ++ ([(q1, .inr (7, [.ref q2, .int em])), (q2, .inl (cyA G 0, (tsz ((v5 - (1 : Int32)) + v4)), .inl ef)), (q3, .inl (cyA G 0, (Int32.toNatClampNeg (Int32.ofNat (P.2.2.2.2.2.2.2.2.2.2.2.2.1 (Int32.toNatClampNeg v1)))), .inl eg))] : va_W)) := hB.2.weaken (fun _ p _ h => hFc p.1 h)
      clear hB hFc hw hk1
      refine W.widen (k := 3) (n := 130) (Nat.le_of_ble_eq_true rfl) (Nat.le_of_ble_eq_true rfl) ?_
      refine lv_istore (lv' := [(11, .int q_22), (0, .ref (a.1 21)), (1, .ref (a.2.2.1 (Int32.toNatClampNeg v1) 0)), (2, .int v2), (4, .int v4), (5, .int v5), (6, .ref q1), (7, .int v7), (8, .int v8), (9, .ref q3), (10, .int v10)]) hx hb dX0_childOf_258 hl (by decide) rfl (fun ls hl => ?_)
      refine lv_aload hx hb dX0_childOf_260 (lv_at hl 9 rfl) ?_
      refine lv_iload hx hb dX0_childOf_262 (lv_at hl 10 rfl) ?_
      refine lv_aload_n hx hb dX0_childOf_264 rfl (lv_at hl 1 rfl) ?_
      refine va_get (D := DG G) (ci := 0) (v := .ref (a.1 1)) (C := RX0) (T := TX0) (N := 8) hx hb hts inW_X0 hown hK hP 21 rfl rfl 0 (by decide) (hts _ wm139) (fun _ h9 => h9) rfl dX0_childOf_265 ?_
      refine lv_iload hx hb dX0_childOf_268 (lv_at hl 0 rfl) ?_
      refine lv_aload_n hx hb dX0_childOf_270 rfl (lv_at hl 1 rfl) ?_
      refine lv_aload_n hx hb dX0_childOf_271 rfl (lv_at hl 2 rfl) ?_
      refine va_getN (D := DG G) (ci := 3) (v := .ref (a.2.2.1 (Int32.toNatClampNeg v1) 3)) (C := RX3) (T := TX3) (N := 8) hx hb hts inW_X3 hown hK hP _ (at_pre ((at_goalC (c := 0) (gix_lt hv1) (by decide)).trans rfl)) rfl 3 (by decide) (va_Nw.use rfl (hE.1 _ nw918)) (fun _ h9 => h9) rfl dX0_childOf_272 ?_
      refine lv_iload hx hb dX0_childOf_275 (lv_at hl 10 rfl) ?_
      obtain ⟨b_23, hm⟩ := ite_some hm
      refine va_iald hx hb hK hP _ 0 (at_pre ((at_goalC (c := 3) (gix_lt hv1) (by decide)).trans rfl)) rfl (inb_vp b_23) dX0_childOf_277 ?_
      refine lv_iload hx hb dX0_childOf_278 (lv_at hl 7 rfl) ?_
      refine lv_iload hx hb dX0_childOf_280 (lv_at hl 4 rfl) ?_
      refine lv_iload hx hb dX0_childOf_282 (lv_at hl 5 rfl) ?_
      refine lv_iconst (v := 1) hx hb dX0_childOf_284 (by decide) ?_
      refine lv_isub hx hb dX0_childOf_285 ?_
      refine lv_iload_n hx hb dX0_childOf_286 rfl (lv_at hl 3 rfl) ?_
      refine lv_isub hx hb dX0_childOf_287 ?_
      obtain ⟨q_24, hq_24, hm⟩ := bind_some hm
      have hFc := free_all hD hS hA
      refine va_calli (va_runV (As := [.int ((P.2.2.2.2.2.2.2.2.2.2.2.2.2 (Int32.toNatClampNeg v1)) (Int32.toNatClampNeg v10)), .int v7, .int v4, .int ((v5 - (1 : Int32)) - v2)]) (rest := [.int q_22, .ref (a.1 1), .int v10, .ref q3]) ⟨hx, hb, hml, hown, hts⟩ (frame_i (List.Perm.refl _) (List.Perm.refl _) (wr := ([(q1, .inr (7, [.ref q2, .int em])), (q2, .inl (cyA G 0, (tsz ((v5 - (1 : Int32)) + v4)), .inl ef)), (q3, .inl (cyA G 0, (Int32.toNatClampNeg (Int32.ofNat (P.2.2.2.2.2.2.2.2.2.2.2.2.1 (Int32.toNatClampNeg v1)))), .inl eg))] : va_W)) (k_X0_withValue l hfl G a T8 F8 U S D R M N P hlk ((P.2.2.2.2.2.2.2.2.2.2.2.2.2 (Int32.toNatClampNeg v1)) (Int32.toNatClampNeg v10)) v7 v4 ((v5 - (1 : Int32)) - v2)  q_24.1 q_24.2 hq_24 H.size)) (cwV 4 hts (gV wm1001 wm1003 ws_p15 wm5 wm1004) rfl rfl rfl (by decide +kernel) ⟨Nat.le_of_ble_eq_true rfl, Nat.le_of_ble_eq_true rfl⟩) (pre_v (pre_w hK hP hD hS hE hFc) (va_recv hK hP (ci := 0) (q0 := 21) rfl rfl)) rfl rfl hl.1 rfl (lv_room (Nat.le_of_ble_eq_true rfl)) dX0_childOf_288 ⟨Nat.le_of_ble_eq_true rfl, Nat.le_of_ble_eq_true rfl⟩) hS (fun q _ h => hFc q h) hFc (fun r u t H locs ht hvm hw hB hz1 hk1 hS => ?_)
      rw [show r = q_24.1 from hw]
      have hP : va_P (DG G) clP3 ((wC G a q_24.2 F8 U S D R M N P) ++ ([(q1, .inr (7, [.ref q2, .int em])), (q2, .inl (cyA G 0, (tsz ((v5 - (1 : Int32)) + v4)), .inl ef)), (q3, .inl (cyA G 0, (Int32.toNatClampNeg (Int32.ofNat (P.2.2.2.2.2.2.2.2.2.2.2.2.1 (Int32.toNatClampNeg v1)))), .inl eg))] : va_W)) H := by rw [← ht]; exact hB.1
      have hD : va_D A ((wC G a q_24.2 F8 U S D R M N P) ++ ([(q1, .inr (7, [.ref q2, .int em])), (q2, .inl (cyA G 0, (tsz ((v5 - (1 : Int32)) + v4)), .inl ef)), (q3, .inl (cyA G 0, (Int32.toNatClampNeg (Int32.ofNat (P.2.2.2.2.2.2.2.2.2.2.2.2.1 (Int32.toNatClampNeg v1)))), .inl eg))] : va_W)) := hB.2.weaken (fun _ p _ h => hFc p.1 h)
      clear hB hFc hw hk1
      refine W.widen (k := 3) (n := 130) (Nat.le_of_ble_eq_true rfl) (Nat.le_of_ble_eq_true rfl) ?_
      obtain ⟨q_25, hq_25, hm⟩ := bind_some hm
      have hFc := free_all hD hS hA
      refine va_calli (va_runV (As := [.int q_22, .int q_24.1]) (rest := [.int v10, .ref q3]) ⟨hx, hb, hml, hown, hts⟩ (frame_i (List.Perm.refl _) (List.Perm.refl _) (wr := ([(q1, .inr (7, [.ref q2, .int em])), (q2, .inl (cyA G 0, (tsz ((v5 - (1 : Int32)) + v4)), .inl ef)), (q3, .inl (cyA G 0, (Int32.toNatClampNeg (Int32.ofNat (P.2.2.2.2.2.2.2.2.2.2.2.2.1 (Int32.toNatClampNeg v1)))), .inl eg))] : va_W)) (K_X9_keep l hfl G a q_24.2 F8 U S D R M N P q_22 q_24.1  q_25.1 q_25.2.1 q_25.2.2 hq_25 H.size)) (cwV 2 hts (gV wm1008 wm505 wm506 wm2 wm507) rfl rfl rfl (by decide +kernel) ⟨Nat.le_of_ble_eq_true rfl, Nat.le_of_ble_eq_true rfl⟩) (pre_v (pre_w hK hP hD hS hE hFc) (va_recv hK hP (ci := 8) (q0 := 1) rfl rfl)) rfl rfl hl.1 rfl (lv_room (Nat.le_of_ble_eq_true rfl)) dX0_childOf_291 ⟨Nat.le_of_ble_eq_true rfl, Nat.le_of_ble_eq_true rfl⟩) hS (fun q _ h => hFc q h) hFc (fun r u t H locs ht hvm hw hB hz1 hk1 hS => ?_)
      rw [show r = q_25.1 from hw]
      have hP : va_P (DG G) clP3 ((wC G a q_25.2.1 q_25.2.2 U S D R M N P) ++ ([(q1, .inr (7, [.ref q2, .int em])), (q2, .inl (cyA G 0, (tsz ((v5 - (1 : Int32)) + v4)), .inl ef)), (q3, .inl (cyA G 0, (Int32.toNatClampNeg (Int32.ofNat (P.2.2.2.2.2.2.2.2.2.2.2.2.1 (Int32.toNatClampNeg v1)))), .inl eg))] : va_W)) H := by rw [← ht]; exact hB.1
      have hD : va_D A ((wC G a q_25.2.1 q_25.2.2 U S D R M N P) ++ ([(q1, .inr (7, [.ref q2, .int em])), (q2, .inl (cyA G 0, (tsz ((v5 - (1 : Int32)) + v4)), .inl ef)), (q3, .inl (cyA G 0, (Int32.toNatClampNeg (Int32.ofNat (P.2.2.2.2.2.2.2.2.2.2.2.2.1 (Int32.toNatClampNeg v1)))), .inl eg))] : va_W)) := hB.2.weaken (fun _ p _ h => hFc p.1 h)
      clear hB hFc hw hk1
      refine W.widen (k := 3) (n := 130) (Nat.le_of_ble_eq_true rfl) (Nat.le_of_ble_eq_true rfl) ?_
      obtain ⟨b_26, hm⟩ := ite_some hm
      refine va_iast hx hb hK hP hD hS _ 0 (at_tail (j := 2) rfl) rfl (inb_vp b_26) dX0_childOf_294 (fun H locs hP hD hS => ?_)
      have hP : va_P (DG G) clP3 ((wC G a q_25.2.1 q_25.2.2 U S D R M N P) ++ ([(q1, .inr (7, [.ref q2, .int em])), (q2, .inl (cyA G 0, (tsz ((v5 - (1 : Int32)) + v4)), .inl ef)), (q3, .inl (cyA G 0, (Int32.toNatClampNeg (Int32.ofNat (P.2.2.2.2.2.2.2.2.2.2.2.2.1 (Int32.toNatClampNeg v1)))), .inl (upd eg (Int32.toNatClampNeg v10) q_25.1)))] : va_W)) H := by rw [set_tail] at hP; exact hP
      have hD : va_D A ((wC G a q_25.2.1 q_25.2.2 U S D R M N P) ++ ([(q1, .inr (7, [.ref q2, .int em])), (q2, .inl (cyA G 0, (tsz ((v5 - (1 : Int32)) + v4)), .inl ef)), (q3, .inl (cyA G 0, (Int32.toNatClampNeg (Int32.ofNat (P.2.2.2.2.2.2.2.2.2.2.2.2.1 (Int32.toNatClampNeg v1)))), .inl (upd eg (Int32.toNatClampNeg v10) q_25.1)))] : va_W)) := by rw [set_tail] at hD; exact hD
      refine lv_iinc (v := (v10 + 1)) (lv' := [(10, .int (v10 + 1)), (11, .int q_22), (0, .ref (a.1 21)), (1, .ref (a.2.2.1 (Int32.toNatClampNeg v1) 0)), (2, .int v2), (4, .int v4), (5, .int v5), (6, .ref q1), (7, .int v7), (8, .int v8), (9, .ref q3)]) hx hb dX0_childOf_295 hl (k := 10) rfl rfl (by decide) rfl (fun ls hl => ?_)
      refine lv_goto (tgt := 243) hx hb dX0_childOf_298 (by decide) ?_
      refine W.widen (k := 3) (n := 130) (Nat.le_of_ble_eq_true rfl) (Nat.le_of_ble_eq_true rfl) ?_
      exact ih q_25.2.1 q_25.2.2 em ef (upd eg (Int32.toNatClampNeg v10) q_25.1) v1 v2 v4 v5 v7 v8 (v10 + 1) hv1 _ _ hP hD hS _ (lv_sub hl [2, 3, 4, 5, 6, 7, 8, 9, 10, 0] rfl) hm
set_option maxHeartbeats 2000000 in
set_option maxRecDepth 100000 in
theorem kl_X0_childOf_149 {l : Launch} (hfl : l.stackTraces = false) {G : GC} {a : AS} {T : TS} {F : FS} {U : US} {S : SS} {D : DS} {R : RS} {M : MS} {N : NS} {P : PS} {q1 : Nat} {q2 : Nat} {A : Nat → Prop} {sz : Nat} {p : Program} {e : Env} {s : State} {m : MethodId} {args : Array Value} {below : List Frame} {meth : Method} {c : Code} (hx : p.tables.exec = Jvm.exec) (hb : c.code = cX0_childOf) (hr : meth.sig.returnType = (some (.object "TelescopeCourt$Goal"))) (hml : c.maxLocals = 12) (hown : s.vm.findClass RX0 = some m.cls) (hts : ∀ w ∈ W0, w.before args s = true) (hlocks : meth.locks = false) (hlk : lkA a D.1.toNatClampNeg D.2.1.toNatClampNeg) (hAe : (va_A (wC G a T F U S D R M N P) sz) = A) (hA : ∀ q : Nat, s.heap.size ≤ q → A q) (hE : EV G A s s.heap) (hK : va_K (DG G) clP3 (TY G) s) (r9 : Int32) (T9 : TS) (F9 : FS) (Z9 : CS) : ∀ (n : Nat), ∀ (T8 : TS) (F8 : FS) (em : Int32) (ef : IA) (v1 : Int32) (v2 : Int32) (v4 : Int32) (v5 : Int32) (v7 : Int32) (v8 : Int32) (hv1 : gix D v1 = true) (H : Heap) (locs : List Loc), va_P (DG G) clP3 ((wC G a T8 F8 U S D R M N P) ++ ([(q1, .inr (7, [.ref q2, .int em])), (q2, .inl (cyA G 0, (tsz ((v5 - (1 : Int32)) + v4)), .inl ef))] : va_W)) H → va_D A ((wC G a T8 F8 U S D R M N P) ++ ([(q1, .inr (7, [.ref q2, .int em])), (q2, .inl (cyA G 0, (tsz ((v5 - (1 : Int32)) + v4)), .inl ef))] : va_W)) → va_S A s.heap H locs → ∀ (ls : Array Slot), lv_has ls 12 [(0, .ref (a.1 21)), (1, .ref (a.2.2.1 (Int32.toNatClampNeg v1) 0)), (2, .int v2), (4, .int v4), (5, .int v5), (6, .ref q1), (7, .int v7), (8, .int v8)] → f_X0_childOf_L149 n T8 F8 S D P em ef v1 v2 v4 v5 v7 v8 = some (r9, T9, F9, Z9) → W p l e ({ frames := 406, cells := 4, slots := 138, locals := 10542 }) s m args below meth c H locs 2 66 (MQ below (va_Qq (S := Nat × Nat × Nat × Nat) (fun r u => r = if r9 < 0 then none else some u.1) (fun u t => PW G (va_A (wC G a T F U S D R M N P) sz) (wC G a T9 F9 U S D R M N P ++ (if r9 < 0 then [] else childcells G u Z9)) t) (va_A (wC G a T F U S D R M N P) sz)) args s 4 138 (va_A (wC G a T F U S D R M N P) sz)) (F0 m 149 ls []) := by
  intro n
  induction n with
  | zero =>
    intro T8 F8 em ef v1 v2 v4 v5 v7 v8 hv1 H locs hP hD hS ls hl hm
    rw [f_X0_childOf_L149] at hm
    cases hm
  | succ n ih =>
    intro T8 F8 em ef v1 v2 v4 v5 v7 v8 hv1 H locs hP hD hS ls hl hm
    rw [f_X0_childOf_L149] at hm
    refine lv_iload hx hb dX0_childOf_149 (lv_at hl 7 rfl) ?_
    refine lv_iload hx hb dX0_childOf_151 (lv_at hl 4 rfl) ?_
    refine lv_icmp_ge (tgt := 203) hx hb dX0_childOf_153 (by decide) (fun c_13 => ?_) (fun c_13 => ?_)
    · rw [if_pos c_13] at hm
      refine lv_aload_n hx hb dX0_childOf_203 rfl (lv_at hl 0 rfl) ?_
      refine lv_aload_n hx hb dX0_childOf_204 rfl (lv_at hl 1 rfl) ?_
      refine va_getN (D := DG G) (ci := 3) (v := .int (P.2.2.2.2.1 (Int32.toNatClampNeg v1))) (C := RX3) (T := TX3) (N := 8) hx hb hts inW_X3 hown hK hP _ (at_pre ((at_goalC (c := 0) (gix_lt hv1) (by decide)).trans rfl)) rfl 2 (by decide) (va_Nw.use rfl (hE.1 _ nw913)) (fun _ h9 => h9) rfl dX0_childOf_205 ?_
      refine lv_iload hx hb dX0_childOf_208 (lv_at hl 6 rfl) ?_
      refine lv_iload hx hb dX0_childOf_210 (lv_at hl 3 rfl) ?_
      refine lv_iload hx hb dX0_childOf_212 (lv_at hl 4 rfl) ?_
      refine lv_iconst (v := 1) hx hb dX0_childOf_214 (by decide) ?_
      refine lv_isub hx hb dX0_childOf_215 ?_
      refine lv_iload_n hx hb dX0_childOf_216 rfl (lv_at hl 2 rfl) ?_
      refine lv_isub hx hb dX0_childOf_217 ?_
      obtain ⟨q_14, hq_14, hm⟩ := bind_some hm
      have hFc := free_all hD hS hA
      refine va_calli (va_runV (As := [.int (P.2.2.2.2.1 (Int32.toNatClampNeg v1)), .int v7, .int v4, .int ((v5 - (1 : Int32)) - v2)]) (rest := []) ⟨hx, hb, hml, hown, hts⟩ (frame_i (List.Perm.refl _) (List.Perm.refl _) (wr := ([(q1, .inr (7, [.ref q2, .int em])), (q2, .inl (cyA G 0, (tsz ((v5 - (1 : Int32)) + v4)), .inl ef))] : va_W)) (k_X0_formWithValue l hfl G a T8 F8 U S D R M N P hlk (P.2.2.2.2.1 (Int32.toNatClampNeg v1)) v7 v4 ((v5 - (1 : Int32)) - v2)  q_14.1 q_14.2.1 q_14.2.2 hq_14 H.size)) (cwV 4 hts (gV wm997 wm999 ws_p14 wm5 wm1000) rfl rfl rfl (by decide +kernel) ⟨Nat.le_of_ble_eq_true rfl, Nat.le_of_ble_eq_true rfl⟩) (pre_v (pre_w hK hP hD hS hE hFc) (va_recv hK hP (ci := 0) (q0 := 21) rfl rfl)) rfl rfl hl.1 rfl (lv_room (Nat.le_of_ble_eq_true rfl)) dX0_childOf_218 ⟨Nat.le_of_ble_eq_true rfl, Nat.le_of_ble_eq_true rfl⟩) hS (fun q _ h => hFc q h) hFc (fun r u t H locs ht hvm hw hB hz1 hk1 hS => ?_)
      rw [show r = q_14.1 from hw]
      have hP : va_P (DG G) clP3 ((wC G a q_14.2.1 q_14.2.2 U S D R M N P) ++ ([(q1, .inr (7, [.ref q2, .int em])), (q2, .inl (cyA G 0, (tsz ((v5 - (1 : Int32)) + v4)), .inl ef))] : va_W)) H := by rw [← ht]; exact hB.1
      have hD : va_D A ((wC G a q_14.2.1 q_14.2.2 U S D R M N P) ++ ([(q1, .inr (7, [.ref q2, .int em])), (q2, .inl (cyA G 0, (tsz ((v5 - (1 : Int32)) + v4)), .inl ef))] : va_W)) := hB.2.weaken (fun _ p _ h => hFc p.1 h)
      clear hB hFc hw hk1
      refine W.widen (k := 2) (n := 66) (Nat.le_of_ble_eq_true rfl) (Nat.le_of_ble_eq_true rfl) ?_
      refine lv_istore (lv' := [(8, .int q_14.1), (0, .ref (a.1 21)), (1, .ref (a.2.2.1 (Int32.toNatClampNeg v1) 0)), (2, .int v2), (4, .int v4), (5, .int v5), (6, .ref q1), (7, .int v7)]) hx hb dX0_childOf_221 hl (by decide) rfl (fun ls hl => ?_)
      refine lv_iload hx hb dX0_childOf_223 (lv_at hl 0 rfl) ?_
      refine lv_iconst (v := (-1)) hx hb dX0_childOf_225 (by decide) ?_
      refine lv_icmp_ne (tgt := 231) hx hb dX0_childOf_226 (by decide) (fun c_15 => ?_) (fun c_15 => ?_)
      · rw [if_neg c_15] at hm
        refine lv_aload_n hx hb dX0_childOf_231 rfl (lv_at hl 2 rfl) ?_
        refine va_getN (D := DG G) (ci := 3) (v := .ref (a.2.2.1 (Int32.toNatClampNeg v1) 3)) (C := RX3) (T := TX3) (N := 8) hx hb hts inW_X3 hown hK hP _ (at_pre ((at_goalC (c := 0) (gix_lt hv1) (by decide)).trans rfl)) rfl 3 (by decide) (va_Nw.use rfl (hE.1 _ nw918)) (fun _ h9 => h9) rfl dX0_childOf_232 ?_
        refine va_alen (v := Int32.ofNat (P.2.2.2.2.2.2.2.2.2.2.2.2.1 (Int32.toNatClampNeg v1))) hx hb hK hP _ 0 (at_pre ((at_goalC (c := 3) (gix_lt hv1) (by decide)).trans rfl)) rfl rfl dX0_childOf_235 ?_
        obtain ⟨b_16, hm⟩ := ite_some hm
        refine my_newa (atype := .int) (N' := (Int32.toNatClampNeg (Int32.ofNat (P.2.2.2.2.2.2.2.2.2.2.2.2.1 (Int32.toNatClampNeg v1))))) (a0 := ((Int32.toNatClampNeg (Int32.ofNat (P.2.2.2.2.2.2.2.2.2.2.2.2.1 (Int32.toNatClampNeg v1)))), .inl (fun _ => 0))) (t1 := 0) hx hb (hts _ wm71) rfl rfl hK hP hD hS hA (fun _ => rfl) (inb_nn b_16) rfl (inb_by b_16) (Nat.le_of_ble_eq_true rfl) (inb_sl b_16 (Nat.le_of_ble_eq_true rfl)) dX0_childOf_236 (fun q3 H hP hD hS => ?_)
        have hP : va_P (DG G) clP3 ((wC G a q_14.2.1 q_14.2.2 U S D R M N P) ++ ([(q1, .inr (7, [.ref q2, .int em])), (q2, .inl (cyA G 0, (tsz ((v5 - (1 : Int32)) + v4)), .inl ef)), (q3, .inl (cyA G 0, (Int32.toNatClampNeg (Int32.ofNat (P.2.2.2.2.2.2.2.2.2.2.2.2.1 (Int32.toNatClampNeg v1)))), .inl (fun _ => 0)))] : va_W)) H := by rw [List.append_assoc] at hP; exact hP
        have hD : va_D A ((wC G a q_14.2.1 q_14.2.2 U S D R M N P) ++ ([(q1, .inr (7, [.ref q2, .int em])), (q2, .inl (cyA G 0, (tsz ((v5 - (1 : Int32)) + v4)), .inl ef)), (q3, .inl (cyA G 0, (Int32.toNatClampNeg (Int32.ofNat (P.2.2.2.2.2.2.2.2.2.2.2.2.1 (Int32.toNatClampNeg v1)))), .inl (fun _ => 0)))] : va_W)) := by rw [List.append_assoc] at hD; exact hD
        refine W.widen (k := 3) (n := 130) (Nat.le_refl _) (inb_wd b_16) ?_
        refine lv_astore (lv' := [(9, .ref q3), (8, .int q_14.1), (0, .ref (a.1 21)), (1, .ref (a.2.2.1 (Int32.toNatClampNeg v1) 0)), (2, .int v2), (4, .int v4), (5, .int v5), (6, .ref q1), (7, .int v7)]) hx hb dX0_childOf_238 hl (by decide) rfl (fun ls hl => ?_)
        refine lv_iconst (v := 0) hx hb dX0_childOf_240 (by decide) ?_
        refine lv_istore (lv' := [(10, .int 0), (9, .ref q3), (8, .int q_14.1), (0, .ref (a.1 21)), (1, .ref (a.2.2.1 (Int32.toNatClampNeg v1) 0)), (2, .int v2), (4, .int v4), (5, .int v5), (6, .ref q1), (7, .int v7)]) hx hb dX0_childOf_241 hl (by decide) rfl (fun ls hl => ?_)
        refine W.widen (k := 3) (n := 130) (Nat.le_of_ble_eq_true rfl) (Nat.le_of_ble_eq_true rfl) ?_
        exact kl_X0_childOf_243 hfl hx hb hr hml hown hts hlocks hlk hAe hA hE hK r9 T9 F9 Z9 100000 q_14.2.1 q_14.2.2 em ef (fun _ => 0) v1 v2 v4 v5 v7 q_14.1 0 hv1 _ _ hP hD hS _ (lv_sub hl [3, 4, 5, 6, 7, 8, 9, 2, 1, 0] rfl) hm
      · rw [if_pos c_15] at hm
        refine lv_null hx hb dX0_childOf_229 ?_
        obtain ⟨hP, hD⟩ := take_tail hP hD
        simp only [Option.some.injEq, Prod.mk.injEq] at hm
        obtain ⟨rfl, rfl, rfl, rfl⟩ := hm
        refine W.widen (k := 4) (n := 138) (Nat.le_of_ble_eq_true rfl) (Nat.le_of_ble_eq_true rfl) ?_
        have hif : (if ((-1 : Int32)) < 0 then ([] : va_W) else childcells G (0, 0, 0, 0) (0, 0, 0, 0, (fun _ => 0), 0, (fun _ => 0))) = [] := if_pos (by decide)
        exact W.aret (v := .null) hx hb hr (Or.inl ⟨_, rfl⟩) (Or.inl rfl) (fun t ht hW => ⟨⟨none, (0, 0, 0, 0), rfl, (if_pos (by decide)).symm, by rw [hif, ht]; exact hP, by rw [hAe, hif]; exact hD⟩, by rw [hAe]; exact hS.F ht⟩) (by rw [hAe]; exact hS.2.2) dX0_childOf_230 hlocks
    · rw [if_neg c_13] at hm
      refine lv_aload_n hx hb dX0_childOf_156 rfl (lv_at hl 0 rfl) ?_
      refine lv_aload_n hx hb dX0_childOf_157 rfl (lv_at hl 1 rfl) ?_
      refine va_getN (D := DG G) (ci := 3) (v := .ref (a.2.2.1 (Int32.toNatClampNeg v1) 1)) (C := RX3) (T := TX3) (N := 8) hx hb hts inW_X3 hown hK hP _ (at_pre ((at_goalC (c := 0) (gix_lt hv1) (by decide)).trans rfl)) rfl 1 (by decide) (va_Nw.use rfl (hE.1 _ nw909)) (fun _ h9 => h9) rfl dX0_childOf_158 ?_
      refine lv_iload hx hb dX0_childOf_161 (lv_at hl 7 rfl) ?_
      obtain ⟨q_17, hq_17, hm⟩ := bind_some hm
      have hFc := free_all hD hS hA
      refine va_calli (va_runV (As := [.int v8]) (rest := [.ref (a.1 21)]) ⟨hx, hb, hml, hown, hts⟩ (frame_i (List.Perm.refl _) (List.Perm.refl _) (wr := ([(q1, .inr (7, [.ref q2, .int em])), (q2, .inl (cyA G 0, (tsz ((v5 - (1 : Int32)) + v4)), .inl ef))] : va_W)) (K_X8_typeAt_g l hfl G a T8 F8 U S D R M N P v1 v8 hv1 q_17 hq_17 H.size)) (cwV 1 hts (gV wm969 wm445 wm446 wm7 wm447) rfl rfl rfl (by decide +kernel) ⟨Nat.le_of_ble_eq_true rfl, Nat.le_of_ble_eq_true rfl⟩) (pre_v (pre_w hK hP hD hS hE hFc) (va_recv hK hP (ci := 7) (q0 := _) rfl (at_pre ((at_goalC (c := 1) (gix_lt hv1) (by decide)).trans rfl)))) rfl rfl hl.1 rfl (lv_room (Nat.le_of_ble_eq_true rfl)) dX0_childOf_163 ⟨Nat.le_of_ble_eq_true rfl, Nat.le_of_ble_eq_true rfl⟩) hS (fun q _ h => hFc q h) hFc (fun r u t H locs ht hvm hw hB hz1 hk1 hS => ?_)
      rw [show r = q_17 from hw]
      have hP : va_P (DG G) clP3 ((wC G a T8 F8 U S D R M N P) ++ ([(q1, .inr (7, [.ref q2, .int em])), (q2, .inl (cyA G 0, (tsz ((v5 - (1 : Int32)) + v4)), .inl ef))] : va_W)) H := by rw [← ht]; exact hB.1
      have hD : va_D A ((wC G a T8 F8 U S D R M N P) ++ ([(q1, .inr (7, [.ref q2, .int em])), (q2, .inl (cyA G 0, (tsz ((v5 - (1 : Int32)) + v4)), .inl ef))] : va_W)) := hB.2.weaken (fun _ p _ h => hFc p.1 h)
      clear hB hFc hw hk1
      refine W.widen (k := 2) (n := 66) (Nat.le_of_ble_eq_true rfl) (Nat.le_of_ble_eq_true rfl) ?_
      refine lv_iload hx hb dX0_childOf_166 (lv_at hl 6 rfl) ?_
      refine lv_iload hx hb dX0_childOf_168 (lv_at hl 3 rfl) ?_
      refine lv_iload hx hb dX0_childOf_170 (lv_at hl 7 rfl) ?_
      refine lv_iconst (v := 1) hx hb dX0_childOf_172 (by decide) ?_
      refine lv_isub hx hb dX0_childOf_173 ?_
      refine lv_iload_n hx hb dX0_childOf_174 rfl (lv_at hl 2 rfl) ?_
      refine lv_isub hx hb dX0_childOf_175 ?_
      obtain ⟨q_18, hq_18, hm⟩ := bind_some hm
      have hFc := free_all hD hS hA
      refine va_calli (va_runV (As := [.int q_17, .int v7, .int v4, .int ((v8 - (1 : Int32)) - v2)]) (rest := []) ⟨hx, hb, hml, hown, hts⟩ (frame_i (List.Perm.refl _) (List.Perm.refl _) (wr := ([(q1, .inr (7, [.ref q2, .int em])), (q2, .inl (cyA G 0, (tsz ((v5 - (1 : Int32)) + v4)), .inl ef))] : va_W)) (k_X0_formWithValue l hfl G a T8 F8 U S D R M N P hlk q_17 v7 v4 ((v8 - (1 : Int32)) - v2)  q_18.1 q_18.2.1 q_18.2.2 hq_18 H.size)) (cwV 4 hts (gV wm997 wm999 ws_p14 wm5 wm1000) rfl rfl rfl (by decide +kernel) ⟨Nat.le_of_ble_eq_true rfl, Nat.le_of_ble_eq_true rfl⟩) (pre_v (pre_w hK hP hD hS hE hFc) (va_recv hK hP (ci := 0) (q0 := 21) rfl rfl)) rfl rfl hl.1 rfl (lv_room (Nat.le_of_ble_eq_true rfl)) dX0_childOf_176 ⟨Nat.le_of_ble_eq_true rfl, Nat.le_of_ble_eq_true rfl⟩) hS (fun q _ h => hFc q h) hFc (fun r u t H locs ht hvm hw hB hz1 hk1 hS => ?_)
      rw [show r = q_18.1 from hw]
      have hP : va_P (DG G) clP3 ((wC G a q_18.2.1 q_18.2.2 U S D R M N P) ++ ([(q1, .inr (7, [.ref q2, .int em])), (q2, .inl (cyA G 0, (tsz ((v5 - (1 : Int32)) + v4)), .inl ef))] : va_W)) H := by rw [← ht]; exact hB.1
      have hD : va_D A ((wC G a q_18.2.1 q_18.2.2 U S D R M N P) ++ ([(q1, .inr (7, [.ref q2, .int em])), (q2, .inl (cyA G 0, (tsz ((v5 - (1 : Int32)) + v4)), .inl ef))] : va_W)) := hB.2.weaken (fun _ p _ h => hFc p.1 h)
      clear hB hFc hw hk1
      refine W.widen (k := 2) (n := 66) (Nat.le_of_ble_eq_true rfl) (Nat.le_of_ble_eq_true rfl) ?_
      refine lv_istore (lv' := [(9, .int q_18.1), (0, .ref (a.1 21)), (1, .ref (a.2.2.1 (Int32.toNatClampNeg v1) 0)), (2, .int v2), (4, .int v4), (5, .int v5), (6, .ref q1), (7, .int v7), (8, .int v8)]) hx hb dX0_childOf_179 hl (by decide) rfl (fun ls hl => ?_)
      refine lv_iload hx hb dX0_childOf_181 (lv_at hl 0 rfl) ?_
      refine lv_iconst (v := (-1)) hx hb dX0_childOf_183 (by decide) ?_
      refine lv_icmp_ne (tgt := 189) hx hb dX0_childOf_184 (by decide) (fun c_19 => ?_) (fun c_19 => ?_)
      · rw [if_neg c_19] at hm
        refine lv_aload hx hb dX0_childOf_189 (lv_at hl 6 rfl) ?_
        refine lv_iload hx hb dX0_childOf_191 (lv_at hl 0 rfl) ?_
        have hFc := free_all hD hS hA
        obtain ⟨q_20, hq_20, hm⟩ := bind_some hm
        refine va_calli (va_runV (As := [.int q_18.1]) (rest := []) ⟨hx, hb, hml, hown, hts⟩ (frame_i (wr := (wC G a q_18.2.1 q_18.2.2 U S D R M N P) ++ ([] : va_W)) (X1 := (wC G a q_18.2.1 q_18.2.2 U S D R M N P) ++ ([(q1, .inr (7, [.ref q2, .int q_20.2.1])), (q2, .inl (cyA G 0, (tsz ((v5 - (1 : Int32)) + v4)), .inl q_20.2.2))] ++ ([] : va_W))) (List.perm_append_comm_assoc _ [_, _] _) (List.perm_append_comm_assoc _ [_, _] _) (k_X8_push l hfl G (tsz ((v5 - (1 : Int32)) + v4)) q1 q_18.1 q2 em ef q_20.1 q_20.2.1 q_20.2.2 hq_20 H.size)) (cwV 1 hts (gV wm877 wm424 wm425 wm7 wm426) rfl rfl rfl (by decide +kernel) ⟨Nat.le_of_ble_eq_true rfl, Nat.le_of_ble_eq_true rfl⟩) (pre_v (pre_w hK hP hD hS hE hFc) (va_recv hK hP (ci := 7) (q0 := _) rfl (at_tail (j := 0) rfl))) rfl rfl hl.1 rfl (lv_room (Nat.le_of_ble_eq_true rfl)) dX0_childOf_193 ⟨Nat.le_of_ble_eq_true rfl, Nat.le_of_ble_eq_true rfl⟩) hS (fun q _ h => hFc q h) hFc (fun r u t H locs ht hvm hw hB hz1 hk1 hS => ?_)
        rw [show r = q_20.1 from hw]
        have hP : va_P (DG G) clP3 ((wC G a q_18.2.1 q_18.2.2 U S D R M N P) ++ ([(q1, .inr (7, [.ref q2, .int q_20.2.1])), (q2, .inl (cyA G 0, (tsz ((v5 - (1 : Int32)) + v4)), .inl q_20.2.2))] : va_W)) H := by rw [← ht]; exact hB.1
        have hD : va_D A ((wC G a q_18.2.1 q_18.2.2 U S D R M N P) ++ ([(q1, .inr (7, [.ref q2, .int q_20.2.1])), (q2, .inl (cyA G 0, (tsz ((v5 - (1 : Int32)) + v4)), .inl q_20.2.2))] : va_W)) := hB.2.weaken (fun _ p _ h => hFc p.1 h)
        clear hB hFc hw hk1
        refine W.widen (k := 2) (n := 66) (Nat.le_of_ble_eq_true rfl) (Nat.le_of_ble_eq_true rfl) ?_
        refine lv_pop hx hb dX0_childOf_196 rfl ?_
        refine lv_iinc (v := (v8 + 1)) (lv' := [(8, .int (v8 + 1)), (9, .int q_18.1), (0, .ref (a.1 21)), (1, .ref (a.2.2.1 (Int32.toNatClampNeg v1) 0)), (2, .int v2), (4, .int v4), (5, .int v5), (6, .ref q1), (7, .int v7)]) hx hb dX0_childOf_197 hl (k := 8) rfl rfl (by decide) rfl (fun ls hl => ?_)
        refine lv_goto (tgt := 149) hx hb dX0_childOf_200 (by decide) ?_
        refine W.widen (k := 2) (n := 66) (Nat.le_of_ble_eq_true rfl) (Nat.le_of_ble_eq_true rfl) ?_
        exact ih q_18.2.1 q_18.2.2 q_20.2.1 q_20.2.2 v1 v2 v4 v5 v7 (v8 + 1) hv1 _ _ hP hD hS _ (lv_sub hl [2, 3, 4, 5, 6, 7, 8, 0] rfl) hm
      · rw [if_pos c_19] at hm
        refine lv_null hx hb dX0_childOf_187 ?_
        obtain ⟨hP, hD⟩ := take_tail hP hD
        simp only [Option.some.injEq, Prod.mk.injEq] at hm
        obtain ⟨rfl, rfl, rfl, rfl⟩ := hm
        refine W.widen (k := 4) (n := 138) (Nat.le_of_ble_eq_true rfl) (Nat.le_of_ble_eq_true rfl) ?_
        have hif : (if ((-1 : Int32)) < 0 then ([] : va_W) else childcells G (0, 0, 0, 0) (0, 0, 0, 0, (fun _ => 0), 0, (fun _ => 0))) = [] := if_pos (by decide)
        exact W.aret (v := .null) hx hb hr (Or.inl ⟨_, rfl⟩) (Or.inl rfl) (fun t ht hW => ⟨⟨none, (0, 0, 0, 0), rfl, (if_pos (by decide)).symm, by rw [hif, ht]; exact hP, by rw [hAe, hif]; exact hD⟩, by rw [hAe]; exact hS.F ht⟩) (by rw [hAe]; exact hS.2.2) dX0_childOf_188 hlocks
set_option maxHeartbeats 2000000 in
set_option maxRecDepth 100000 in
theorem kl_X0_childOf_79 {l : Launch} (hfl : l.stackTraces = false) {G : GC} {a : AS} {T : TS} {F : FS} {U : US} {S : SS} {D : DS} {R : RS} {M : MS} {N : NS} {P : PS} {q1 : Nat} {q2 : Nat} {A : Nat → Prop} {sz : Nat} {p : Program} {e : Env} {s : State} {m : MethodId} {args : Array Value} {below : List Frame} {meth : Method} {c : Code} (hx : p.tables.exec = Jvm.exec) (hb : c.code = cX0_childOf) (hr : meth.sig.returnType = (some (.object "TelescopeCourt$Goal"))) (hml : c.maxLocals = 12) (hown : s.vm.findClass RX0 = some m.cls) (hts : ∀ w ∈ W0, w.before args s = true) (hlocks : meth.locks = false) (hlk : lkA a D.1.toNatClampNeg D.2.1.toNatClampNeg) (hAe : (va_A (wC G a T F U S D R M N P) sz) = A) (hA : ∀ q : Nat, s.heap.size ≤ q → A q) (hE : EV G A s s.heap) (hK : va_K (DG G) clP3 (TY G) s) (r9 : Int32) (T9 : TS) (F9 : FS) (Z9 : CS) : ∀ (n : Nat), ∀ (T8 : TS) (F8 : FS) (em : Int32) (ef : IA) (v1 : Int32) (v2 : Int32) (v3 : Int32) (v4 : Int32) (v5 : Int32) (v7 : Int32) (v8 : Int32) (hv1 : gix D v1 = true) (H : Heap) (locs : List Loc), va_P (DG G) clP3 ((wC G a T8 F8 U S D R M N P) ++ ([(q1, .inr (7, [.ref q2, .int em])), (q2, .inl (cyA G 0, (tsz ((v5 - (1 : Int32)) + v4)), .inl ef))] : va_W)) H → va_D A ((wC G a T8 F8 U S D R M N P) ++ ([(q1, .inr (7, [.ref q2, .int em])), (q2, .inl (cyA G 0, (tsz ((v5 - (1 : Int32)) + v4)), .inl ef))] : va_W)) → va_S A s.heap H locs → ∀ (ls : Array Slot), lv_has ls 12 [(0, .ref (a.1 21)), (1, .ref (a.2.2.1 (Int32.toNatClampNeg v1) 0)), (2, .int v2), (3, .int v3), (4, .int v4), (5, .int v5), (6, .ref q1), (7, .int v7), (8, .int v8)] → f_X0_childOf_L79 n T8 F8 S D P em ef v1 v2 v3 v4 v5 v7 v8 = some (r9, T9, F9, Z9) → W p l e ({ frames := 406, cells := 4, slots := 138, locals := 10542 }) s m args below meth c H locs 2 66 (MQ below (va_Qq (S := Nat × Nat × Nat × Nat) (fun r u => r = if r9 < 0 then none else some u.1) (fun u t => PW G (va_A (wC G a T F U S D R M N P) sz) (wC G a T9 F9 U S D R M N P ++ (if r9 < 0 then [] else childcells G u Z9)) t) (va_A (wC G a T F U S D R M N P) sz)) args s 4 138 (va_A (wC G a T F U S D R M N P) sz)) (F0 m 79 ls []) := by
  intro n
  induction n with
  | zero =>
    intro T8 F8 em ef v1 v2 v3 v4 v5 v7 v8 hv1 H locs hP hD hS ls hl hm
    rw [f_X0_childOf_L79] at hm
    cases hm
  | succ n ih =>
    intro T8 F8 em ef v1 v2 v3 v4 v5 v7 v8 hv1 H locs hP hD hS ls hl hm
    rw [f_X0_childOf_L79] at hm
    refine lv_iload hx hb dX0_childOf_79 (lv_at hl 8 rfl) ?_
    refine lv_iload hx hb dX0_childOf_81 (lv_at hl 4 rfl) ?_
    refine lv_icmp_ge (tgt := 144) hx hb dX0_childOf_83 (by decide) (fun c_7 => ?_) (fun c_7 => ?_)
    · rw [if_pos c_7] at hm
      refine lv_iload_n hx hb dX0_childOf_144 rfl (lv_at hl 2 rfl) ?_
      refine lv_iconst (v := 1) hx hb dX0_childOf_145 (by decide) ?_
      refine lv_iadd hx hb dX0_childOf_146 ?_
      refine lv_istore (lv' := [(8, .int (v2 + (1 : Int32))), (0, .ref (a.1 21)), (1, .ref (a.2.2.1 (Int32.toNatClampNeg v1) 0)), (2, .int v2), (3, .int v3), (4, .int v4), (5, .int v5), (6, .ref q1), (7, .int v7)]) hx hb dX0_childOf_147 hl (by decide) rfl (fun ls hl => ?_)
      refine W.widen (k := 2) (n := 66) (Nat.le_of_ble_eq_true rfl) (Nat.le_of_ble_eq_true rfl) ?_
      exact kl_X0_childOf_149 hfl hx hb hr hml hown hts hlocks hlk hAe hA hE hK r9 T9 F9 Z9 100000 T8 F8 em ef v1 v2 v4 v5 v7 (v2 + (1 : Int32)) hv1 _ _ hP hD hS _ (lv_sub hl [1, 2, 3, 5, 6, 7, 8, 0] rfl) hm
    · rw [if_neg c_7] at hm
      refine lv_aload hx hb dX0_childOf_86 (lv_at hl 6 rfl) ?_
      refine lv_aload_n hx hb dX0_childOf_88 rfl (lv_at hl 0 rfl) ?_
      refine va_get (D := DG G) (ci := 0) (v := .ref (a.1 1)) (C := RX0) (T := TX0) (N := 8) hx hb hts inW_X0 hown hK hP 21 rfl rfl 0 (by decide) (hts _ wm139) (fun _ h9 => h9) rfl dX0_childOf_89 ?_
      refine lv_iconst (v := 2) hx hb dX0_childOf_92 (by decide) ?_
      refine lv_aload_n hx hb dX0_childOf_93 rfl (lv_at hl 0 rfl) ?_
      refine va_get (D := DG G) (ci := 0) (v := .ref (a.1 13)) (C := RX0) (T := TX0) (N := 8) hx hb hts inW_X0 hown hK hP 21 rfl rfl 2 (by decide) (hts _ wm141) (fun _ h9 => h9) rfl dX0_childOf_94 ?_
      refine lv_iload_n hx hb dX0_childOf_97 rfl (lv_at hl 3 rfl) ?_
      refine lv_iload hx hb dX0_childOf_98 (lv_at hl 8 rfl) ?_
      obtain ⟨q_8, hq_8, hm⟩ := bind_some hm
      have hFc := free_all hD hS hA
      refine va_calli (va_runV (As := [.int v3, .int v8]) (rest := [.int 2, .ref (a.1 1), .ref q1]) ⟨hx, hb, hml, hown, hts⟩ (frame_i (List.Perm.refl _) (List.Perm.refl _) (wr := ([(q1, .inr (7, [.ref q2, .int em])), (q2, .inl (cyA G 0, (tsz ((v5 - (1 : Int32)) + v4)), .inl ef))] : va_W)) (K_X7_partOf l hfl G a T8 F8 U S D R M N P v3 v8  q_8 hq_8 H.size)) (cwV 2 hts (gV wm992 wm993 wm994 wm4 wm995) rfl rfl rfl (by decide +kernel) ⟨Nat.le_of_ble_eq_true rfl, Nat.le_of_ble_eq_true rfl⟩) (pre_v (pre_w hK hP hD hS hE hFc) (va_recv hK hP (ci := 6) (q0 := 13) rfl rfl)) rfl rfl hl.1 rfl (lv_room (Nat.le_of_ble_eq_true rfl)) dX0_childOf_100 ⟨Nat.le_of_ble_eq_true rfl, Nat.le_of_ble_eq_true rfl⟩) hS (fun q _ h => hFc q h) hFc (fun r u t H locs ht hvm hw hB hz1 hk1 hS => ?_)
      rw [show r = q_8 from hw]
      have hP : va_P (DG G) clP3 ((wC G a T8 F8 U S D R M N P) ++ ([(q1, .inr (7, [.ref q2, .int em])), (q2, .inl (cyA G 0, (tsz ((v5 - (1 : Int32)) + v4)), .inl ef))] : va_W)) H := by rw [← ht]; exact hB.1
      have hD : va_D A ((wC G a T8 F8 U S D R M N P) ++ ([(q1, .inr (7, [.ref q2, .int em])), (q2, .inl (cyA G 0, (tsz ((v5 - (1 : Int32)) + v4)), .inl ef))] : va_W)) := hB.2.weaken (fun _ p _ h => hFc p.1 h)
      clear hB hFc hw hk1
      refine W.widen (k := 2) (n := 66) (Nat.le_of_ble_eq_true rfl) (Nat.le_of_ble_eq_true rfl) ?_
      obtain ⟨q_9, hq_9, hm⟩ := bind_some hm
      have hFc := free_all hD hS hA
      refine va_calli (va_runV (As := [.int 2, .int q_8]) (rest := [.ref q1]) ⟨hx, hb, hml, hown, hts⟩ (frame_i (List.Perm.refl _) (List.Perm.refl _) (wr := ([(q1, .inr (7, [.ref q2, .int em])), (q2, .inl (cyA G 0, (tsz ((v5 - (1 : Int32)) + v4)), .inl ef))] : va_W)) (K_X9_leaf l hfl G a T8 F8 U S D R M N P 2 q_8  q_9.1 q_9.2 hq_9 H.size)) (cwV 2 hts (gV wm878 wm439 wm440 wm2 wm441) rfl rfl rfl (by decide +kernel) ⟨Nat.le_of_ble_eq_true rfl, Nat.le_of_ble_eq_true rfl⟩) (pre_v (pre_w hK hP hD hS hE hFc) (va_recv hK hP (ci := 8) (q0 := 1) rfl rfl)) rfl rfl hl.1 rfl (lv_room (Nat.le_of_ble_eq_true rfl)) dX0_childOf_103 ⟨Nat.le_of_ble_eq_true rfl, Nat.le_of_ble_eq_true rfl⟩) hS (fun q _ h => hFc q h) hFc (fun r u t H locs ht hvm hw hB hz1 hk1 hS => ?_)
      rw [show r = q_9.1 from hw]
      have hP : va_P (DG G) clP3 ((wC G a q_9.2 F8 U S D R M N P) ++ ([(q1, .inr (7, [.ref q2, .int em])), (q2, .inl (cyA G 0, (tsz ((v5 - (1 : Int32)) + v4)), .inl ef))] : va_W)) H := by rw [← ht]; exact hB.1
      have hD : va_D A ((wC G a q_9.2 F8 U S D R M N P) ++ ([(q1, .inr (7, [.ref q2, .int em])), (q2, .inl (cyA G 0, (tsz ((v5 - (1 : Int32)) + v4)), .inl ef))] : va_W)) := hB.2.weaken (fun _ p _ h => hFc p.1 h)
      clear hB hFc hw hk1
      refine W.widen (k := 2) (n := 66) (Nat.le_of_ble_eq_true rfl) (Nat.le_of_ble_eq_true rfl) ?_
      have hFc := free_all hD hS hA
      obtain ⟨q_10, hq_10, hm⟩ := bind_some hm
      refine va_calli (va_runV (As := [.int q_9.1]) (rest := []) ⟨hx, hb, hml, hown, hts⟩ (frame_i (wr := (wC G a q_9.2 F8 U S D R M N P) ++ ([] : va_W)) (X1 := (wC G a q_9.2 F8 U S D R M N P) ++ ([(q1, .inr (7, [.ref q2, .int q_10.2.1])), (q2, .inl (cyA G 0, (tsz ((v5 - (1 : Int32)) + v4)), .inl q_10.2.2))] ++ ([] : va_W))) (List.perm_append_comm_assoc _ [_, _] _) (List.perm_append_comm_assoc _ [_, _] _) (k_X8_push l hfl G (tsz ((v5 - (1 : Int32)) + v4)) q1 q_9.1 q2 em ef q_10.1 q_10.2.1 q_10.2.2 hq_10 H.size)) (cwV 1 hts (gV wm877 wm424 wm425 wm7 wm426) rfl rfl rfl (by decide +kernel) ⟨Nat.le_of_ble_eq_true rfl, Nat.le_of_ble_eq_true rfl⟩) (pre_v (pre_w hK hP hD hS hE hFc) (va_recv hK hP (ci := 7) (q0 := _) rfl (at_tail (j := 0) rfl))) rfl rfl hl.1 rfl (lv_room (Nat.le_of_ble_eq_true rfl)) dX0_childOf_106 ⟨Nat.le_of_ble_eq_true rfl, Nat.le_of_ble_eq_true rfl⟩) hS (fun q _ h => hFc q h) hFc (fun r u t H locs ht hvm hw hB hz1 hk1 hS => ?_)
      rw [show r = q_10.1 from hw]
      have hP : va_P (DG G) clP3 ((wC G a q_9.2 F8 U S D R M N P) ++ ([(q1, .inr (7, [.ref q2, .int q_10.2.1])), (q2, .inl (cyA G 0, (tsz ((v5 - (1 : Int32)) + v4)), .inl q_10.2.2))] : va_W)) H := by rw [← ht]; exact hB.1
      have hD : va_D A ((wC G a q_9.2 F8 U S D R M N P) ++ ([(q1, .inr (7, [.ref q2, .int q_10.2.1])), (q2, .inl (cyA G 0, (tsz ((v5 - (1 : Int32)) + v4)), .inl q_10.2.2))] : va_W)) := hB.2.weaken (fun _ p _ h => hFc p.1 h)
      clear hB hFc hw hk1
      refine W.widen (k := 2) (n := 66) (Nat.le_of_ble_eq_true rfl) (Nat.le_of_ble_eq_true rfl) ?_
      refine lv_pop hx hb dX0_childOf_109 rfl ?_
      refine lv_aload_n hx hb dX0_childOf_110 rfl (lv_at hl 0 rfl) ?_
      refine va_get (D := DG G) (ci := 0) (v := .ref (a.1 1)) (C := RX0) (T := TX0) (N := 8) hx hb hts inW_X0 hown hK hP 21 rfl rfl 0 (by decide) (hts _ wm139) (fun _ h9 => h9) rfl dX0_childOf_111 ?_
      refine lv_bipush (v := 7) hx hb dX0_childOf_114 (by decide) ?_
      refine lv_iload hx hb dX0_childOf_116 (lv_at hl 7 rfl) ?_
      refine lv_aload_n hx hb dX0_childOf_118 rfl (lv_at hl 0 rfl) ?_
      refine va_get (D := DG G) (ci := 0) (v := .ref (a.1 1)) (C := RX0) (T := TX0) (N := 8) hx hb hts inW_X0 hown hK hP 21 rfl rfl 0 (by decide) (hts _ wm139) (fun _ h9 => h9) rfl dX0_childOf_119 ?_
      refine lv_iconst (v := 1) hx hb dX0_childOf_122 (by decide) ?_
      refine lv_iload hx hb dX0_childOf_123 (lv_at hl 4 rfl) ?_
      refine lv_iconst (v := 1) hx hb dX0_childOf_125 (by decide) ?_
      refine lv_isub hx hb dX0_childOf_126 ?_
      refine lv_iload hx hb dX0_childOf_127 (lv_at hl 8 rfl) ?_
      refine lv_isub hx hb dX0_childOf_129 ?_
      obtain ⟨q_11, hq_11, hm⟩ := bind_some hm
      have hFc := free_all hD hS hA
      refine va_calli (va_runV (As := [.int 1, .int ((v4 - (1 : Int32)) - v8)]) (rest := [.int v7, .int 7, .ref (a.1 1)]) ⟨hx, hb, hml, hown, hts⟩ (frame_i (List.Perm.refl _) (List.Perm.refl _) (wr := ([(q1, .inr (7, [.ref q2, .int q_10.2.1])), (q2, .inl (cyA G 0, (tsz ((v5 - (1 : Int32)) + v4)), .inl q_10.2.2))] : va_W)) (K_X9_leaf l hfl G a q_9.2 F8 U S D R M N P 1 ((v4 - (1 : Int32)) - v8)  q_11.1 q_11.2 hq_11 H.size)) (cwV 2 hts (gV wm878 wm439 wm440 wm2 wm441) rfl rfl rfl (by decide +kernel) ⟨Nat.le_of_ble_eq_true rfl, Nat.le_of_ble_eq_true rfl⟩) (pre_v (pre_w hK hP hD hS hE hFc) (va_recv hK hP (ci := 8) (q0 := 1) rfl rfl)) rfl rfl hl.1 rfl (lv_room (Nat.le_of_ble_eq_true rfl)) dX0_childOf_130 ⟨Nat.le_of_ble_eq_true rfl, Nat.le_of_ble_eq_true rfl⟩) hS (fun q _ h => hFc q h) hFc (fun r u t H locs ht hvm hw hB hz1 hk1 hS => ?_)
      rw [show r = q_11.1 from hw]
      have hP : va_P (DG G) clP3 ((wC G a q_11.2 F8 U S D R M N P) ++ ([(q1, .inr (7, [.ref q2, .int q_10.2.1])), (q2, .inl (cyA G 0, (tsz ((v5 - (1 : Int32)) + v4)), .inl q_10.2.2))] : va_W)) H := by rw [← ht]; exact hB.1
      have hD : va_D A ((wC G a q_11.2 F8 U S D R M N P) ++ ([(q1, .inr (7, [.ref q2, .int q_10.2.1])), (q2, .inl (cyA G 0, (tsz ((v5 - (1 : Int32)) + v4)), .inl q_10.2.2))] : va_W)) := hB.2.weaken (fun _ p _ h => hFc p.1 h)
      clear hB hFc hw hk1
      refine W.widen (k := 2) (n := 66) (Nat.le_of_ble_eq_true rfl) (Nat.le_of_ble_eq_true rfl) ?_
      obtain ⟨q_12, hq_12, hm⟩ := bind_some hm
      have hFc := free_all hD hS hA
      refine va_calli (va_runV (As := [.int 7, .int v7, .int q_11.1]) (rest := []) ⟨hx, hb, hml, hown, hts⟩ (frame_i (List.Perm.refl _) (List.Perm.refl _) (wr := ([(q1, .inr (7, [.ref q2, .int q_10.2.1])), (q2, .inl (cyA G 0, (tsz ((v5 - (1 : Int32)) + v4)), .inl q_10.2.2))] : va_W)) (K_X9_pair l hfl G a q_11.2 F8 U S D R M N P 7 v7 q_11.1  q_12.1 q_12.2 hq_12 H.size)) (cwV 3 hts (gV wm996 wm464 wm465 wm2 wm466) rfl rfl rfl (by decide +kernel) ⟨Nat.le_of_ble_eq_true rfl, Nat.le_of_ble_eq_true rfl⟩) (pre_v (pre_w hK hP hD hS hE hFc) (va_recv hK hP (ci := 8) (q0 := 1) rfl rfl)) rfl rfl hl.1 rfl (lv_room (Nat.le_of_ble_eq_true rfl)) dX0_childOf_133 ⟨Nat.le_of_ble_eq_true rfl, Nat.le_of_ble_eq_true rfl⟩) hS (fun q _ h => hFc q h) hFc (fun r u t H locs ht hvm hw hB hz1 hk1 hS => ?_)
      rw [show r = q_12.1 from hw]
      have hP : va_P (DG G) clP3 ((wC G a q_12.2 F8 U S D R M N P) ++ ([(q1, .inr (7, [.ref q2, .int q_10.2.1])), (q2, .inl (cyA G 0, (tsz ((v5 - (1 : Int32)) + v4)), .inl q_10.2.2))] : va_W)) H := by rw [← ht]; exact hB.1
      have hD : va_D A ((wC G a q_12.2 F8 U S D R M N P) ++ ([(q1, .inr (7, [.ref q2, .int q_10.2.1])), (q2, .inl (cyA G 0, (tsz ((v5 - (1 : Int32)) + v4)), .inl q_10.2.2))] : va_W)) := hB.2.weaken (fun _ p _ h => hFc p.1 h)
      clear hB hFc hw hk1
      refine W.widen (k := 2) (n := 66) (Nat.le_of_ble_eq_true rfl) (Nat.le_of_ble_eq_true rfl) ?_
      refine lv_istore (lv' := [(7, .int q_12.1), (0, .ref (a.1 21)), (1, .ref (a.2.2.1 (Int32.toNatClampNeg v1) 0)), (2, .int v2), (3, .int v3), (4, .int v4), (5, .int v5), (6, .ref q1), (8, .int v8)]) hx hb dX0_childOf_136 hl (by decide) rfl (fun ls hl => ?_)
      refine lv_iinc (v := (v8 + 1)) (lv' := [(8, .int (v8 + 1)), (7, .int q_12.1), (0, .ref (a.1 21)), (1, .ref (a.2.2.1 (Int32.toNatClampNeg v1) 0)), (2, .int v2), (3, .int v3), (4, .int v4), (5, .int v5), (6, .ref q1)]) hx hb dX0_childOf_138 hl (k := 8) rfl rfl (by decide) rfl (fun ls hl => ?_)
      refine lv_goto (tgt := 79) hx hb dX0_childOf_141 (by decide) ?_
      refine W.widen (k := 2) (n := 66) (Nat.le_of_ble_eq_true rfl) (Nat.le_of_ble_eq_true rfl) ?_
      exact ih q_12.2 F8 q_10.2.1 q_10.2.2 v1 v2 v3 v4 v5 q_12.1 (v8 + 1) hv1 _ _ hP hD hS _ (lv_sub hl [2, 3, 4, 5, 6, 7, 8, 1, 0] rfl) hm
set_option maxHeartbeats 2000000 in
set_option maxRecDepth 100000 in
theorem kl_X0_childOf_38 {l : Launch} (hfl : l.stackTraces = false) {G : GC} {a : AS} {T : TS} {F : FS} {U : US} {S : SS} {D : DS} {R : RS} {M : MS} {N : NS} {P : PS} {q1 : Nat} {q2 : Nat} {A : Nat → Prop} {sz : Nat} {p : Program} {e : Env} {s : State} {m : MethodId} {args : Array Value} {below : List Frame} {meth : Method} {c : Code} (hx : p.tables.exec = Jvm.exec) (hb : c.code = cX0_childOf) (hr : meth.sig.returnType = (some (.object "TelescopeCourt$Goal"))) (hml : c.maxLocals = 12) (hown : s.vm.findClass RX0 = some m.cls) (hts : ∀ w ∈ W0, w.before args s = true) (hlocks : meth.locks = false) (hlk : lkA a D.1.toNatClampNeg D.2.1.toNatClampNeg) (hAe : (va_A (wC G a T F U S D R M N P) sz) = A) (hA : ∀ q : Nat, s.heap.size ≤ q → A q) (hE : EV G A s s.heap) (hK : va_K (DG G) clP3 (TY G) s) (r9 : Int32) (T9 : TS) (F9 : FS) (Z9 : CS) : ∀ (n : Nat), ∀ (T8 : TS) (F8 : FS) (em : Int32) (ef : IA) (v1 : Int32) (v2 : Int32) (v3 : Int32) (v4 : Int32) (v5 : Int32) (v7 : Int32) (hv1 : gix D v1 = true) (H : Heap) (locs : List Loc), va_P (DG G) clP3 ((wC G a T8 F8 U S D R M N P) ++ ([(q1, .inr (7, [.ref q2, .int em])), (q2, .inl (cyA G 0, (tsz ((v5 - (1 : Int32)) + v4)), .inl ef))] : va_W)) H → va_D A ((wC G a T8 F8 U S D R M N P) ++ ([(q1, .inr (7, [.ref q2, .int em])), (q2, .inl (cyA G 0, (tsz ((v5 - (1 : Int32)) + v4)), .inl ef))] : va_W)) → va_S A s.heap H locs → ∀ (ls : Array Slot), lv_has ls 12 [(0, .ref (a.1 21)), (1, .ref (a.2.2.1 (Int32.toNatClampNeg v1) 0)), (2, .int v2), (3, .int v3), (4, .int v4), (5, .int v5), (6, .ref q1), (7, .int v7)] → f_X0_childOf_L38 n T8 F8 S D P em ef v1 v2 v3 v4 v5 v7 = some (r9, T9, F9, Z9) → W p l e ({ frames := 406, cells := 4, slots := 138, locals := 10542 }) s m args below meth c H locs 2 66 (MQ below (va_Qq (S := Nat × Nat × Nat × Nat) (fun r u => r = if r9 < 0 then none else some u.1) (fun u t => PW G (va_A (wC G a T F U S D R M N P) sz) (wC G a T9 F9 U S D R M N P ++ (if r9 < 0 then [] else childcells G u Z9)) t) (va_A (wC G a T F U S D R M N P) sz)) args s 4 138 (va_A (wC G a T F U S D R M N P) sz)) (F0 m 38 ls []) := by
  intro n
  induction n with
  | zero =>
    intro T8 F8 em ef v1 v2 v3 v4 v5 v7 hv1 H locs hP hD hS ls hl hm
    rw [f_X0_childOf_L38] at hm
    cases hm
  | succ n ih =>
    intro T8 F8 em ef v1 v2 v3 v4 v5 v7 hv1 H locs hP hD hS ls hl hm
    rw [f_X0_childOf_L38] at hm
    refine lv_iload hx hb dX0_childOf_38 (lv_at hl 7 rfl) ?_
    refine lv_iload_n hx hb dX0_childOf_40 rfl (lv_at hl 2 rfl) ?_
    refine lv_icmp_ge (tgt := 65) hx hb dX0_childOf_41 (by decide) (fun c_3 => ?_) (fun c_3 => ?_)
    · rw [if_pos c_3] at hm
      refine lv_aload_n hx hb dX0_childOf_65 rfl (lv_at hl 0 rfl) ?_
      refine va_get (D := DG G) (ci := 0) (v := .ref (a.1 1)) (C := RX0) (T := TX0) (N := 8) hx hb hts inW_X0 hown hK hP 21 rfl rfl 0 (by decide) (hts _ wm139) (fun _ h9 => h9) rfl dX0_childOf_66 ?_
      refine lv_iconst (v := 3) hx hb dX0_childOf_69 (by decide) ?_
      refine lv_iload_n hx hb dX0_childOf_70 rfl (lv_at hl 3 rfl) ?_
      obtain ⟨q_4, hq_4, hm⟩ := bind_some hm
      have hFc := free_all hD hS hA
      refine va_calli (va_runV (As := [.int 3, .int v3]) (rest := []) ⟨hx, hb, hml, hown, hts⟩ (frame_i (List.Perm.refl _) (List.Perm.refl _) (wr := ([(q1, .inr (7, [.ref q2, .int em])), (q2, .inl (cyA G 0, (tsz ((v5 - (1 : Int32)) + v4)), .inl ef))] : va_W)) (K_X9_leaf l hfl G a T8 F8 U S D R M N P 3 v3  q_4.1 q_4.2 hq_4 H.size)) (cwV 2 hts (gV wm878 wm439 wm440 wm2 wm441) rfl rfl rfl (by decide +kernel) ⟨Nat.le_of_ble_eq_true rfl, Nat.le_of_ble_eq_true rfl⟩) (pre_v (pre_w hK hP hD hS hE hFc) (va_recv hK hP (ci := 8) (q0 := 1) rfl rfl)) rfl rfl hl.1 rfl (lv_room (Nat.le_of_ble_eq_true rfl)) dX0_childOf_71 ⟨Nat.le_of_ble_eq_true rfl, Nat.le_of_ble_eq_true rfl⟩) hS (fun q _ h => hFc q h) hFc (fun r u t H locs ht hvm hw hB hz1 hk1 hS => ?_)
      rw [show r = q_4.1 from hw]
      have hP : va_P (DG G) clP3 ((wC G a q_4.2 F8 U S D R M N P) ++ ([(q1, .inr (7, [.ref q2, .int em])), (q2, .inl (cyA G 0, (tsz ((v5 - (1 : Int32)) + v4)), .inl ef))] : va_W)) H := by rw [← ht]; exact hB.1
      have hD : va_D A ((wC G a q_4.2 F8 U S D R M N P) ++ ([(q1, .inr (7, [.ref q2, .int em])), (q2, .inl (cyA G 0, (tsz ((v5 - (1 : Int32)) + v4)), .inl ef))] : va_W)) := hB.2.weaken (fun _ p _ h => hFc p.1 h)
      clear hB hFc hw hk1
      refine W.widen (k := 2) (n := 66) (Nat.le_of_ble_eq_true rfl) (Nat.le_of_ble_eq_true rfl) ?_
      refine lv_istore (lv' := [(7, .int q_4.1), (0, .ref (a.1 21)), (1, .ref (a.2.2.1 (Int32.toNatClampNeg v1) 0)), (2, .int v2), (3, .int v3), (4, .int v4), (5, .int v5), (6, .ref q1)]) hx hb dX0_childOf_74 hl (by decide) rfl (fun ls hl => ?_)
      refine lv_iconst (v := 0) hx hb dX0_childOf_76 (by decide) ?_
      refine lv_istore (lv' := [(8, .int 0), (7, .int q_4.1), (0, .ref (a.1 21)), (1, .ref (a.2.2.1 (Int32.toNatClampNeg v1) 0)), (2, .int v2), (3, .int v3), (4, .int v4), (5, .int v5), (6, .ref q1)]) hx hb dX0_childOf_77 hl (by decide) rfl (fun ls hl => ?_)
      refine W.widen (k := 2) (n := 66) (Nat.le_of_ble_eq_true rfl) (Nat.le_of_ble_eq_true rfl) ?_
      exact kl_X0_childOf_79 hfl hx hb hr hml hown hts hlocks hlk hAe hA hE hK r9 T9 F9 Z9 100000 q_4.2 F8 em ef v1 v2 v3 v4 v5 q_4.1 0 hv1 _ _ hP hD hS _ (lv_sub hl [2, 3, 4, 5, 6, 7, 8, 1, 0] rfl) hm
    · rw [if_neg c_3] at hm
      refine lv_aload hx hb dX0_childOf_44 (lv_at hl 6 rfl) ?_
      refine lv_aload_n hx hb dX0_childOf_46 rfl (lv_at hl 1 rfl) ?_
      refine va_getN (D := DG G) (ci := 3) (v := .ref (a.2.2.1 (Int32.toNatClampNeg v1) 1)) (C := RX3) (T := TX3) (N := 8) hx hb hts inW_X3 hown hK hP _ (at_pre ((at_goalC (c := 0) (gix_lt hv1) (by decide)).trans rfl)) rfl 1 (by decide) (va_Nw.use rfl (hE.1 _ nw909)) (fun _ h9 => h9) rfl dX0_childOf_47 ?_
      refine lv_iload hx hb dX0_childOf_50 (lv_at hl 7 rfl) ?_
      obtain ⟨q_5, hq_5, hm⟩ := bind_some hm
      have hFc := free_all hD hS hA
      refine va_calli (va_runV (As := [.int v7]) (rest := [.ref q1]) ⟨hx, hb, hml, hown, hts⟩ (frame_i (List.Perm.refl _) (List.Perm.refl _) (wr := ([(q1, .inr (7, [.ref q2, .int em])), (q2, .inl (cyA G 0, (tsz ((v5 - (1 : Int32)) + v4)), .inl ef))] : va_W)) (K_X8_typeAt_g l hfl G a T8 F8 U S D R M N P v1 v7 hv1 q_5 hq_5 H.size)) (cwV 1 hts (gV wm969 wm445 wm446 wm7 wm447) rfl rfl rfl (by decide +kernel) ⟨Nat.le_of_ble_eq_true rfl, Nat.le_of_ble_eq_true rfl⟩) (pre_v (pre_w hK hP hD hS hE hFc) (va_recv hK hP (ci := 7) (q0 := _) rfl (at_pre ((at_goalC (c := 1) (gix_lt hv1) (by decide)).trans rfl)))) rfl rfl hl.1 rfl (lv_room (Nat.le_of_ble_eq_true rfl)) dX0_childOf_52 ⟨Nat.le_of_ble_eq_true rfl, Nat.le_of_ble_eq_true rfl⟩) hS (fun q _ h => hFc q h) hFc (fun r u t H locs ht hvm hw hB hz1 hk1 hS => ?_)
      rw [show r = q_5 from hw]
      have hP : va_P (DG G) clP3 ((wC G a T8 F8 U S D R M N P) ++ ([(q1, .inr (7, [.ref q2, .int em])), (q2, .inl (cyA G 0, (tsz ((v5 - (1 : Int32)) + v4)), .inl ef))] : va_W)) H := by rw [← ht]; exact hB.1
      have hD : va_D A ((wC G a T8 F8 U S D R M N P) ++ ([(q1, .inr (7, [.ref q2, .int em])), (q2, .inl (cyA G 0, (tsz ((v5 - (1 : Int32)) + v4)), .inl ef))] : va_W)) := hB.2.weaken (fun _ p _ h => hFc p.1 h)
      clear hB hFc hw hk1
      refine W.widen (k := 2) (n := 66) (Nat.le_of_ble_eq_true rfl) (Nat.le_of_ble_eq_true rfl) ?_
      have hFc := free_all hD hS hA
      obtain ⟨q_6, hq_6, hm⟩ := bind_some hm
      refine va_calli (va_runV (As := [.int q_5]) (rest := []) ⟨hx, hb, hml, hown, hts⟩ (frame_i (wr := (wC G a T8 F8 U S D R M N P) ++ ([] : va_W)) (X1 := (wC G a T8 F8 U S D R M N P) ++ ([(q1, .inr (7, [.ref q2, .int q_6.2.1])), (q2, .inl (cyA G 0, (tsz ((v5 - (1 : Int32)) + v4)), .inl q_6.2.2))] ++ ([] : va_W))) (List.perm_append_comm_assoc _ [_, _] _) (List.perm_append_comm_assoc _ [_, _] _) (k_X8_push l hfl G (tsz ((v5 - (1 : Int32)) + v4)) q1 q_5 q2 em ef q_6.1 q_6.2.1 q_6.2.2 hq_6 H.size)) (cwV 1 hts (gV wm877 wm424 wm425 wm7 wm426) rfl rfl rfl (by decide +kernel) ⟨Nat.le_of_ble_eq_true rfl, Nat.le_of_ble_eq_true rfl⟩) (pre_v (pre_w hK hP hD hS hE hFc) (va_recv hK hP (ci := 7) (q0 := _) rfl (at_tail (j := 0) rfl))) rfl rfl hl.1 rfl (lv_room (Nat.le_of_ble_eq_true rfl)) dX0_childOf_55 ⟨Nat.le_of_ble_eq_true rfl, Nat.le_of_ble_eq_true rfl⟩) hS (fun q _ h => hFc q h) hFc (fun r u t H locs ht hvm hw hB hz1 hk1 hS => ?_)
      rw [show r = q_6.1 from hw]
      have hP : va_P (DG G) clP3 ((wC G a T8 F8 U S D R M N P) ++ ([(q1, .inr (7, [.ref q2, .int q_6.2.1])), (q2, .inl (cyA G 0, (tsz ((v5 - (1 : Int32)) + v4)), .inl q_6.2.2))] : va_W)) H := by rw [← ht]; exact hB.1
      have hD : va_D A ((wC G a T8 F8 U S D R M N P) ++ ([(q1, .inr (7, [.ref q2, .int q_6.2.1])), (q2, .inl (cyA G 0, (tsz ((v5 - (1 : Int32)) + v4)), .inl q_6.2.2))] : va_W)) := hB.2.weaken (fun _ p _ h => hFc p.1 h)
      clear hB hFc hw hk1
      refine W.widen (k := 2) (n := 66) (Nat.le_of_ble_eq_true rfl) (Nat.le_of_ble_eq_true rfl) ?_
      refine lv_pop hx hb dX0_childOf_58 rfl ?_
      refine lv_iinc (v := (v7 + 1)) (lv' := [(7, .int (v7 + 1)), (0, .ref (a.1 21)), (1, .ref (a.2.2.1 (Int32.toNatClampNeg v1) 0)), (2, .int v2), (3, .int v3), (4, .int v4), (5, .int v5), (6, .ref q1)]) hx hb dX0_childOf_59 hl (k := 7) rfl rfl (by decide) rfl (fun ls hl => ?_)
      refine lv_goto (tgt := 38) hx hb dX0_childOf_62 (by decide) ?_
      refine W.widen (k := 2) (n := 66) (Nat.le_of_ble_eq_true rfl) (Nat.le_of_ble_eq_true rfl) ?_
      exact ih T8 F8 q_6.2.1 q_6.2.2 v1 v2 v3 v4 v5 (v7 + 1) hv1 _ _ hP hD hS _ (lv_sub hl [1, 2, 3, 4, 5, 6, 7, 0] rfl) hm
set_option maxHeartbeats 2000000 in
set_option maxRecDepth 100000 in
theorem k_X0_childOf (l : Launch) (hfl : l.stackTraces = false) (G : GC) (a : AS) (T : TS) (F : FS) (U : US) (S : SS) (D : DS) (R : RS) (M : MS) (N : NS) (P : PS) (hlk : lkA a D.1.toNatClampNeg D.2.1.toNatClampNeg) (p1 : Int32) (p2 : Int32) (p3 : Int32) (hg_p1 : gix D p1 = true) (r9 : Int32) (T9 : TS) (F9 : FS) (Z9 : CS) (hm : f_X0_childOf T F S D P p1 p2 p3 = some (r9, T9, F9, Z9)) (sz : Nat) : Met l yX0_childOf (Cond.code yX0_childOf cX0_childOf 12 (some (.object "TelescopeCourt$Goal")) :: W0) ({ frames := 406, cells := 4, slots := 138, locals := 10542 }) (va_Pc [.ref (a.1 21), .ref (a.2.2.1 (Int32.toNatClampNeg p1) 0), .int p2, .int p3] (WD G (wC G a T F U S D R M N P) sz)) (va_Qq (S := Nat × Nat × Nat × Nat) (fun r u => r = if r9 < 0 then none else some u.1) (fun u t => PW G (va_A (wC G a T F U S D R M N P) sz) (wC G a T9 F9 U S D R M N P ++ (if r9 < 0 then [] else childcells G u Z9)) t) (va_A (wC G a T F U S D R M N P) sz)) 4 138 (va_A (wC G a T F U S D R M N P) sz) := by
  rw [f_X0_childOf] at hm
  refine Met.ofW (cc := cX0_childOf) (maxL := 12) (ret := (some (.object "TelescopeCourt$Goal"))) (by decide) rfl ?_
  intro p e s m args below meth c s₁ B hml hv
  obtain ⟨rfl, hsz, hP, hK, hD0, hE⟩ := hv
  have hx := B.exec
  have hb := B.bytes
  have hr := B.returns
  have hts := w0_tail B.pre
  have hown : s.vm.findClass RX0 = some m.cls := findClass_of_methodNamed B.named
  have hlocks := B.notSynchronized
  have hD := hD0.self (sz := sz)
  obtain ⟨A, hAe⟩ : ∃ A, (va_A (wC G a T F U S D R M N P) sz) = A := ⟨_, rfl⟩
  rw [hAe] at hD hE
  have hA : ∀ q : Nat, s.heap.size ≤ q → A q := fun q h => by rw [← hAe]; exact Or.inr (by rw [← hsz]; exact h)
  have hS : va_S A s.heap s.heap [] := va_S.rf
  obtain ⟨H, hHe⟩ : ∃ H : Heap, H = s.heap := ⟨_, rfl⟩
  have hP : va_P (DG G) clP3 (wC G a T F U S D R M N P) H := by rw [hHe]; exact hP
  have hS : va_S A s.heap H [] := by rw [hHe]; exact hS
  have hl := lv_entry ([.ref (a.1 21), .ref (a.2.2.1 (Int32.toNatClampNeg p1) 0), .int p2, .int p3]) (n := 12) (Nat.le_of_ble_eq_true rfl)
  rw [lg_entry_eq, ← hHe]
  generalize (lg_sl ([.ref (a.1 21), .ref (a.2.2.1 (Int32.toNatClampNeg p1) 0), .int p2, .int p3]) ++ List.replicate (12 - (lg_sl ([.ref (a.1 21), .ref (a.2.2.1 (Int32.toNatClampNeg p1) 0), .int p2, .int p3])).length) Slot.unset).toArray = ls at hl ⊢
  have hl : lv_has ls 12 [(0, .ref (a.1 21)), (1, .ref (a.2.2.1 (Int32.toNatClampNeg p1) 0)), (2, .int p2), (3, .int p3)] := hl
  refine lv_aload_n hx hb dX0_childOf_0 rfl (lv_at hl 0 rfl) ?_
  refine va_get (D := DG G) (ci := 0) (v := .ref (a.1 13)) (C := RX0) (T := TX0) (N := 8) hx hb hts inW_X0 hown hK hP 21 rfl rfl 2 (by decide) (hts _ wm141) (fun _ h9 => h9) rfl dX0_childOf_1 ?_
  refine lv_iload_n hx hb dX0_childOf_4 rfl (lv_at hl 3 rfl) ?_
  obtain ⟨q_1, hq_1, hm⟩ := bind_some hm
  have hFc := free_all hD hS hA
  refine va_calli (va_runV (As := [.int p3]) (rest := []) ⟨hx, hb, hml, hown, hts⟩ (K_X7_partsOf l hfl G a T F U S D R M N P p3  q_1 hq_1 H.size) (cwV 1 hts (gV wm974 wm975 wm976 wm4 wm977) rfl rfl rfl (by decide +kernel) ⟨Nat.le_of_ble_eq_true rfl, Nat.le_of_ble_eq_true rfl⟩) (pre_v (pre_w hK hP hD hS hE hFc) (va_recv hK hP (ci := 6) (q0 := 13) rfl rfl)) rfl rfl hl.1 rfl (lv_room (Nat.le_of_ble_eq_true rfl)) dX0_childOf_5 ⟨Nat.le_of_ble_eq_true rfl, Nat.le_of_ble_eq_true rfl⟩) hS (fun q _ h => hFc q h) hFc (fun r u t H locs ht hvm hw hB hz1 hk1 hS => ?_)
  rw [show r = q_1 from hw]
  have hP : va_P (DG G) clP3 (wC G a T F U S D R M N P) H := by rw [← ht]; exact hB.1
  have hD : va_D A (wC G a T F U S D R M N P) := hB.2.weaken (fun _ p _ h => hFc p.1 h)
  clear hB hFc hw hk1
  refine W.widen (k := 0) (n := 0) (Nat.le_of_ble_eq_true rfl) (Nat.le_of_ble_eq_true rfl) ?_
  refine lv_istore (lv' := [(4, .int q_1), (0, .ref (a.1 21)), (1, .ref (a.2.2.1 (Int32.toNatClampNeg p1) 0)), (2, .int p2), (3, .int p3)]) hx hb dX0_childOf_8 hl (by decide) rfl (fun ls hl => ?_)
  refine lv_aload_n hx hb dX0_childOf_10 rfl (lv_at hl 2 rfl) ?_
  refine va_getN (D := DG G) (ci := 3) (v := .ref (a.2.2.1 (Int32.toNatClampNeg p1) 1)) (C := RX3) (T := TX3) (N := 8) hx hb hts inW_X3 hown hK hP _ ((at_goalC (c := 0) (gix_lt hg_p1) (by decide)).trans rfl) rfl 1 (by decide) (va_Nw.use rfl (hE.1 _ nw909)) (fun _ h9 => h9) rfl dX0_childOf_11 ?_
  refine va_getN (D := DG G) (ci := 7) (v := .int (P.2.2.2.2.2.2.2.2.2.2.1 (Int32.toNatClampNeg p1))) (C := RX8) (T := TX8) (N := 2) hx hb hts inW_X8 hown hK hP _ ((at_goalC (c := 1) (gix_lt hg_p1) (by decide)).trans rfl) rfl 1 (by decide) (va_Nw.use rfl (hE.1 _ nw187)) (fun _ h9 => h9) rfl dX0_childOf_14 ?_
  refine lv_istore (lv' := [(5, .int (P.2.2.2.2.2.2.2.2.2.2.1 (Int32.toNatClampNeg p1))), (4, .int q_1), (0, .ref (a.1 21)), (1, .ref (a.2.2.1 (Int32.toNatClampNeg p1) 0)), (2, .int p2), (3, .int p3)]) hx hb dX0_childOf_17 hl (by decide) rfl (fun ls hl => ?_)
  refine va_new (ci := 7) (fs := [.null, .int 0]) (C := RX8) (T := TX8) (N := 2) hx hb hts inW_X8 tyX8 tyX8_ok hown (hts _ wm874) (hts _ wm176) (hts _ wm7) hK hP hD hS hA rfl (by decide +kernel) (Nat.le_of_ble_eq_true rfl) (Nat.le_of_ble_eq_true rfl) dX0_childOf_19 (fun q1 H hP hD hS => ?_)
  have hP : va_P (DG G) clP3 ((wC G a T F U S D R M N P) ++ ([(q1, .inr (7, [.null, .int 0]))] : va_W)) H := hP
  have hD : va_D A ((wC G a T F U S D R M N P) ++ ([(q1, .inr (7, [.null, .int 0]))] : va_W)) := hD
  refine W.widen (k := 1) (n := 2) (Nat.le_of_ble_eq_true rfl) (Nat.le_of_ble_eq_true rfl) ?_
  refine lv_dup hx hb dX0_childOf_22 rfl ?_
  refine lv_iload hx hb dX0_childOf_23 (lv_at hl 0 rfl) ?_
  refine lv_iconst (v := 1) hx hb dX0_childOf_25 (by decide) ?_
  refine lv_isub hx hb dX0_childOf_26 ?_
  refine lv_iload hx hb dX0_childOf_27 (lv_at hl 1 rfl) ?_
  refine lv_iadd hx hb dX0_childOf_29 ?_
  have hFc := free_all hD hS hA
  obtain ⟨b_2, hm⟩ := ite_some hm
  refine va_callv (va_runI (As := [.int (((P.2.2.2.2.2.2.2.2.2.2.1 (Int32.toNatClampNeg p1)) - (1 : Int32)) + q_1)]) (rest := [.ref q1]) ⟨hx, hb, hml, hown, hts⟩ (frame_vS (wr := (wC G a T F U S D R M N P)) (X1 := fun u9 : Nat => (wC G a T F U S D R M N P) ++ [(q1, .inr (7, [.ref u9, .int 0])), (u9, .inl (cyA G 0, (tsz (((P.2.2.2.2.2.2.2.2.2.2.1 (Int32.toNatClampNeg p1)) - (1 : Int32)) + q_1)), .inl (fun _ => 0)))]) List.perm_append_comm (fun u9 => List.perm_append_comm) (k_X8_initn l hfl G q1 (((P.2.2.2.2.2.2.2.2.2.2.1 (Int32.toNatClampNeg p1)) - (1 : Int32)) + q_1) b_2 H.size)) (cwI 1 hts (gC wm179) rfl rfl rfl (hts _ wm7) (hts _ wm875) (hts _ wm178) rfl (by decide +kernel) ⟨Nat.le_of_ble_eq_true rfl, Nat.le_of_ble_eq_true rfl⟩) (pre_w hK hP hD hS hE hFc) rfl rfl hl.1 rfl (lv_room (Nat.le_of_ble_eq_true rfl)) dX0_childOf_30 ⟨Nat.le_of_ble_eq_true rfl, Nat.le_of_ble_eq_true rfl⟩) hS (fun q _ h => hFc q h) hFc (fun q2 t H locs ht hvm hw hB hz1 hk1 hS => ?_)
  have hP : va_P (DG G) clP3 ((wC G a T F U S D R M N P) ++ ([(q1, .inr (7, [.ref q2, .int 0])), (q2, .inl (cyA G 0, (tsz (((P.2.2.2.2.2.2.2.2.2.2.1 (Int32.toNatClampNeg p1)) - (1 : Int32)) + q_1)), .inl (fun _ => 0)))] : va_W)) H := by rw [← ht]; exact hB.1
  have hD : va_D A ((wC G a T F U S D R M N P) ++ ([(q1, .inr (7, [.ref q2, .int 0])), (q2, .inl (cyA G 0, (tsz (((P.2.2.2.2.2.2.2.2.2.2.1 (Int32.toNatClampNeg p1)) - (1 : Int32)) + q_1)), .inl (fun _ => 0)))] : va_W)) := hB.2.weaken (fun _ p _ h => hFc p.1 h)
  clear hB hFc hk1
  refine W.widen (k := 2) (n := 66) (Nat.le_of_ble_eq_true rfl) (Nat.le_of_ble_eq_true rfl) ?_
  refine lv_astore (lv' := [(6, .ref q1), (5, .int (P.2.2.2.2.2.2.2.2.2.2.1 (Int32.toNatClampNeg p1))), (4, .int q_1), (0, .ref (a.1 21)), (1, .ref (a.2.2.1 (Int32.toNatClampNeg p1) 0)), (2, .int p2), (3, .int p3)]) hx hb dX0_childOf_33 hl (by decide) rfl (fun ls hl => ?_)
  refine lv_iconst (v := 0) hx hb dX0_childOf_35 (by decide) ?_
  refine lv_istore (lv' := [(7, .int 0), (6, .ref q1), (5, .int (P.2.2.2.2.2.2.2.2.2.2.1 (Int32.toNatClampNeg p1))), (4, .int q_1), (0, .ref (a.1 21)), (1, .ref (a.2.2.1 (Int32.toNatClampNeg p1) 0)), (2, .int p2), (3, .int p3)]) hx hb dX0_childOf_36 hl (by decide) rfl (fun ls hl => ?_)
  refine W.widen (k := 2) (n := 66) (Nat.le_of_ble_eq_true rfl) (Nat.le_of_ble_eq_true rfl) ?_
  exact kl_X0_childOf_38 hfl hx hb hr hml hown hts hlocks hlk hAe hA hE hK r9 T9 F9 Z9 100000 T F 0 (fun _ => 0) p1 p2 p3 q_1 (P.2.2.2.2.2.2.2.2.2.2.1 (Int32.toNatClampNeg p1)) 0 hg_p1 _ _ hP hD hS _ (lv_sub hl [4, 5, 6, 7, 3, 2, 1, 0] rfl) hm
