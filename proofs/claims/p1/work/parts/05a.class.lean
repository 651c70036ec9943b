set_option maxHeartbeats 4000000 in
set_option maxRecDepth 100000 in
theorem k_X9_init (l : Launch) (hfl : l.stackTraces = false) (G : GC) (h0 : Nat) (sz : Nat) : Met l yX9_init (Cond.code yX9_init cX9_init 1 none :: W0) ({ frames := 1, cells := 9, slots := 294912, locals := 12 }) (va_Pc [.ref h0] (WD G [(h0, .inr (8, [.null, .null, .null, .null, .null, .null, .null, .null, .null, .int 0]))] sz)) (va_Qv (fun _ : Unit => True) (fun _ t => ∃ (zz0 : Nat) (zz1 : Nat) (zz2 : Nat) (zz3 : Nat) (zz4 : Nat) (zz5 : Nat) (zz6 : Nat) (zz7 : Nat) (zz8 : Nat), PW G (va_A [(h0, .inr (8, [.null, .null, .null, .null, .null, .null, .null, .null, .null, .int 0]))] sz) [(h0, .inr (8, [.ref zz0, .ref zz1, .ref zz2, .ref zz3, .ref zz4, .ref zz5, .ref zz6, .ref zz7, .ref zz8, .int 0])), (zz0, .inl (cyA G 0, 32768, .inl (fun _ => 0))), (zz1, .inl (cyA G 0, 32768, .inl (fun _ => 0))), (zz2, .inl (cyA G 0, 32768, .inl (fun _ => 0))), (zz3, .inl (cyA G 0, 32768, .inl (fun _ => 0))), (zz4, .inl (cyA G 0, 32768, .inl (fun _ => 0))), (zz5, .inl (cyA G 0, 32768, .inl (fun _ => 0))), (zz6, .inl (cyA G 0, 32768, .inl (fun _ => 0))), (zz7, .inl (cyA G 1, 32768, .inl (fun _ => 0)))] t) (va_A [(h0, .inr (8, [.null, .null, .null, .null, .null, .null, .null, .null, .null, .int 0]))] sz)) 9 294912 (va_A [(h0, .inr (8, [.null, .null, .null, .null, .null, .null, .null, .null, .null, .int 0]))] sz) := by
  refine Met.ofW (cc := cX9_init) (maxL := 1) (ret := none) (by decide) rfl ?_
  intro p e s m args below meth c s₁ B hml hv
  obtain ⟨rfl, hsz, hP, hK, hD0, hE⟩ := hv
  have hx := B.exec
  have hb := B.bytes
  have hr := B.returns
  have hts := w0_tail B.pre
  have hown : s.vm.findClass RX9 = some m.cls := findClass_of_methodNamed B.named
  have hlocks := B.notSynchronized
  have hin : meth.name = "<init>" := (name_of_methodNamed B.named B.method).1
  subst hsz
  have hD := hD0.self (sz := s.heap.size)
  generalize hAe : va_A [(h0, .inr (8, [.null, .null, .null, .null, .null, .null, .null, .null, .null, .int 0]))] s.heap.size = A at hD hE ⊢
  have hA : ∀ q : Nat, s.heap.size ≤ q → A q := fun q h => by rw [← hAe]; exact Or.inr h
  have hS : va_S A s.heap s.heap [] := va_S.rf
  obtain ⟨H, hHe⟩ : ∃ H : Heap, H = s.heap := ⟨_, rfl⟩
  have hP : va_P (DG G) clP1 [(h0, .inr (8, [.null, .null, .null, .null, .null, .null, .null, .null, .null, .int 0]))] H := by rw [hHe]; exact hP
  have hS : va_S A s.heap H [] := by rw [hHe]; exact hS
  have hl := lv_entry ([.ref h0]) (n := 1) (Nat.le_of_ble_eq_true rfl)
  rw [lg_entry_eq, ← hHe]
  generalize (lg_sl ([.ref h0]) ++ List.replicate (1 - (lg_sl ([.ref h0])).length) Slot.unset).toArray = ls at hl ⊢
  have hl : lv_has ls 1 [(0, .ref h0)] := hl
  refine lv_aload_n hx hb dX9_init_0 rfl (lv_at hl 0 rfl) ?_
  refine W.objInit hx hb hown (hts _ wm53) (hts _ wm46) (hts _ wm47) rfl (by rw [hml]; exact hl.1) rfl dX9_init_1 (Nat.le_of_ble_eq_true rfl) (Nat.le_of_ble_eq_true rfl) ?_
  refine W.eq (g2 := F0 m 4 ls []) rfl ?_
  refine lv_aload_n hx hb dX9_init_4 rfl (lv_at hl 0 rfl) ?_
  refine lv_ldc (v := 32768) hx hb hown (hts _ wm54) dX9_init_5 ?_
  refine my_newa (atype := .int) (N' := 32768) (a0 := (32768, .inl (fun _ => 0))) (t1 := 0) hx hb (hts _ wm86) rfl rfl hK hP hD hS hA (fun _ => rfl) (by decide) (by decide) (Nat.le_of_ble_eq_true rfl) (Nat.le_of_ble_eq_true rfl) (Nat.le_of_ble_eq_true rfl) dX9_init_7 (fun q_1 H hP hD hS => ?_)
  have hP : va_P (DG G) clP1 [(h0, .inr (8, [.null, .null, .null, .null, .null, .null, .null, .null, .null, .int 0])), (q_1, .inl (cyA G 0, 32768, .inl (fun _ => 0)))] H := hP
  have hD : va_D A [(h0, .inr (8, [.null, .null, .null, .null, .null, .null, .null, .null, .null, .int 0])), (q_1, .inl (cyA G 0, 32768, .inl (fun _ => 0)))] := hD
  refine W.widen (k := 1) (n := 32768) (Nat.le_of_ble_eq_true rfl) (Nat.le_of_ble_eq_true rfl) ?_
  refine va_putF (D := DG G) (ci := 8) (v := .ref q_1) (ty := tyX9 0) (C := RX9) (T := TX9) (N := 10) hx hb hts inW_X9 tyX9 tyX9_ok nmX9 hown hK hP hD hS 0 rfl rfl 0 (by decide) (hts _ wm55) (fun _ h9 => h9) rfl hin rfl (by decide +kernel) rfl rfl (Nat.le_of_ble_eq_true rfl) dX9_init_9 (fun H locs hP hD hS => ?_)
  have hP : va_P (DG G) clP1 [(h0, .inr (8, [.ref q_1, .null, .null, .null, .null, .null, .null, .null, .null, .int 0])), (q_1, .inl (cyA G 0, 32768, .inl (fun _ => 0)))] H := hP
  have hD : va_D A [(h0, .inr (8, [.ref q_1, .null, .null, .null, .null, .null, .null, .null, .null, .int 0])), (q_1, .inl (cyA G 0, 32768, .inl (fun _ => 0)))] := hD
  refine lv_aload_n hx hb dX9_init_12 rfl (lv_at hl 0 rfl) ?_
  refine lv_ldc (v := 32768) hx hb hown (hts _ wm54) dX9_init_13 ?_
  refine my_newa (atype := .int) (N' := 32768) (a0 := (32768, .inl (fun _ => 0))) (t1 := 0) hx hb (hts _ wm86) rfl rfl hK hP hD hS hA (fun _ => rfl) (by decide) (by decide) (Nat.le_of_ble_eq_true rfl) (Nat.le_of_ble_eq_true rfl) (Nat.le_of_ble_eq_true rfl) dX9_init_15 (fun q_2 H hP hD hS => ?_)
  have hP : va_P (DG G) clP1 [(h0, .inr (8, [.ref q_1, .null, .null, .null, .null, .null, .null, .null, .null, .int 0])), (q_1, .inl (cyA G 0, 32768, .inl (fun _ => 0))), (q_2, .inl (cyA G 0, 32768, .inl (fun _ => 0)))] H := hP
  have hD : va_D A [(h0, .inr (8, [.ref q_1, .null, .null, .null, .null, .null, .null, .null, .null, .int 0])), (q_1, .inl (cyA G 0, 32768, .inl (fun _ => 0))), (q_2, .inl (cyA G 0, 32768, .inl (fun _ => 0)))] := hD
  refine W.widen (k := 2) (n := 65536) (Nat.le_of_ble_eq_true rfl) (Nat.le_of_ble_eq_true rfl) ?_
  refine va_putF (D := DG G) (ci := 8) (v := .ref q_2) (ty := tyX9 1) (C := RX9) (T := TX9) (N := 10) hx hb hts inW_X9 tyX9 tyX9_ok nmX9 hown hK hP hD hS 0 rfl rfl 1 (by decide) (hts _ wm56) (fun _ h9 => h9) rfl hin rfl (by decide +kernel) rfl rfl (Nat.le_of_ble_eq_true rfl) dX9_init_17 (fun H locs hP hD hS => ?_)
  have hP : va_P (DG G) clP1 [(h0, .inr (8, [.ref q_1, .ref q_2, .null, .null, .null, .null, .null, .null, .null, .int 0])), (q_1, .inl (cyA G 0, 32768, .inl (fun _ => 0))), (q_2, .inl (cyA G 0, 32768, .inl (fun _ => 0)))] H := hP
  have hD : va_D A [(h0, .inr (8, [.ref q_1, .ref q_2, .null, .null, .null, .null, .null, .null, .null, .int 0])), (q_1, .inl (cyA G 0, 32768, .inl (fun _ => 0))), (q_2, .inl (cyA G 0, 32768, .inl (fun _ => 0)))] := hD
  refine lv_aload_n hx hb dX9_init_20 rfl (lv_at hl 0 rfl) ?_
  refine lv_ldc (v := 32768) hx hb hown (hts _ wm54) dX9_init_21 ?_
  refine my_newa (atype := .int) (N' := 32768) (a0 := (32768, .inl (fun _ => 0))) (t1 := 0) hx hb (hts _ wm86) rfl rfl hK hP hD hS hA (fun _ => rfl) (by decide) (by decide) (Nat.le_of_ble_eq_true rfl) (Nat.le_of_ble_eq_true rfl) (Nat.le_of_ble_eq_true rfl) dX9_init_23 (fun q_3 H hP hD hS => ?_)
  have hP : va_P (DG G) clP1 [(h0, .inr (8, [.ref q_1, .ref q_2, .null, .null, .null, .null, .null, .null, .null, .int 0])), (q_1, .inl (cyA G 0, 32768, .inl (fun _ => 0))), (q_2, .inl (cyA G 0, 32768, .inl (fun _ => 0))), (q_3, .inl (cyA G 0, 32768, .inl (fun _ => 0)))] H := hP
  have hD : va_D A [(h0, .inr (8, [.ref q_1, .ref q_2, .null, .null, .null, .null, .null, .null, .null, .int 0])), (q_1, .inl (cyA G 0, 32768, .inl (fun _ => 0))), (q_2, .inl (cyA G 0, 32768, .inl (fun _ => 0))), (q_3, .inl (cyA G 0, 32768, .inl (fun _ => 0)))] := hD
  refine W.widen (k := 3) (n := 98304) (Nat.le_of_ble_eq_true rfl) (Nat.le_of_ble_eq_true rfl) ?_
  refine va_putF (D := DG G) (ci := 8) (v := .ref q_3) (ty := tyX9 2) (C := RX9) (T := TX9) (N := 10) hx hb hts inW_X9 tyX9 tyX9_ok nmX9 hown hK hP hD hS 0 rfl rfl 2 (by decide) (hts _ wm57) (fun _ h9 => h9) rfl hin rfl (by decide +kernel) rfl rfl (Nat.le_of_ble_eq_true rfl) dX9_init_25 (fun H locs hP hD hS => ?_)
  have hP : va_P (DG G) clP1 [(h0, .inr (8, [.ref q_1, .ref q_2, .ref q_3, .null, .null, .null, .null, .null, .null, .int 0])), (q_1, .inl (cyA G 0, 32768, .inl (fun _ => 0))), (q_2, .inl (cyA G 0, 32768, .inl (fun _ => 0))), (q_3, .inl (cyA G 0, 32768, .inl (fun _ => 0)))] H := hP
  have hD : va_D A [(h0, .inr (8, [.ref q_1, .ref q_2, .ref q_3, .null, .null, .null, .null, .null, .null, .int 0])), (q_1, .inl (cyA G 0, 32768, .inl (fun _ => 0))), (q_2, .inl (cyA G 0, 32768, .inl (fun _ => 0))), (q_3, .inl (cyA G 0, 32768, .inl (fun _ => 0)))] := hD
  refine lv_aload_n hx hb dX9_init_28 rfl (lv_at hl 0 rfl) ?_
  refine lv_ldc (v := 32768) hx hb hown (hts _ wm54) dX9_init_29 ?_
  refine my_newa (atype := .int) (N' := 32768) (a0 := (32768, .inl (fun _ => 0))) (t1 := 0) hx hb (hts _ wm86) rfl rfl hK hP hD hS hA (fun _ => rfl) (by decide) (by decide) (Nat.le_of_ble_eq_true rfl) (Nat.le_of_ble_eq_true rfl) (Nat.le_of_ble_eq_true rfl) dX9_init_31 (fun q_4 H hP hD hS => ?_)
  have hP : va_P (DG G) clP1 [(h0, .inr (8, [.ref q_1, .ref q_2, .ref q_3, .null, .null, .null, .null, .null, .null, .int 0])), (q_1, .inl (cyA G 0, 32768, .inl (fun _ => 0))), (q_2, .inl (cyA G 0, 32768, .inl (fun _ => 0))), (q_3, .inl (cyA G 0, 32768, .inl (fun _ => 0))), (q_4, .inl (cyA G 0, 32768, .inl (fun _ => 0)))] H := hP
  have hD : va_D A [(h0, .inr (8, [.ref q_1, .ref q_2, .ref q_3, .null, .null, .null, .null, .null, .null, .int 0])), (q_1, .inl (cyA G 0, 32768, .inl (fun _ => 0))), (q_2, .inl (cyA G 0, 32768, .inl (fun _ => 0))), (q_3, .inl (cyA G 0, 32768, .inl (fun _ => 0))), (q_4, .inl (cyA G 0, 32768, .inl (fun _ => 0)))] := hD
  refine W.widen (k := 4) (n := 131072) (Nat.le_of_ble_eq_true rfl) (Nat.le_of_ble_eq_true rfl) ?_
  refine va_putF (D := DG G) (ci := 8) (v := .ref q_4) (ty := tyX9 3) (C := RX9) (T := TX9) (N := 10) hx hb hts inW_X9 tyX9 tyX9_ok nmX9 hown hK hP hD hS 0 rfl rfl 3 (by decide) (hts _ wm58) (fun _ h9 => h9) rfl hin rfl (by decide +kernel) rfl rfl (Nat.le_of_ble_eq_true rfl) dX9_init_33 (fun H locs hP hD hS => ?_)
  have hP : va_P (DG G) clP1 [(h0, .inr (8, [.ref q_1, .ref q_2, .ref q_3, .ref q_4, .null, .null, .null, .null, .null, .int 0])), (q_1, .inl (cyA G 0, 32768, .inl (fun _ => 0))), (q_2, .inl (cyA G 0, 32768, .inl (fun _ => 0))), (q_3, .inl (cyA G 0, 32768, .inl (fun _ => 0))), (q_4, .inl (cyA G 0, 32768, .inl (fun _ => 0)))] H := hP
  have hD : va_D A [(h0, .inr (8, [.ref q_1, .ref q_2, .ref q_3, .ref q_4, .null, .null, .null, .null, .null, .int 0])), (q_1, .inl (cyA G 0, 32768, .inl (fun _ => 0))), (q_2, .inl (cyA G 0, 32768, .inl (fun _ => 0))), (q_3, .inl (cyA G 0, 32768, .inl (fun _ => 0))), (q_4, .inl (cyA G 0, 32768, .inl (fun _ => 0)))] := hD
  refine lv_aload_n hx hb dX9_init_36 rfl (lv_at hl 0 rfl) ?_
  refine lv_ldc (v := 32768) hx hb hown (hts _ wm54) dX9_init_37 ?_
  refine my_newa (atype := .int) (N' := 32768) (a0 := (32768, .inl (fun _ => 0))) (t1 := 0) hx hb (hts _ wm86) rfl rfl hK hP hD hS hA (fun _ => rfl) (by decide) (by decide) (Nat.le_of_ble_eq_true rfl) (Nat.le_of_ble_eq_true rfl) (Nat.le_of_ble_eq_true rfl) dX9_init_39 (fun q_5 H hP hD hS => ?_)
  have hP : va_P (DG G) clP1 [(h0, .inr (8, [.ref q_1, .ref q_2, .ref q_3, .ref q_4, .null, .null, .null, .null, .null, .int 0])), (q_1, .inl (cyA G 0, 32768, .inl (fun _ => 0))), (q_2, .inl (cyA G 0, 32768, .inl (fun _ => 0))), (q_3, .inl (cyA G 0, 32768, .inl (fun _ => 0))), (q_4, .inl (cyA G 0, 32768, .inl (fun _ => 0))), (q_5, .inl (cyA G 0, 32768, .inl (fun _ => 0)))] H := hP
  have hD : va_D A [(h0, .inr (8, [.ref q_1, .ref q_2, .ref q_3, .ref q_4, .null, .null, .null, .null, .null, .int 0])), (q_1, .inl (cyA G 0, 32768, .inl (fun _ => 0))), (q_2, .inl (cyA G 0, 32768, .inl (fun _ => 0))), (q_3, .inl (cyA G 0, 32768, .inl (fun _ => 0))), (q_4, .inl (cyA G 0, 32768, .inl (fun _ => 0))), (q_5, .inl (cyA G 0, 32768, .inl (fun _ => 0)))] := hD
  refine W.widen (k := 5) (n := 163840) (Nat.le_of_ble_eq_true rfl) (Nat.le_of_ble_eq_true rfl) ?_
  refine va_putF (D := DG G) (ci := 8) (v := .ref q_5) (ty := tyX9 4) (C := RX9) (T := TX9) (N := 10) hx hb hts inW_X9 tyX9 tyX9_ok nmX9 hown hK hP hD hS 0 rfl rfl 4 (by decide) (hts _ wm59) (fun _ h9 => h9) rfl hin rfl (by decide +kernel) rfl rfl (Nat.le_of_ble_eq_true rfl) dX9_init_41 (fun H locs hP hD hS => ?_)
  have hP : va_P (DG G) clP1 [(h0, .inr (8, [.ref q_1, .ref q_2, .ref q_3, .ref q_4, .ref q_5, .null, .null, .null, .null, .int 0])), (q_1, .inl (cyA G 0, 32768, .inl (fun _ => 0))), (q_2, .inl (cyA G 0, 32768, .inl (fun _ => 0))), (q_3, .inl (cyA G 0, 32768, .inl (fun _ => 0))), (q_4, .inl (cyA G 0, 32768, .inl (fun _ => 0))), (q_5, .inl (cyA G 0, 32768, .inl (fun _ => 0)))] H := hP
  have hD : va_D A [(h0, .inr (8, [.ref q_1, .ref q_2, .ref q_3, .ref q_4, .ref q_5, .null, .null, .null, .null, .int 0])), (q_1, .inl (cyA G 0, 32768, .inl (fun _ => 0))), (q_2, .inl (cyA G 0, 32768, .inl (fun _ => 0))), (q_3, .inl (cyA G 0, 32768, .inl (fun _ => 0))), (q_4, .inl (cyA G 0, 32768, .inl (fun _ => 0))), (q_5, .inl (cyA G 0, 32768, .inl (fun _ => 0)))] := hD
  refine lv_aload_n hx hb dX9_init_44 rfl (lv_at hl 0 rfl) ?_
  refine lv_ldc (v := 32768) hx hb hown (hts _ wm54) dX9_init_45 ?_
  refine my_newa (atype := .int) (N' := 32768) (a0 := (32768, .inl (fun _ => 0))) (t1 := 0) hx hb (hts _ wm86) rfl rfl hK hP hD hS hA (fun _ => rfl) (by decide) (by decide) (Nat.le_of_ble_eq_true rfl) (Nat.le_of_ble_eq_true rfl) (Nat.le_of_ble_eq_true rfl) dX9_init_47 (fun q_6 H hP hD hS => ?_)
  have hP : va_P (DG G) clP1 [(h0, .inr (8, [.ref q_1, .ref q_2, .ref q_3, .ref q_4, .ref q_5, .null, .null, .null, .null, .int 0])), (q_1, .inl (cyA G 0, 32768, .inl (fun _ => 0))), (q_2, .inl (cyA G 0, 32768, .inl (fun _ => 0))), (q_3, .inl (cyA G 0, 32768, .inl (fun _ => 0))), (q_4, .inl (cyA G 0, 32768, .inl (fun _ => 0))), (q_5, .inl (cyA G 0, 32768, .inl (fun _ => 0))), (q_6, .inl (cyA G 0, 32768, .inl (fun _ => 0)))] H := hP
  have hD : va_D A [(h0, .inr (8, [.ref q_1, .ref q_2, .ref q_3, .ref q_4, .ref q_5, .null, .null, .null, .null, .int 0])), (q_1, .inl (cyA G 0, 32768, .inl (fun _ => 0))), (q_2, .inl (cyA G 0, 32768, .inl (fun _ => 0))), (q_3, .inl (cyA G 0, 32768, .inl (fun _ => 0))), (q_4, .inl (cyA G 0, 32768, .inl (fun _ => 0))), (q_5, .inl (cyA G 0, 32768, .inl (fun _ => 0))), (q_6, .inl (cyA G 0, 32768, .inl (fun _ => 0)))] := hD
  refine W.widen (k := 6) (n := 196608) (Nat.le_of_ble_eq_true rfl) (Nat.le_of_ble_eq_true rfl) ?_
  refine va_putF (D := DG G) (ci := 8) (v := .ref q_6) (ty := tyX9 5) (C := RX9) (T := TX9) (N := 10) hx hb hts inW_X9 tyX9 tyX9_ok nmX9 hown hK hP hD hS 0 rfl rfl 5 (by decide) (hts _ wm60) (fun _ h9 => h9) rfl hin rfl (by decide +kernel) rfl rfl (Nat.le_of_ble_eq_true rfl) dX9_init_49 (fun H locs hP hD hS => ?_)
  have hP : va_P (DG G) clP1 [(h0, .inr (8, [.ref q_1, .ref q_2, .ref q_3, .ref q_4, .ref q_5, .ref q_6, .null, .null, .null, .int 0])), (q_1, .inl (cyA G 0, 32768, .inl (fun _ => 0))), (q_2, .inl (cyA G 0, 32768, .inl (fun _ => 0))), (q_3, .inl (cyA G 0, 32768, .inl (fun _ => 0))), (q_4, .inl (cyA G 0, 32768, .inl (fun _ => 0))), (q_5, .inl (cyA G 0, 32768, .inl (fun _ => 0))), (q_6, .inl (cyA G 0, 32768, .inl (fun _ => 0)))] H := hP
  have hD : va_D A [(h0, .inr (8, [.ref q_1, .ref q_2, .ref q_3, .ref q_4, .ref q_5, .ref q_6, .null, .null, .null, .int 0])), (q_1, .inl (cyA G 0, 32768, .inl (fun _ => 0))), (q_2, .inl (cyA G 0, 32768, .inl (fun _ => 0))), (q_3, .inl (cyA G 0, 32768, .inl (fun _ => 0))), (q_4, .inl (cyA G 0, 32768, .inl (fun _ => 0))), (q_5, .inl (cyA G 0, 32768, .inl (fun _ => 0))), (q_6, .inl (cyA G 0, 32768, .inl (fun _ => 0)))] := hD
  refine lv_aload_n hx hb dX9_init_52 rfl (lv_at hl 0 rfl) ?_
  refine lv_ldc (v := 32768) hx hb hown (hts _ wm54) dX9_init_53 ?_
  refine my_newa (atype := .int) (N' := 32768) (a0 := (32768, .inl (fun _ => 0))) (t1 := 0) hx hb (hts _ wm86) rfl rfl hK hP hD hS hA (fun _ => rfl) (by decide) (by decide) (Nat.le_of_ble_eq_true rfl) (Nat.le_of_ble_eq_true rfl) (Nat.le_of_ble_eq_true rfl) dX9_init_55 (fun q_7 H hP hD hS => ?_)
  have hP : va_P (DG G) clP1 [(h0, .inr (8, [.ref q_1, .ref q_2, .ref q_3, .ref q_4, .ref q_5, .ref q_6, .null, .null, .null, .int 0])), (q_1, .inl (cyA G 0, 32768, .inl (fun _ => 0))), (q_2, .inl (cyA G 0, 32768, .inl (fun _ => 0))), (q_3, .inl (cyA G 0, 32768, .inl (fun _ => 0))), (q_4, .inl (cyA G 0, 32768, .inl (fun _ => 0))), (q_5, .inl (cyA G 0, 32768, .inl (fun _ => 0))), (q_6, .inl (cyA G 0, 32768, .inl (fun _ => 0))), (q_7, .inl (cyA G 0, 32768, .inl (fun _ => 0)))] H := hP
  have hD : va_D A [(h0, .inr (8, [.ref q_1, .ref q_2, .ref q_3, .ref q_4, .ref q_5, .ref q_6, .null, .null, .null, .int 0])), (q_1, .inl (cyA G 0, 32768, .inl (fun _ => 0))), (q_2, .inl (cyA G 0, 32768, .inl (fun _ => 0))), (q_3, .inl (cyA G 0, 32768, .inl (fun _ => 0))), (q_4, .inl (cyA G 0, 32768, .inl (fun _ => 0))), (q_5, .inl (cyA G 0, 32768, .inl (fun _ => 0))), (q_6, .inl (cyA G 0, 32768, .inl (fun _ => 0))), (q_7, .inl (cyA G 0, 32768, .inl (fun _ => 0)))] := hD
  refine W.widen (k := 7) (n := 229376) (Nat.le_of_ble_eq_true rfl) (Nat.le_of_ble_eq_true rfl) ?_
  refine va_putF (D := DG G) (ci := 8) (v := .ref q_7) (ty := tyX9 6) (C := RX9) (T := TX9) (N := 10) hx hb hts inW_X9 tyX9 tyX9_ok nmX9 hown hK hP hD hS 0 rfl rfl 6 (by decide) (hts _ wm61) (fun _ h9 => h9) rfl hin rfl (by decide +kernel) rfl rfl (Nat.le_of_ble_eq_true rfl) dX9_init_57 (fun H locs hP hD hS => ?_)
  have hP : va_P (DG G) clP1 [(h0, .inr (8, [.ref q_1, .ref q_2, .ref q_3, .ref q_4, .ref q_5, .ref q_6, .ref q_7, .null, .null, .int 0])), (q_1, .inl (cyA G 0, 32768, .inl (fun _ => 0))), (q_2, .inl (cyA G 0, 32768, .inl (fun _ => 0))), (q_3, .inl (cyA G 0, 32768, .inl (fun _ => 0))), (q_4, .inl (cyA G 0, 32768, .inl (fun _ => 0))), (q_5, .inl (cyA G 0, 32768, .inl (fun _ => 0))), (q_6, .inl (cyA G 0, 32768, .inl (fun _ => 0))), (q_7, .inl (cyA G 0, 32768, .inl (fun _ => 0)))] H := hP
  have hD : va_D A [(h0, .inr (8, [.ref q_1, .ref q_2, .ref q_3, .ref q_4, .ref q_5, .ref q_6, .ref q_7, .null, .null, .int 0])), (q_1, .inl (cyA G 0, 32768, .inl (fun _ => 0))), (q_2, .inl (cyA G 0, 32768, .inl (fun _ => 0))), (q_3, .inl (cyA G 0, 32768, .inl (fun _ => 0))), (q_4, .inl (cyA G 0, 32768, .inl (fun _ => 0))), (q_5, .inl (cyA G 0, 32768, .inl (fun _ => 0))), (q_6, .inl (cyA G 0, 32768, .inl (fun _ => 0))), (q_7, .inl (cyA G 0, 32768, .inl (fun _ => 0)))] := hD
  refine lv_aload_n hx hb dX9_init_60 rfl (lv_at hl 0 rfl) ?_
  refine lv_ldc (v := 32768) hx hb hown (hts _ wm54) dX9_init_61 ?_
  refine my_newa (atype := .boolean) (N' := 32768) (a0 := (32768, .inl (fun _ => 0))) (t1 := 1) hx hb (hts _ wm87) rfl rfl hK hP hD hS hA (fun _ => rfl) (by decide) (by decide) (Nat.le_of_ble_eq_true rfl) (Nat.le_of_ble_eq_true rfl) (Nat.le_of_ble_eq_true rfl) dX9_init_63 (fun q_8 H hP hD hS => ?_)
  have hP : va_P (DG G) clP1 [(h0, .inr (8, [.ref q_1, .ref q_2, .ref q_3, .ref q_4, .ref q_5, .ref q_6, .ref q_7, .null, .null, .int 0])), (q_1, .inl (cyA G 0, 32768, .inl (fun _ => 0))), (q_2, .inl (cyA G 0, 32768, .inl (fun _ => 0))), (q_3, .inl (cyA G 0, 32768, .inl (fun _ => 0))), (q_4, .inl (cyA G 0, 32768, .inl (fun _ => 0))), (q_5, .inl (cyA G 0, 32768, .inl (fun _ => 0))), (q_6, .inl (cyA G 0, 32768, .inl (fun _ => 0))), (q_7, .inl (cyA G 0, 32768, .inl (fun _ => 0))), (q_8, .inl (cyA G 1, 32768, .inl (fun _ => 0)))] H := hP
  have hD : va_D A [(h0, .inr (8, [.ref q_1, .ref q_2, .ref q_3, .ref q_4, .ref q_5, .ref q_6, .ref q_7, .null, .null, .int 0])), (q_1, .inl (cyA G 0, 32768, .inl (fun _ => 0))), (q_2, .inl (cyA G 0, 32768, .inl (fun _ => 0))), (q_3, .inl (cyA G 0, 32768, .inl (fun _ => 0))), (q_4, .inl (cyA G 0, 32768, .inl (fun _ => 0))), (q_5, .inl (cyA G 0, 32768, .inl (fun _ => 0))), (q_6, .inl (cyA G 0, 32768, .inl (fun _ => 0))), (q_7, .inl (cyA G 0, 32768, .inl (fun _ => 0))), (q_8, .inl (cyA G 1, 32768, .inl (fun _ => 0)))] := hD
  refine W.widen (k := 8) (n := 262144) (Nat.le_of_ble_eq_true rfl) (Nat.le_of_ble_eq_true rfl) ?_
  refine va_putF (D := DG G) (ci := 8) (v := .ref q_8) (ty := tyX9 7) (C := RX9) (T := TX9) (N := 10) hx hb hts inW_X9 tyX9 tyX9_ok nmX9 hown hK hP hD hS 0 rfl rfl 7 (by decide) (hts _ wm62) (fun _ h9 => h9) rfl hin rfl (by decide +kernel) rfl rfl (Nat.le_of_ble_eq_true rfl) dX9_init_65 (fun H locs hP hD hS => ?_)
  have hP : va_P (DG G) clP1 [(h0, .inr (8, [.ref q_1, .ref q_2, .ref q_3, .ref q_4, .ref q_5, .ref q_6, .ref q_7, .ref q_8, .null, .int 0])), (q_1, .inl (cyA G 0, 32768, .inl (fun _ => 0))), (q_2, .inl (cyA G 0, 32768, .inl (fun _ => 0))), (q_3, .inl (cyA G 0, 32768, .inl (fun _ => 0))), (q_4, .inl (cyA G 0, 32768, .inl (fun _ => 0))), (q_5, .inl (cyA G 0, 32768, .inl (fun _ => 0))), (q_6, .inl (cyA G 0, 32768, .inl (fun _ => 0))), (q_7, .inl (cyA G 0, 32768, .inl (fun _ => 0))), (q_8, .inl (cyA G 1, 32768, .inl (fun _ => 0)))] H := hP
  have hD : va_D A [(h0, .inr (8, [.ref q_1, .ref q_2, .ref q_3, .ref q_4, .ref q_5, .ref q_6, .ref q_7, .ref q_8, .null, .int 0])), (q_1, .inl (cyA G 0, 32768, .inl (fun _ => 0))), (q_2, .inl (cyA G 0, 32768, .inl (fun _ => 0))), (q_3, .inl (cyA G 0, 32768, .inl (fun _ => 0))), (q_4, .inl (cyA G 0, 32768, .inl (fun _ => 0))), (q_5, .inl (cyA G 0, 32768, .inl (fun _ => 0))), (q_6, .inl (cyA G 0, 32768, .inl (fun _ => 0))), (q_7, .inl (cyA G 0, 32768, .inl (fun _ => 0))), (q_8, .inl (cyA G 1, 32768, .inl (fun _ => 0)))] := hD
  refine lv_aload_n hx hb dX9_init_68 rfl (lv_at hl 0 rfl) ?_
  refine lv_ldc (v := 32768) hx hb hown (hts _ wm54) dX9_init_69 ?_
  refine my_newa (atype := .int) (N' := 32768) (a0 := (32768, .inl (fun _ => 0))) (t1 := 0) hx hb (hts _ wm86) rfl rfl hK hP hD hS hA (fun _ => rfl) (by decide) (by decide) (Nat.le_of_ble_eq_true rfl) (Nat.le_of_ble_eq_true rfl) (Nat.le_of_ble_eq_true rfl) dX9_init_71 (fun q_9 H hP hD hS => ?_)
  have hP : va_P (DG G) clP1 [(h0, .inr (8, [.ref q_1, .ref q_2, .ref q_3, .ref q_4, .ref q_5, .ref q_6, .ref q_7, .ref q_8, .null, .int 0])), (q_1, .inl (cyA G 0, 32768, .inl (fun _ => 0))), (q_2, .inl (cyA G 0, 32768, .inl (fun _ => 0))), (q_3, .inl (cyA G 0, 32768, .inl (fun _ => 0))), (q_4, .inl (cyA G 0, 32768, .inl (fun _ => 0))), (q_5, .inl (cyA G 0, 32768, .inl (fun _ => 0))), (q_6, .inl (cyA G 0, 32768, .inl (fun _ => 0))), (q_7, .inl (cyA G 0, 32768, .inl (fun _ => 0))), (q_8, .inl (cyA G 1, 32768, .inl (fun _ => 0))), (q_9, .inl (cyA G 0, 32768, .inl (fun _ => 0)))] H := hP
  have hD : va_D A [(h0, .inr (8, [.ref q_1, .ref q_2, .ref q_3, .ref q_4, .ref q_5, .ref q_6, .ref q_7, .ref q_8, .null, .int 0])), (q_1, .inl (cyA G 0, 32768, .inl (fun _ => 0))), (q_2, .inl (cyA G 0, 32768, .inl (fun _ => 0))), (q_3, .inl (cyA G 0, 32768, .inl (fun _ => 0))), (q_4, .inl (cyA G 0, 32768, .inl (fun _ => 0))), (q_5, .inl (cyA G 0, 32768, .inl (fun _ => 0))), (q_6, .inl (cyA G 0, 32768, .inl (fun _ => 0))), (q_7, .inl (cyA G 0, 32768, .inl (fun _ => 0))), (q_8, .inl (cyA G 1, 32768, .inl (fun _ => 0))), (q_9, .inl (cyA G 0, 32768, .inl (fun _ => 0)))] := hD
  refine W.widen (k := 9) (n := 294912) (Nat.le_of_ble_eq_true rfl) (Nat.le_of_ble_eq_true rfl) ?_
  refine va_putF (D := DG G) (ci := 8) (v := .ref q_9) (ty := tyX9 8) (C := RX9) (T := TX9) (N := 10) hx hb hts inW_X9 tyX9 tyX9_ok nmX9 hown hK hP hD hS 0 rfl rfl 8 (by decide) (hts _ wm63) (fun _ h9 => h9) rfl hin rfl (by decide +kernel) rfl rfl (Nat.le_of_ble_eq_true rfl) dX9_init_73 (fun H locs hP hD hS => ?_)
  have hP : va_P (DG G) clP1 [(h0, .inr (8, [.ref q_1, .ref q_2, .ref q_3, .ref q_4, .ref q_5, .ref q_6, .ref q_7, .ref q_8, .ref q_9, .int 0])), (q_1, .inl (cyA G 0, 32768, .inl (fun _ => 0))), (q_2, .inl (cyA G 0, 32768, .inl (fun _ => 0))), (q_3, .inl (cyA G 0, 32768, .inl (fun _ => 0))), (q_4, .inl (cyA G 0, 32768, .inl (fun _ => 0))), (q_5, .inl (cyA G 0, 32768, .inl (fun _ => 0))), (q_6, .inl (cyA G 0, 32768, .inl (fun _ => 0))), (q_7, .inl (cyA G 0, 32768, .inl (fun _ => 0))), (q_8, .inl (cyA G 1, 32768, .inl (fun _ => 0))), (q_9, .inl (cyA G 0, 32768, .inl (fun _ => 0)))] H := hP
  have hD : va_D A [(h0, .inr (8, [.ref q_1, .ref q_2, .ref q_3, .ref q_4, .ref q_5, .ref q_6, .ref q_7, .ref q_8, .ref q_9, .int 0])), (q_1, .inl (cyA G 0, 32768, .inl (fun _ => 0))), (q_2, .inl (cyA G 0, 32768, .inl (fun _ => 0))), (q_3, .inl (cyA G 0, 32768, .inl (fun _ => 0))), (q_4, .inl (cyA G 0, 32768, .inl (fun _ => 0))), (q_5, .inl (cyA G 0, 32768, .inl (fun _ => 0))), (q_6, .inl (cyA G 0, 32768, .inl (fun _ => 0))), (q_7, .inl (cyA G 0, 32768, .inl (fun _ => 0))), (q_8, .inl (cyA G 1, 32768, .inl (fun _ => 0))), (q_9, .inl (cyA G 0, 32768, .inl (fun _ => 0)))] := hD
  have hP9 := hP.sub (ws' := [(h0, .inr (8, [.ref q_1, .ref q_2, .ref q_3, .ref q_4, .ref q_5, .ref q_6, .ref q_7, .ref q_8, .ref q_9, .int 0])), (q_1, .inl (cyA G 0, 32768, .inl (fun _ => 0))), (q_2, .inl (cyA G 0, 32768, .inl (fun _ => 0))), (q_3, .inl (cyA G 0, 32768, .inl (fun _ => 0))), (q_4, .inl (cyA G 0, 32768, .inl (fun _ => 0))), (q_5, .inl (cyA G 0, 32768, .inl (fun _ => 0))), (q_6, .inl (cyA G 0, 32768, .inl (fun _ => 0))), (q_7, .inl (cyA G 0, 32768, .inl (fun _ => 0))), (q_8, .inl (cyA G 1, 32768, .inl (fun _ => 0)))]) [0, 1, 2, 3, 4, 5, 6, 7, 8] rfl
  have hD9 := hD.sub (ws' := [(h0, .inr (8, [.ref q_1, .ref q_2, .ref q_3, .ref q_4, .ref q_5, .ref q_6, .ref q_7, .ref q_8, .ref q_9, .int 0])), (q_1, .inl (cyA G 0, 32768, .inl (fun _ => 0))), (q_2, .inl (cyA G 0, 32768, .inl (fun _ => 0))), (q_3, .inl (cyA G 0, 32768, .inl (fun _ => 0))), (q_4, .inl (cyA G 0, 32768, .inl (fun _ => 0))), (q_5, .inl (cyA G 0, 32768, .inl (fun _ => 0))), (q_6, .inl (cyA G 0, 32768, .inl (fun _ => 0))), (q_7, .inl (cyA G 0, 32768, .inl (fun _ => 0))), (q_8, .inl (cyA G 1, 32768, .inl (fun _ => 0)))]) [0, 1, 2, 3, 4, 5, 6, 7, 8] (by decide) rfl
  refine W.widen (k := 9) (n := 294912) (Nat.le_of_ble_eq_true rfl) (Nat.le_of_ble_eq_true rfl) ?_
  exact W.vret hx hb hr (fun t ht hW => ⟨⟨(), rfl, trivial, ⟨q_1, q_2, q_3, q_4, q_5, q_6, q_7, q_8, q_9, by rw [ht]; exact hP9, hD9⟩⟩, hS.F ht⟩) hS.2.2 dX9_init_76 hlocks
set_option maxHeartbeats 4000000 in
set_option maxRecDepth 100000 in
theorem k_X1_init (l : Launch) (hfl : l.stackTraces = false) (G : GC) (h0 : Nat) (t1 : Nat) (sz : Nat) : Met l yX1_init (Cond.code yX1_init cX1_init 2 none :: W0) ({ frames := 1, cells := 1, slots := 80, locals := 12 }) (va_Pc [.ref h0, .ref t1] (WD G [(h0, .inr (3, [.null, .null, .int 0]))] sz)) (va_Qv (fun _ : Unit => True) (fun _ t => PW G (va_A [(h0, .inr (3, [.null, .null, .int 0]))] sz) [] t) (va_A [(h0, .inr (3, [.null, .null, .int 0]))] sz)) 1 80 (va_A [(h0, .inr (3, [.null, .null, .int 0]))] sz) := by
  refine Met.ofW (cc := cX1_init) (maxL := 2) (ret := none) (by decide) rfl ?_
  intro p e s m args below meth c s₁ B hml hv
  obtain ⟨rfl, hsz, hP, hK, hD0, hE⟩ := hv
  have hx := B.exec
  have hb := B.bytes
  have hr := B.returns
  have hts := w0_tail B.pre
  have hown : s.vm.findClass RX1 = some m.cls := findClass_of_methodNamed B.named
  have hlocks := B.notSynchronized
  have hin : meth.name = "<init>" := (name_of_methodNamed B.named B.method).1
  subst hsz
  have hD := hD0.self (sz := s.heap.size)
  generalize hAe : va_A [(h0, .inr (3, [.null, .null, .int 0]))] s.heap.size = A at hD hE ⊢
  have hA : ∀ q : Nat, s.heap.size ≤ q → A q := fun q h => by rw [← hAe]; exact Or.inr h
  have hS : va_S A s.heap s.heap [] := va_S.rf
  obtain ⟨H, hHe⟩ : ∃ H : Heap, H = s.heap := ⟨_, rfl⟩
  have hP : va_P (DG G) clP1 [(h0, .inr (3, [.null, .null, .int 0]))] H := by rw [hHe]; exact hP
  have hS : va_S A s.heap H [] := by rw [hHe]; exact hS
  have hl := lv_entry ([.ref h0, .ref t1]) (n := 2) (Nat.le_of_ble_eq_true rfl)
  rw [lg_entry_eq, ← hHe]
  generalize (lg_sl ([.ref h0, .ref t1]) ++ List.replicate (2 - (lg_sl ([.ref h0, .ref t1])).length) Slot.unset).toArray = ls at hl ⊢
  have hl : lv_has ls 2 [(0, .ref h0), (1, .ref t1)] := hl
  refine lv_aload_n hx hb dX1_init_0 rfl (lv_at hl 0 rfl) ?_
  refine W.objInit hx hb hown (hts _ wm93) (hts _ wm46) (hts _ wm47) rfl (by rw [hml]; exact hl.1) rfl dX1_init_1 (Nat.le_of_ble_eq_true rfl) (Nat.le_of_ble_eq_true rfl) ?_
  refine W.eq (g2 := F0 m 4 ls []) rfl ?_
  refine lv_aload_n hx hb dX1_init_4 rfl (lv_at hl 0 rfl) ?_
  refine lv_bipush (v := 80) hx hb dX1_init_5 (by decide) ?_
  refine my_newa (atype := .int) (N' := 80) (a0 := (80, .inl (fun _ => 0))) (t1 := 0) hx hb (hts _ wm86) rfl rfl hK hP hD hS hA (fun _ => rfl) (by decide) (by decide) (Nat.le_of_ble_eq_true rfl) (Nat.le_of_ble_eq_true rfl) (Nat.le_of_ble_eq_true rfl) dX1_init_7 (fun q_1 H hP hD hS => ?_)
  have hP : va_P (DG G) clP1 [(h0, .inr (3, [.null, .null, .int 0])), (q_1, .inl (cyA G 0, 80, .inl (fun _ => 0)))] H := hP
  have hD : va_D A [(h0, .inr (3, [.null, .null, .int 0])), (q_1, .inl (cyA G 0, 80, .inl (fun _ => 0)))] := hD
  refine W.widen (k := 1) (n := 80) (Nat.le_of_ble_eq_true rfl) (Nat.le_of_ble_eq_true rfl) ?_
  refine va_putF (D := DG G) (ci := 3) (v := .ref q_1) (ty := tyX1 1) (C := RX1) (T := TX1) (N := 3) hx hb hts inW_X1 tyX1 tyX1_ok nmX1 hown hK hP hD hS 0 rfl rfl 1 (by decide) (hts _ wm95) (fun _ h9 => h9) rfl hin rfl (by decide +kernel) rfl rfl (Nat.le_of_ble_eq_true rfl) dX1_init_9 (fun H locs hP hD hS => ?_)
  have hP : va_P (DG G) clP1 [(h0, .inr (3, [.null, .ref q_1, .int 0])), (q_1, .inl (cyA G 0, 80, .inl (fun _ => 0)))] H := hP
  have hD : va_D A [(h0, .inr (3, [.null, .ref q_1, .int 0])), (q_1, .inl (cyA G 0, 80, .inl (fun _ => 0)))] := hD
  refine lv_aload_n hx hb dX1_init_12 rfl (lv_at hl 0 rfl) ?_
  refine lv_aload_n hx hb dX1_init_13 rfl (lv_at hl 1 rfl) ?_
  refine va_putF (D := DG G) (ci := 3) (v := .ref t1) (ty := tyX1 0) (C := RX1) (T := TX1) (N := 3) hx hb hts inW_X1 tyX1 tyX1_ok nmX1 hown hK hP hD hS 0 rfl rfl 0 (by decide) (hts _ wm94) (fun _ h9 => h9) rfl hin rfl (by decide +kernel) rfl rfl (Nat.le_of_ble_eq_true rfl) dX1_init_14 (fun H locs hP hD hS => ?_)
  have hP : va_P (DG G) clP1 [(h0, .inr (3, [.ref t1, .ref q_1, .int 0])), (q_1, .inl (cyA G 0, 80, .inl (fun _ => 0)))] H := hP
  have hD : va_D A [(h0, .inr (3, [.ref t1, .ref q_1, .int 0])), (q_1, .inl (cyA G 0, 80, .inl (fun _ => 0)))] := hD
  have hP9 := hP.sub (ws' := []) [] rfl
  have hD9 := hD.sub (ws' := []) [] (by decide) rfl
  refine W.widen (k := 1) (n := 80) (Nat.le_of_ble_eq_true rfl) (Nat.le_of_ble_eq_true rfl) ?_
  exact W.vret hx hb hr (fun t ht hW => ⟨⟨(), rfl, trivial, ⟨by rw [ht]; exact hP9, hD9⟩⟩, hS.F ht⟩) hS.2.2 dX1_init_17 hlocks
set_option maxHeartbeats 4000000 in
set_option maxRecDepth 100000 in
theorem k_X7_init (l : Launch) (hfl : l.stackTraces = false) (G : GC) (h0 : Nat) (t1 : Nat) (sz : Nat) : Met l yX7_init (Cond.code yX7_init cX7_init 2 none :: W0) ({ frames := 1, cells := 7, slots := 124, locals := 12 }) (va_Pc [.ref h0, .ref t1] (WD G [(h0, .inr (6, [.null, .null, .null, .null, .null, .null, .null, .null, .int 0, .int 0]))] sz)) (va_Qv (fun _ : Unit => True) (fun _ t => ∃ (zz0 : Nat) (zz1 : Nat) (zz2 : Nat) (zz3 : Nat) (zz4 : Nat) (zz5 : Nat) (zz6 : Nat), PW G (va_A [(h0, .inr (6, [.null, .null, .null, .null, .null, .null, .null, .null, .int 0, .int 0]))] sz) [(h0, .inr (6, [.ref t1, .ref zz0, .ref zz1, .ref zz2, .ref zz3, .ref zz4, .ref zz5, .ref zz6, .int 0, .int 0]))] t) (va_A [(h0, .inr (6, [.null, .null, .null, .null, .null, .null, .null, .null, .int 0, .int 0]))] sz)) 7 124 (va_A [(h0, .inr (6, [.null, .null, .null, .null, .null, .null, .null, .null, .int 0, .int 0]))] sz) := by
  refine Met.ofW (cc := cX7_init) (maxL := 2) (ret := none) (by decide) rfl ?_
  intro p e s m args below meth c s₁ B hml hv
  obtain ⟨rfl, hsz, hP, hK, hD0, hE⟩ := hv
  have hx := B.exec
  have hb := B.bytes
  have hr := B.returns
  have hts := w0_tail B.pre
  have hown : s.vm.findClass RX7 = some m.cls := findClass_of_methodNamed B.named
  have hlocks := B.notSynchronized
  have hin : meth.name = "<init>" := (name_of_methodNamed B.named B.method).1
  subst hsz
  have hD := hD0.self (sz := s.heap.size)
  generalize hAe : va_A [(h0, .inr (6, [.null, .null, .null, .null, .null, .null, .null, .null, .int 0, .int 0]))] s.heap.size = A at hD hE ⊢
  have hA : ∀ q : Nat, s.heap.size ≤ q → A q := fun q h => by rw [← hAe]; exact Or.inr h
  have hS : va_S A s.heap s.heap [] := va_S.rf
  obtain ⟨H, hHe⟩ : ∃ H : Heap, H = s.heap := ⟨_, rfl⟩
  have hP : va_P (DG G) clP1 [(h0, .inr (6, [.null, .null, .null, .null, .null, .null, .null, .null, .int 0, .int 0]))] H := by rw [hHe]; exact hP
  have hS : va_S A s.heap H [] := by rw [hHe]; exact hS
  have hl := lv_entry ([.ref h0, .ref t1]) (n := 2) (Nat.le_of_ble_eq_true rfl)
  rw [lg_entry_eq, ← hHe]
  generalize (lg_sl ([.ref h0, .ref t1]) ++ List.replicate (2 - (lg_sl ([.ref h0, .ref t1])).length) Slot.unset).toArray = ls at hl ⊢
  have hl : lv_has ls 2 [(0, .ref h0), (1, .ref t1)] := hl
  refine lv_aload_n hx hb dX7_init_0 rfl (lv_at hl 0 rfl) ?_
  refine W.objInit hx hb hown (hts _ wm109) (hts _ wm46) (hts _ wm47) rfl (by rw [hml]; exact hl.1) rfl dX7_init_1 (Nat.le_of_ble_eq_true rfl) (Nat.le_of_ble_eq_true rfl) ?_
  refine W.eq (g2 := F0 m 4 ls []) rfl ?_
  refine lv_aload_n hx hb dX7_init_4 rfl (lv_at hl 0 rfl) ?_
  refine lv_bipush (v := 6) hx hb dX7_init_5 (by decide) ?_
  refine my_newa (atype := .boolean) (N' := 6) (a0 := (6, .inl (fun _ => 0))) (t1 := 1) hx hb (hts _ wm87) rfl rfl hK hP hD hS hA (fun _ => rfl) (by decide) (by decide) (Nat.le_of_ble_eq_true rfl) (Nat.le_of_ble_eq_true rfl) (Nat.le_of_ble_eq_true rfl) dX7_init_7 (fun q_1 H hP hD hS => ?_)
  have hP : va_P (DG G) clP1 [(h0, .inr (6, [.null, .null, .null, .null, .null, .null, .null, .null, .int 0, .int 0])), (q_1, .inl (cyA G 1, 6, .inl (fun _ => 0)))] H := hP
  have hD : va_D A [(h0, .inr (6, [.null, .null, .null, .null, .null, .null, .null, .null, .int 0, .int 0])), (q_1, .inl (cyA G 1, 6, .inl (fun _ => 0)))] := hD
  refine W.widen (k := 1) (n := 6) (Nat.le_of_ble_eq_true rfl) (Nat.le_of_ble_eq_true rfl) ?_
  refine va_putF (D := DG G) (ci := 6) (v := .ref q_1) (ty := tyX7 1) (C := RX7) (T := TX7) (N := 10) hx hb hts inW_X7 tyX7 tyX7_ok nmX7 hown hK hP hD hS 0 rfl rfl 1 (by decide) (hts _ wm111) (fun _ h9 => h9) rfl hin rfl (by decide +kernel) rfl rfl (Nat.le_of_ble_eq_true rfl) dX7_init_9 (fun H locs hP hD hS => ?_)
  have hP : va_P (DG G) clP1 [(h0, .inr (6, [.null, .ref q_1, .null, .null, .null, .null, .null, .null, .int 0, .int 0])), (q_1, .inl (cyA G 1, 6, .inl (fun _ => 0)))] H := hP
  have hD : va_D A [(h0, .inr (6, [.null, .ref q_1, .null, .null, .null, .null, .null, .null, .int 0, .int 0])), (q_1, .inl (cyA G 1, 6, .inl (fun _ => 0)))] := hD
  refine lv_aload_n hx hb dX7_init_12 rfl (lv_at hl 0 rfl) ?_
  refine lv_bipush (v := 16) hx hb dX7_init_13 (by decide) ?_
  refine my_newa (atype := .int) (N' := 16) (a0 := (16, .inl (fun _ => 0))) (t1 := 0) hx hb (hts _ wm86) rfl rfl hK hP hD hS hA (fun _ => rfl) (by decide) (by decide) (Nat.le_of_ble_eq_true rfl) (Nat.le_of_ble_eq_true rfl) (Nat.le_of_ble_eq_true rfl) dX7_init_15 (fun q_2 H hP hD hS => ?_)
  have hP : va_P (DG G) clP1 [(h0, .inr (6, [.null, .ref q_1, .null, .null, .null, .null, .null, .null, .int 0, .int 0])), (q_1, .inl (cyA G 1, 6, .inl (fun _ => 0))), (q_2, .inl (cyA G 0, 16, .inl (fun _ => 0)))] H := hP
  have hD : va_D A [(h0, .inr (6, [.null, .ref q_1, .null, .null, .null, .null, .null, .null, .int 0, .int 0])), (q_1, .inl (cyA G 1, 6, .inl (fun _ => 0))), (q_2, .inl (cyA G 0, 16, .inl (fun _ => 0)))] := hD
  refine W.widen (k := 2) (n := 22) (Nat.le_of_ble_eq_true rfl) (Nat.le_of_ble_eq_true rfl) ?_
  refine va_putF (D := DG G) (ci := 6) (v := .ref q_2) (ty := tyX7 2) (C := RX7) (T := TX7) (N := 10) hx hb hts inW_X7 tyX7 tyX7_ok nmX7 hown hK hP hD hS 0 rfl rfl 2 (by decide) (hts _ wm112) (fun _ h9 => h9) rfl hin rfl (by decide +kernel) rfl rfl (Nat.le_of_ble_eq_true rfl) dX7_init_17 (fun H locs hP hD hS => ?_)
  have hP : va_P (DG G) clP1 [(h0, .inr (6, [.null, .ref q_1, .ref q_2, .null, .null, .null, .null, .null, .int 0, .int 0])), (q_1, .inl (cyA G 1, 6, .inl (fun _ => 0))), (q_2, .inl (cyA G 0, 16, .inl (fun _ => 0)))] H := hP
  have hD : va_D A [(h0, .inr (6, [.null, .ref q_1, .ref q_2, .null, .null, .null, .null, .null, .int 0, .int 0])), (q_1, .inl (cyA G 1, 6, .inl (fun _ => 0))), (q_2, .inl (cyA G 0, 16, .inl (fun _ => 0)))] := hD
  refine lv_aload_n hx hb dX7_init_20 rfl (lv_at hl 0 rfl) ?_
  refine lv_bipush (v := 16) hx hb dX7_init_21 (by decide) ?_
  refine my_newa (atype := .int) (N' := 16) (a0 := (16, .inl (fun _ => 0))) (t1 := 0) hx hb (hts _ wm86) rfl rfl hK hP hD hS hA (fun _ => rfl) (by decide) (by decide) (Nat.le_of_ble_eq_true rfl) (Nat.le_of_ble_eq_true rfl) (Nat.le_of_ble_eq_true rfl) dX7_init_23 (fun q_3 H hP hD hS => ?_)
  have hP : va_P (DG G) clP1 [(h0, .inr (6, [.null, .ref q_1, .ref q_2, .null, .null, .null, .null, .null, .int 0, .int 0])), (q_1, .inl (cyA G 1, 6, .inl (fun _ => 0))), (q_2, .inl (cyA G 0, 16, .inl (fun _ => 0))), (q_3, .inl (cyA G 0, 16, .inl (fun _ => 0)))] H := hP
  have hD : va_D A [(h0, .inr (6, [.null, .ref q_1, .ref q_2, .null, .null, .null, .null, .null, .int 0, .int 0])), (q_1, .inl (cyA G 1, 6, .inl (fun _ => 0))), (q_2, .inl (cyA G 0, 16, .inl (fun _ => 0))), (q_3, .inl (cyA G 0, 16, .inl (fun _ => 0)))] := hD
  refine W.widen (k := 3) (n := 38) (Nat.le_of_ble_eq_true rfl) (Nat.le_of_ble_eq_true rfl) ?_
  refine va_putF (D := DG G) (ci := 6) (v := .ref q_3) (ty := tyX7 3) (C := RX7) (T := TX7) (N := 10) hx hb hts inW_X7 tyX7 tyX7_ok nmX7 hown hK hP hD hS 0 rfl rfl 3 (by decide) (hts _ wm113) (fun _ h9 => h9) rfl hin rfl (by decide +kernel) rfl rfl (Nat.le_of_ble_eq_true rfl) dX7_init_25 (fun H locs hP hD hS => ?_)
  have hP : va_P (DG G) clP1 [(h0, .inr (6, [.null, .ref q_1, .ref q_2, .ref q_3, .null, .null, .null, .null, .int 0, .int 0])), (q_1, .inl (cyA G 1, 6, .inl (fun _ => 0))), (q_2, .inl (cyA G 0, 16, .inl (fun _ => 0))), (q_3, .inl (cyA G 0, 16, .inl (fun _ => 0)))] H := hP
  have hD : va_D A [(h0, .inr (6, [.null, .ref q_1, .ref q_2, .ref q_3, .null, .null, .null, .null, .int 0, .int 0])), (q_1, .inl (cyA G 1, 6, .inl (fun _ => 0))), (q_2, .inl (cyA G 0, 16, .inl (fun _ => 0))), (q_3, .inl (cyA G 0, 16, .inl (fun _ => 0)))] := hD
  refine lv_aload_n hx hb dX7_init_28 rfl (lv_at hl 0 rfl) ?_
  refine lv_bipush (v := 48) hx hb dX7_init_29 (by decide) ?_
  refine my_newa (atype := .int) (N' := 48) (a0 := (48, .inl (fun _ => 0))) (t1 := 0) hx hb (hts _ wm86) rfl rfl hK hP hD hS hA (fun _ => rfl) (by decide) (by decide) (Nat.le_of_ble_eq_true rfl) (Nat.le_of_ble_eq_true rfl) (Nat.le_of_ble_eq_true rfl) dX7_init_31 (fun q_4 H hP hD hS => ?_)
  have hP : va_P (DG G) clP1 [(h0, .inr (6, [.null, .ref q_1, .ref q_2, .ref q_3, .null, .null, .null, .null, .int 0, .int 0])), (q_1, .inl (cyA G 1, 6, .inl (fun _ => 0))), (q_2, .inl (cyA G 0, 16, .inl (fun _ => 0))), (q_3, .inl (cyA G 0, 16, .inl (fun _ => 0))), (q_4, .inl (cyA G 0, 48, .inl (fun _ => 0)))] H := hP
  have hD : va_D A [(h0, .inr (6, [.null, .ref q_1, .ref q_2, .ref q_3, .null, .null, .null, .null, .int 0, .int 0])), (q_1, .inl (cyA G 1, 6, .inl (fun _ => 0))), (q_2, .inl (cyA G 0, 16, .inl (fun _ => 0))), (q_3, .inl (cyA G 0, 16, .inl (fun _ => 0))), (q_4, .inl (cyA G 0, 48, .inl (fun _ => 0)))] := hD
  refine W.widen (k := 4) (n := 86) (Nat.le_of_ble_eq_true rfl) (Nat.le_of_ble_eq_true rfl) ?_
  refine va_putF (D := DG G) (ci := 6) (v := .ref q_4) (ty := tyX7 4) (C := RX7) (T := TX7) (N := 10) hx hb hts inW_X7 tyX7 tyX7_ok nmX7 hown hK hP hD hS 0 rfl rfl 4 (by decide) (hts _ wm114) (fun _ h9 => h9) rfl hin rfl (by decide +kernel) rfl rfl (Nat.le_of_ble_eq_true rfl) dX7_init_33 (fun H locs hP hD hS => ?_)
  have hP : va_P (DG G) clP1 [(h0, .inr (6, [.null, .ref q_1, .ref q_2, .ref q_3, .ref q_4, .null, .null, .null, .int 0, .int 0])), (q_1, .inl (cyA G 1, 6, .inl (fun _ => 0))), (q_2, .inl (cyA G 0, 16, .inl (fun _ => 0))), (q_3, .inl (cyA G 0, 16, .inl (fun _ => 0))), (q_4, .inl (cyA G 0, 48, .inl (fun _ => 0)))] H := hP
  have hD : va_D A [(h0, .inr (6, [.null, .ref q_1, .ref q_2, .ref q_3, .ref q_4, .null, .null, .null, .int 0, .int 0])), (q_1, .inl (cyA G 1, 6, .inl (fun _ => 0))), (q_2, .inl (cyA G 0, 16, .inl (fun _ => 0))), (q_3, .inl (cyA G 0, 16, .inl (fun _ => 0))), (q_4, .inl (cyA G 0, 48, .inl (fun _ => 0)))] := hD
  refine lv_aload_n hx hb dX7_init_36 rfl (lv_at hl 0 rfl) ?_
  refine lv_bipush (v := 16) hx hb dX7_init_37 (by decide) ?_
  refine my_newa (atype := .int) (N' := 16) (a0 := (16, .inl (fun _ => 0))) (t1 := 0) hx hb (hts _ wm86) rfl rfl hK hP hD hS hA (fun _ => rfl) (by decide) (by decide) (Nat.le_of_ble_eq_true rfl) (Nat.le_of_ble_eq_true rfl) (Nat.le_of_ble_eq_true rfl) dX7_init_39 (fun q_5 H hP hD hS => ?_)
  have hP : va_P (DG G) clP1 [(h0, .inr (6, [.null, .ref q_1, .ref q_2, .ref q_3, .ref q_4, .null, .null, .null, .int 0, .int 0])), (q_1, .inl (cyA G 1, 6, .inl (fun _ => 0))), (q_2, .inl (cyA G 0, 16, .inl (fun _ => 0))), (q_3, .inl (cyA G 0, 16, .inl (fun _ => 0))), (q_4, .inl (cyA G 0, 48, .inl (fun _ => 0))), (q_5, .inl (cyA G 0, 16, .inl (fun _ => 0)))] H := hP
  have hD : va_D A [(h0, .inr (6, [.null, .ref q_1, .ref q_2, .ref q_3, .ref q_4, .null, .null, .null, .int 0, .int 0])), (q_1, .inl (cyA G 1, 6, .inl (fun _ => 0))), (q_2, .inl (cyA G 0, 16, .inl (fun _ => 0))), (q_3, .inl (cyA G 0, 16, .inl (fun _ => 0))), (q_4, .inl (cyA G 0, 48, .inl (fun _ => 0))), (q_5, .inl (cyA G 0, 16, .inl (fun _ => 0)))] := hD
  refine W.widen (k := 5) (n := 102) (Nat.le_of_ble_eq_true rfl) (Nat.le_of_ble_eq_true rfl) ?_
  refine va_putF (D := DG G) (ci := 6) (v := .ref q_5) (ty := tyX7 5) (C := RX7) (T := TX7) (N := 10) hx hb hts inW_X7 tyX7 tyX7_ok nmX7 hown hK hP hD hS 0 rfl rfl 5 (by decide) (hts _ wm115) (fun _ h9 => h9) rfl hin rfl (by decide +kernel) rfl rfl (Nat.le_of_ble_eq_true rfl) dX7_init_41 (fun H locs hP hD hS => ?_)
  have hP : va_P (DG G) clP1 [(h0, .inr (6, [.null, .ref q_1, .ref q_2, .ref q_3, .ref q_4, .ref q_5, .null, .null, .int 0, .int 0])), (q_1, .inl (cyA G 1, 6, .inl (fun _ => 0))), (q_2, .inl (cyA G 0, 16, .inl (fun _ => 0))), (q_3, .inl (cyA G 0, 16, .inl (fun _ => 0))), (q_4, .inl (cyA G 0, 48, .inl (fun _ => 0))), (q_5, .inl (cyA G 0, 16, .inl (fun _ => 0)))] H := hP
  have hD : va_D A [(h0, .inr (6, [.null, .ref q_1, .ref q_2, .ref q_3, .ref q_4, .ref q_5, .null, .null, .int 0, .int 0])), (q_1, .inl (cyA G 1, 6, .inl (fun _ => 0))), (q_2, .inl (cyA G 0, 16, .inl (fun _ => 0))), (q_3, .inl (cyA G 0, 16, .inl (fun _ => 0))), (q_4, .inl (cyA G 0, 48, .inl (fun _ => 0))), (q_5, .inl (cyA G 0, 16, .inl (fun _ => 0)))] := hD
  refine lv_aload_n hx hb dX7_init_44 rfl (lv_at hl 0 rfl) ?_
  refine lv_bipush (v := 16) hx hb dX7_init_45 (by decide) ?_
  refine my_newa (atype := .int) (N' := 16) (a0 := (16, .inl (fun _ => 0))) (t1 := 0) hx hb (hts _ wm86) rfl rfl hK hP hD hS hA (fun _ => rfl) (by decide) (by decide) (Nat.le_of_ble_eq_true rfl) (Nat.le_of_ble_eq_true rfl) (Nat.le_of_ble_eq_true rfl) dX7_init_47 (fun q_6 H hP hD hS => ?_)
  have hP : va_P (DG G) clP1 [(h0, .inr (6, [.null, .ref q_1, .ref q_2, .ref q_3, .ref q_4, .ref q_5, .null, .null, .int 0, .int 0])), (q_1, .inl (cyA G 1, 6, .inl (fun _ => 0))), (q_2, .inl (cyA G 0, 16, .inl (fun _ => 0))), (q_3, .inl (cyA G 0, 16, .inl (fun _ => 0))), (q_4, .inl (cyA G 0, 48, .inl (fun _ => 0))), (q_5, .inl (cyA G 0, 16, .inl (fun _ => 0))), (q_6, .inl (cyA G 0, 16, .inl (fun _ => 0)))] H := hP
  have hD : va_D A [(h0, .inr (6, [.null, .ref q_1, .ref q_2, .ref q_3, .ref q_4, .ref q_5, .null, .null, .int 0, .int 0])), (q_1, .inl (cyA G 1, 6, .inl (fun _ => 0))), (q_2, .inl (cyA G 0, 16, .inl (fun _ => 0))), (q_3, .inl (cyA G 0, 16, .inl (fun _ => 0))), (q_4, .inl (cyA G 0, 48, .inl (fun _ => 0))), (q_5, .inl (cyA G 0, 16, .inl (fun _ => 0))), (q_6, .inl (cyA G 0, 16, .inl (fun _ => 0)))] := hD
  refine W.widen (k := 6) (n := 118) (Nat.le_of_ble_eq_true rfl) (Nat.le_of_ble_eq_true rfl) ?_
  refine va_putF (D := DG G) (ci := 6) (v := .ref q_6) (ty := tyX7 6) (C := RX7) (T := TX7) (N := 10) hx hb hts inW_X7 tyX7 tyX7_ok nmX7 hown hK hP hD hS 0 rfl rfl 6 (by decide) (hts _ wm116) (fun _ h9 => h9) rfl hin rfl (by decide +kernel) rfl rfl (Nat.le_of_ble_eq_true rfl) dX7_init_49 (fun H locs hP hD hS => ?_)
  have hP : va_P (DG G) clP1 [(h0, .inr (6, [.null, .ref q_1, .ref q_2, .ref q_3, .ref q_4, .ref q_5, .ref q_6, .null, .int 0, .int 0])), (q_1, .inl (cyA G 1, 6, .inl (fun _ => 0))), (q_2, .inl (cyA G 0, 16, .inl (fun _ => 0))), (q_3, .inl (cyA G 0, 16, .inl (fun _ => 0))), (q_4, .inl (cyA G 0, 48, .inl (fun _ => 0))), (q_5, .inl (cyA G 0, 16, .inl (fun _ => 0))), (q_6, .inl (cyA G 0, 16, .inl (fun _ => 0)))] H := hP
  have hD : va_D A [(h0, .inr (6, [.null, .ref q_1, .ref q_2, .ref q_3, .ref q_4, .ref q_5, .ref q_6, .null, .int 0, .int 0])), (q_1, .inl (cyA G 1, 6, .inl (fun _ => 0))), (q_2, .inl (cyA G 0, 16, .inl (fun _ => 0))), (q_3, .inl (cyA G 0, 16, .inl (fun _ => 0))), (q_4, .inl (cyA G 0, 48, .inl (fun _ => 0))), (q_5, .inl (cyA G 0, 16, .inl (fun _ => 0))), (q_6, .inl (cyA G 0, 16, .inl (fun _ => 0)))] := hD
  refine lv_aload_n hx hb dX7_init_52 rfl (lv_at hl 0 rfl) ?_
  refine lv_bipush (v := 6) hx hb dX7_init_53 (by decide) ?_
  refine my_newa (atype := .int) (N' := 6) (a0 := (6, .inl (fun _ => 0))) (t1 := 0) hx hb (hts _ wm86) rfl rfl hK hP hD hS hA (fun _ => rfl) (by decide) (by decide) (Nat.le_of_ble_eq_true rfl) (Nat.le_of_ble_eq_true rfl) (Nat.le_of_ble_eq_true rfl) dX7_init_55 (fun q_7 H hP hD hS => ?_)
  have hP : va_P (DG G) clP1 [(h0, .inr (6, [.null, .ref q_1, .ref q_2, .ref q_3, .ref q_4, .ref q_5, .ref q_6, .null, .int 0, .int 0])), (q_1, .inl (cyA G 1, 6, .inl (fun _ => 0))), (q_2, .inl (cyA G 0, 16, .inl (fun _ => 0))), (q_3, .inl (cyA G 0, 16, .inl (fun _ => 0))), (q_4, .inl (cyA G 0, 48, .inl (fun _ => 0))), (q_5, .inl (cyA G 0, 16, .inl (fun _ => 0))), (q_6, .inl (cyA G 0, 16, .inl (fun _ => 0))), (q_7, .inl (cyA G 0, 6, .inl (fun _ => 0)))] H := hP
  have hD : va_D A [(h0, .inr (6, [.null, .ref q_1, .ref q_2, .ref q_3, .ref q_4, .ref q_5, .ref q_6, .null, .int 0, .int 0])), (q_1, .inl (cyA G 1, 6, .inl (fun _ => 0))), (q_2, .inl (cyA G 0, 16, .inl (fun _ => 0))), (q_3, .inl (cyA G 0, 16, .inl (fun _ => 0))), (q_4, .inl (cyA G 0, 48, .inl (fun _ => 0))), (q_5, .inl (cyA G 0, 16, .inl (fun _ => 0))), (q_6, .inl (cyA G 0, 16, .inl (fun _ => 0))), (q_7, .inl (cyA G 0, 6, .inl (fun _ => 0)))] := hD
  refine W.widen (k := 7) (n := 124) (Nat.le_of_ble_eq_true rfl) (Nat.le_of_ble_eq_true rfl) ?_
  refine va_putF (D := DG G) (ci := 6) (v := .ref q_7) (ty := tyX7 7) (C := RX7) (T := TX7) (N := 10) hx hb hts inW_X7 tyX7 tyX7_ok nmX7 hown hK hP hD hS 0 rfl rfl 7 (by decide) (hts _ wm117) (fun _ h9 => h9) rfl hin rfl (by decide +kernel) rfl rfl (Nat.le_of_ble_eq_true rfl) dX7_init_57 (fun H locs hP hD hS => ?_)
  have hP : va_P (DG G) clP1 [(h0, .inr (6, [.null, .ref q_1, .ref q_2, .ref q_3, .ref q_4, .ref q_5, .ref q_6, .ref q_7, .int 0, .int 0])), (q_1, .inl (cyA G 1, 6, .inl (fun _ => 0))), (q_2, .inl (cyA G 0, 16, .inl (fun _ => 0))), (q_3, .inl (cyA G 0, 16, .inl (fun _ => 0))), (q_4, .inl (cyA G 0, 48, .inl (fun _ => 0))), (q_5, .inl (cyA G 0, 16, .inl (fun _ => 0))), (q_6, .inl (cyA G 0, 16, .inl (fun _ => 0))), (q_7, .inl (cyA G 0, 6, .inl (fun _ => 0)))] H := hP
  have hD : va_D A [(h0, .inr (6, [.null, .ref q_1, .ref q_2, .ref q_3, .ref q_4, .ref q_5, .ref q_6, .ref q_7, .int 0, .int 0])), (q_1, .inl (cyA G 1, 6, .inl (fun _ => 0))), (q_2, .inl (cyA G 0, 16, .inl (fun _ => 0))), (q_3, .inl (cyA G 0, 16, .inl (fun _ => 0))), (q_4, .inl (cyA G 0, 48, .inl (fun _ => 0))), (q_5, .inl (cyA G 0, 16, .inl (fun _ => 0))), (q_6, .inl (cyA G 0, 16, .inl (fun _ => 0))), (q_7, .inl (cyA G 0, 6, .inl (fun _ => 0)))] := hD
  refine lv_aload_n hx hb dX7_init_60 rfl (lv_at hl 0 rfl) ?_
  refine lv_aload_n hx hb dX7_init_61 rfl (lv_at hl 1 rfl) ?_
  refine va_putF (D := DG G) (ci := 6) (v := .ref t1) (ty := tyX7 0) (C := RX7) (T := TX7) (N := 10) hx hb hts inW_X7 tyX7 tyX7_ok nmX7 hown hK hP hD hS 0 rfl rfl 0 (by decide) (hts _ wm110) (fun _ h9 => h9) rfl hin rfl (by decide +kernel) rfl rfl (Nat.le_of_ble_eq_true rfl) dX7_init_62 (fun H locs hP hD hS => ?_)
  have hP : va_P (DG G) clP1 [(h0, .inr (6, [.ref t1, .ref q_1, .ref q_2, .ref q_3, .ref q_4, .ref q_5, .ref q_6, .ref q_7, .int 0, .int 0])), (q_1, .inl (cyA G 1, 6, .inl (fun _ => 0))), (q_2, .inl (cyA G 0, 16, .inl (fun _ => 0))), (q_3, .inl (cyA G 0, 16, .inl (fun _ => 0))), (q_4, .inl (cyA G 0, 48, .inl (fun _ => 0))), (q_5, .inl (cyA G 0, 16, .inl (fun _ => 0))), (q_6, .inl (cyA G 0, 16, .inl (fun _ => 0))), (q_7, .inl (cyA G 0, 6, .inl (fun _ => 0)))] H := hP
  have hD : va_D A [(h0, .inr (6, [.ref t1, .ref q_1, .ref q_2, .ref q_3, .ref q_4, .ref q_5, .ref q_6, .ref q_7, .int 0, .int 0])), (q_1, .inl (cyA G 1, 6, .inl (fun _ => 0))), (q_2, .inl (cyA G 0, 16, .inl (fun _ => 0))), (q_3, .inl (cyA G 0, 16, .inl (fun _ => 0))), (q_4, .inl (cyA G 0, 48, .inl (fun _ => 0))), (q_5, .inl (cyA G 0, 16, .inl (fun _ => 0))), (q_6, .inl (cyA G 0, 16, .inl (fun _ => 0))), (q_7, .inl (cyA G 0, 6, .inl (fun _ => 0)))] := hD
  have hP9 := hP.sub (ws' := [(h0, .inr (6, [.ref t1, .ref q_1, .ref q_2, .ref q_3, .ref q_4, .ref q_5, .ref q_6, .ref q_7, .int 0, .int 0]))]) [0] rfl
  have hD9 := hD.sub (ws' := [(h0, .inr (6, [.ref t1, .ref q_1, .ref q_2, .ref q_3, .ref q_4, .ref q_5, .ref q_6, .ref q_7, .int 0, .int 0]))]) [0] (by decide) rfl
  refine W.widen (k := 7) (n := 124) (Nat.le_of_ble_eq_true rfl) (Nat.le_of_ble_eq_true rfl) ?_
  exact W.vret hx hb hr (fun t ht hW => ⟨⟨(), rfl, trivial, ⟨q_1, q_2, q_3, q_4, q_5, q_6, q_7, by rw [ht]; exact hP9, hD9⟩⟩, hS.F ht⟩) hS.2.2 dX7_init_65 hlocks
set_option maxHeartbeats 4000000 in
set_option maxRecDepth 100000 in
theorem k_X0_init (l : Launch) (hfl : l.stackTraces = false) (G : GC) (h0 : Nat) (t1 : Nat) (f1 : Nat) (s1 : Nat) (sz : Nat) : Met l yX0_init (Cond.code yX0_init cX0_init 4 none :: W0) ({ frames := 1, cells := 2, slots := 48, locals := 12 }) (va_Pc [.ref h0, .ref t1, .ref f1, .ref s1] (WD G [(h0, .inr (2, [.null, .null, .null, .null, .null, .int 0, .int 0, .int 0]))] sz)) (va_Qv (fun _ : Unit => True) (fun _ t => ∃ (zz0 : Nat) (zz1 : Nat), PW G (va_A [(h0, .inr (2, [.null, .null, .null, .null, .null, .int 0, .int 0, .int 0]))] sz) [(h0, .inr (2, [.ref t1, .ref f1, .ref s1, .ref zz0, .ref zz1, .int 0, .int 0, .int 0]))] t) (va_A [(h0, .inr (2, [.null, .null, .null, .null, .null, .int 0, .int 0, .int 0]))] sz)) 2 48 (va_A [(h0, .inr (2, [.null, .null, .null, .null, .null, .int 0, .int 0, .int 0]))] sz) := by
  refine Met.ofW (cc := cX0_init) (maxL := 4) (ret := none) (by decide) rfl ?_
  intro p e s m args below meth c s₁ B hml hv
  obtain ⟨rfl, hsz, hP, hK, hD0, hE⟩ := hv
  have hx := B.exec
  have hb := B.bytes
  have hr := B.returns
  have hts := w0_tail B.pre
  have hown : s.vm.findClass RX0 = some m.cls := findClass_of_methodNamed B.named
  have hlocks := B.notSynchronized
  have hin : meth.name = "<init>" := (name_of_methodNamed B.named B.method).1
  subst hsz
  have hD := hD0.self (sz := s.heap.size)
  generalize hAe : va_A [(h0, .inr (2, [.null, .null, .null, .null, .null, .int 0, .int 0, .int 0]))] s.heap.size = A at hD hE ⊢
  have hA : ∀ q : Nat, s.heap.size ≤ q → A q := fun q h => by rw [← hAe]; exact Or.inr h
  have hS : va_S A s.heap s.heap [] := va_S.rf
  obtain ⟨H, hHe⟩ : ∃ H : Heap, H = s.heap := ⟨_, rfl⟩
  have hP : va_P (DG G) clP1 [(h0, .inr (2, [.null, .null, .null, .null, .null, .int 0, .int 0, .int 0]))] H := by rw [hHe]; exact hP
  have hS : va_S A s.heap H [] := by rw [hHe]; exact hS
  have hl := lv_entry ([.ref h0, .ref t1, .ref f1, .ref s1]) (n := 4) (Nat.le_of_ble_eq_true rfl)
  rw [lg_entry_eq, ← hHe]
  generalize (lg_sl ([.ref h0, .ref t1, .ref f1, .ref s1]) ++ List.replicate (4 - (lg_sl ([.ref h0, .ref t1, .ref f1, .ref s1])).length) Slot.unset).toArray = ls at hl ⊢
  have hl : lv_has ls 4 [(0, .ref h0), (1, .ref t1), (2, .ref f1), (3, .ref s1)] := hl
  refine lv_aload_n hx hb dX0_init_0 rfl (lv_at hl 0 rfl) ?_
  refine W.objInit hx hb hown (hts _ wm149) (hts _ wm46) (hts _ wm47) rfl (by rw [hml]; exact hl.1) rfl dX0_init_1 (Nat.le_of_ble_eq_true rfl) (Nat.le_of_ble_eq_true rfl) ?_
  refine W.eq (g2 := F0 m 4 ls []) rfl ?_
  refine lv_aload_n hx hb dX0_init_4 rfl (lv_at hl 0 rfl) ?_
  refine lv_bipush (v := 8) hx hb dX0_init_5 (by decide) ?_
  refine my_newq (N' := 8) (t1 := 4) hx hb hown (hts _ wm150) (hE.2.2.2.1 _ ao0) rfl hK hP hD hS hA (by decide) (by decide) (Nat.le_of_ble_eq_true rfl) (Nat.le_of_ble_eq_true rfl) (Nat.le_of_ble_eq_true rfl) dX0_init_7 (fun q_1 H hP hD hS => ?_)
  have hP : va_P (DG G) clP1 [(h0, .inr (2, [.null, .null, .null, .null, .null, .int 0, .int 0, .int 0])), (q_1, .inl (cyA G 4, 8, .inr (.inr (.inr (.inr (fun _ => none))))))] H := hP
  have hD : va_D A [(h0, .inr (2, [.null, .null, .null, .null, .null, .int 0, .int 0, .int 0])), (q_1, .inl (cyA G 4, 8, .inr (.inr (.inr (.inr (fun _ => none))))))] := hD
  refine W.widen (k := 1) (n := 8) (Nat.le_of_ble_eq_true rfl) (Nat.le_of_ble_eq_true rfl) ?_
  refine va_putF (D := DG G) (ci := 2) (v := .ref q_1) (ty := tyX0 3) (C := RX0) (T := TX0) (N := 8) hx hb hts inW_X0 tyX0 tyX0_ok nmX0 hown hK hP hD hS 0 rfl rfl 3 (by decide) (hts _ wm157) (fun _ h9 => h9) rfl hin rfl (by decide +kernel) rfl rfl (Nat.le_of_ble_eq_true rfl) dX0_init_10 (fun H locs hP hD hS => ?_)
  have hP : va_P (DG G) clP1 [(h0, .inr (2, [.null, .null, .null, .ref q_1, .null, .int 0, .int 0, .int 0])), (q_1, .inl (cyA G 4, 8, .inr (.inr (.inr (.inr (fun _ => none))))))] H := hP
  have hD : va_D A [(h0, .inr (2, [.null, .null, .null, .ref q_1, .null, .int 0, .int 0, .int 0])), (q_1, .inl (cyA G 4, 8, .inr (.inr (.inr (.inr (fun _ => none))))))] := hD
  refine lv_aload_n hx hb dX0_init_13 rfl (lv_at hl 0 rfl) ?_
  refine lv_bipush (v := 40) hx hb dX0_init_14 (by decide) ?_
  refine my_newq (N' := 40) (t1 := 5) hx hb hown (hts _ wm152) (hE.2.2.2.1 _ ao1) rfl hK hP hD hS hA (by decide) (by decide) (Nat.le_of_ble_eq_true rfl) (Nat.le_of_ble_eq_true rfl) (Nat.le_of_ble_eq_true rfl) dX0_init_16 (fun q_2 H hP hD hS => ?_)
  have hP : va_P (DG G) clP1 [(h0, .inr (2, [.null, .null, .null, .ref q_1, .null, .int 0, .int 0, .int 0])), (q_1, .inl (cyA G 4, 8, .inr (.inr (.inr (.inr (fun _ => none)))))), (q_2, .inl (cyA G 5, 40, .inr (.inr (.inr (.inr (fun _ => none))))))] H := hP
  have hD : va_D A [(h0, .inr (2, [.null, .null, .null, .ref q_1, .null, .int 0, .int 0, .int 0])), (q_1, .inl (cyA G 4, 8, .inr (.inr (.inr (.inr (fun _ => none)))))), (q_2, .inl (cyA G 5, 40, .inr (.inr (.inr (.inr (fun _ => none))))))] := hD
  refine W.widen (k := 2) (n := 48) (Nat.le_of_ble_eq_true rfl) (Nat.le_of_ble_eq_true rfl) ?_
  refine va_putF (D := DG G) (ci := 2) (v := .ref q_2) (ty := tyX0 4) (C := RX0) (T := TX0) (N := 8) hx hb hts inW_X0 tyX0 tyX0_ok nmX0 hown hK hP hD hS 0 rfl rfl 4 (by decide) (hts _ wm158) (fun _ h9 => h9) rfl hin rfl (by decide +kernel) rfl rfl (Nat.le_of_ble_eq_true rfl) dX0_init_19 (fun H locs hP hD hS => ?_)
  have hP : va_P (DG G) clP1 [(h0, .inr (2, [.null, .null, .null, .ref q_1, .ref q_2, .int 0, .int 0, .int 0])), (q_1, .inl (cyA G 4, 8, .inr (.inr (.inr (.inr (fun _ => none)))))), (q_2, .inl (cyA G 5, 40, .inr (.inr (.inr (.inr (fun _ => none))))))] H := hP
  have hD : va_D A [(h0, .inr (2, [.null, .null, .null, .ref q_1, .ref q_2, .int 0, .int 0, .int 0])), (q_1, .inl (cyA G 4, 8, .inr (.inr (.inr (.inr (fun _ => none)))))), (q_2, .inl (cyA G 5, 40, .inr (.inr (.inr (.inr (fun _ => none))))))] := hD
  refine lv_aload_n hx hb dX0_init_22 rfl (lv_at hl 0 rfl) ?_
  refine lv_aload_n hx hb dX0_init_23 rfl (lv_at hl 1 rfl) ?_
  refine va_putF (D := DG G) (ci := 2) (v := .ref t1) (ty := tyX0 0) (C := RX0) (T := TX0) (N := 8) hx hb hts inW_X0 tyX0 tyX0_ok nmX0 hown hK hP hD hS 0 rfl rfl 0 (by decide) (hts _ wm154) (fun _ h9 => h9) rfl hin rfl (by decide +kernel) rfl rfl (Nat.le_of_ble_eq_true rfl) dX0_init_24 (fun H locs hP hD hS => ?_)
  have hP : va_P (DG G) clP1 [(h0, .inr (2, [.ref t1, .null, .null, .ref q_1, .ref q_2, .int 0, .int 0, .int 0])), (q_1, .inl (cyA G 4, 8, .inr (.inr (.inr (.inr (fun _ => none)))))), (q_2, .inl (cyA G 5, 40, .inr (.inr (.inr (.inr (fun _ => none))))))] H := hP
  have hD : va_D A [(h0, .inr (2, [.ref t1, .null, .null, .ref q_1, .ref q_2, .int 0, .int 0, .int 0])), (q_1, .inl (cyA G 4, 8, .inr (.inr (.inr (.inr (fun _ => none)))))), (q_2, .inl (cyA G 5, 40, .inr (.inr (.inr (.inr (fun _ => none))))))] := hD
  refine lv_aload_n hx hb dX0_init_27 rfl (lv_at hl 0 rfl) ?_
  refine lv_aload_n hx hb dX0_init_28 rfl (lv_at hl 2 rfl) ?_
  refine va_putF (D := DG G) (ci := 2) (v := .ref f1) (ty := tyX0 1) (C := RX0) (T := TX0) (N := 8) hx hb hts inW_X0 tyX0 tyX0_ok nmX0 hown hK hP hD hS 0 rfl rfl 1 (by decide) (hts _ wm155) (fun _ h9 => h9) rfl hin rfl (by decide +kernel) rfl rfl (Nat.le_of_ble_eq_true rfl) dX0_init_29 (fun H locs hP hD hS => ?_)
  have hP : va_P (DG G) clP1 [(h0, .inr (2, [.ref t1, .ref f1, .null, .ref q_1, .ref q_2, .int 0, .int 0, .int 0])), (q_1, .inl (cyA G 4, 8, .inr (.inr (.inr (.inr (fun _ => none)))))), (q_2, .inl (cyA G 5, 40, .inr (.inr (.inr (.inr (fun _ => none))))))] H := hP
  have hD : va_D A [(h0, .inr (2, [.ref t1, .ref f1, .null, .ref q_1, .ref q_2, .int 0, .int 0, .int 0])), (q_1, .inl (cyA G 4, 8, .inr (.inr (.inr (.inr (fun _ => none)))))), (q_2, .inl (cyA G 5, 40, .inr (.inr (.inr (.inr (fun _ => none))))))] := hD
  refine lv_aload_n hx hb dX0_init_32 rfl (lv_at hl 0 rfl) ?_
  refine lv_aload_n hx hb dX0_init_33 rfl (lv_at hl 3 rfl) ?_
  refine va_putF (D := DG G) (ci := 2) (v := .ref s1) (ty := tyX0 2) (C := RX0) (T := TX0) (N := 8) hx hb hts inW_X0 tyX0 tyX0_ok nmX0 hown hK hP hD hS 0 rfl rfl 2 (by decide) (hts _ wm156) (fun _ h9 => h9) rfl hin rfl (by decide +kernel) rfl rfl (Nat.le_of_ble_eq_true rfl) dX0_init_34 (fun H locs hP hD hS => ?_)
  have hP : va_P (DG G) clP1 [(h0, .inr (2, [.ref t1, .ref f1, .ref s1, .ref q_1, .ref q_2, .int 0, .int 0, .int 0])), (q_1, .inl (cyA G 4, 8, .inr (.inr (.inr (.inr (fun _ => none)))))), (q_2, .inl (cyA G 5, 40, .inr (.inr (.inr (.inr (fun _ => none))))))] H := hP
  have hD : va_D A [(h0, .inr (2, [.ref t1, .ref f1, .ref s1, .ref q_1, .ref q_2, .int 0, .int 0, .int 0])), (q_1, .inl (cyA G 4, 8, .inr (.inr (.inr (.inr (fun _ => none)))))), (q_2, .inl (cyA G 5, 40, .inr (.inr (.inr (.inr (fun _ => none))))))] := hD
  have hP9 := hP.sub (ws' := [(h0, .inr (2, [.ref t1, .ref f1, .ref s1, .ref q_1, .ref q_2, .int 0, .int 0, .int 0]))]) [0] rfl
  have hD9 := hD.sub (ws' := [(h0, .inr (2, [.ref t1, .ref f1, .ref s1, .ref q_1, .ref q_2, .int 0, .int 0, .int 0]))]) [0] (by decide) rfl
  refine W.widen (k := 2) (n := 48) (Nat.le_of_ble_eq_true rfl) (Nat.le_of_ble_eq_true rfl) ?_
  exact W.vret hx hb hr (fun t ht hW => ⟨⟨(), rfl, trivial, ⟨q_1, q_2, by rw [ht]; exact hP9, hD9⟩⟩, hS.F ht⟩) hS.2.2 dX0_init_37 hlocks
set_option maxHeartbeats 4000000 in
set_option maxRecDepth 100000 in
theorem k_X8_init_0 (l : Launch) (hfl : l.stackTraces = false) (G : GC) (h0 : Nat) (sz : Nat) : Met l yX8_init (Cond.code yX8_init cX8_init 2 none :: W0) ({ frames := 1, cells := 1, slots := 0, locals := 14 }) (va_Pc [.ref h0, .int 0] (WD G [(h0, .inr (7, [.null, .int 0]))] sz)) (va_Qv (fun _ : Unit => True) (fun _ t => PW G (va_A [(h0, .inr (7, [.null, .int 0]))] sz) [] t) (va_A [(h0, .inr (7, [.null, .int 0]))] sz)) 1 0 (va_A [(h0, .inr (7, [.null, .int 0]))] sz) := by
  refine Met.ofW (cc := cX8_init) (maxL := 2) (ret := none) (by decide) rfl ?_
  intro p e s m args below meth c s₁ B hml hv
  obtain ⟨rfl, hsz, hP, hK, hD0, hE⟩ := hv
  have hx := B.exec
  have hb := B.bytes
  have hr := B.returns
  have hts := w0_tail B.pre
  have hown : s.vm.findClass RX8 = some m.cls := findClass_of_methodNamed B.named
  have hlocks := B.notSynchronized
  have hin : meth.name = "<init>" := (name_of_methodNamed B.named B.method).1
  subst hsz
  have hD := hD0.self (sz := s.heap.size)
  generalize hAe : va_A [(h0, .inr (7, [.null, .int 0]))] s.heap.size = A at hD hE ⊢
  have hA : ∀ q : Nat, s.heap.size ≤ q → A q := fun q h => by rw [← hAe]; exact Or.inr h
  have hS : va_S A s.heap s.heap [] := va_S.rf
  obtain ⟨H, hHe⟩ : ∃ H : Heap, H = s.heap := ⟨_, rfl⟩
  have hP : va_P (DG G) clP1 [(h0, .inr (7, [.null, .int 0]))] H := by rw [hHe]; exact hP
  have hS : va_S A s.heap H [] := by rw [hHe]; exact hS
  have hl := lv_entry ([.ref h0, .int 0]) (n := 2) (Nat.le_of_ble_eq_true rfl)
  rw [lg_entry_eq, ← hHe]
  generalize (lg_sl ([.ref h0, .int 0]) ++ List.replicate (2 - (lg_sl ([.ref h0, .int 0])).length) Slot.unset).toArray = ls at hl ⊢
  have hl : lv_has ls 2 [(0, .ref h0), (1, .int 0)] := hl
  refine lv_aload_n hx hb dX8_init_0 rfl (lv_at hl 0 rfl) ?_
  refine W.objInit hx hb hown (hts _ wm195) (hts _ wm46) (hts _ wm47) rfl (by rw [hml]; exact hl.1) rfl dX8_init_1 (Nat.le_of_ble_eq_true rfl) (Nat.le_of_ble_eq_true rfl) ?_
  refine W.eq (g2 := F0 m 4 ls []) rfl ?_
  refine lv_aload_n hx hb dX8_init_4 rfl (lv_at hl 0 rfl) ?_
  refine lv_iload_n hx hb dX8_init_5 rfl (lv_at hl 1 rfl) ?_
  refine lv_iconst (v := 0) hx hb dX8_init_6 (by decide) ?_
  refine va_mmax hx hb (hml.trans hl.1.symm) hown (hts _ wm196) (hts _ wm197) (hts _ wm8) (hts _ wm198) (Nat.le_of_ble_eq_true rfl) (Nat.le_of_ble_eq_true rfl) (Nat.le_of_ble_eq_true rfl) (Nat.le_of_ble_eq_true rfl) dX8_init_7 ?_
  refine lv_topi (fun z_1 ez_1 => ?_)
  obtain rfl : z_1 = 0 := ez_1.trans (by decide)
  refine my_newa (atype := .int) (N' := 0) (a0 := (0, .inl (fun _ => 0))) (t1 := 0) hx hb (hts _ wm86) rfl rfl hK hP hD hS hA (fun _ => rfl) (by decide) (by decide) (Nat.le_of_ble_eq_true rfl) (Nat.le_of_ble_eq_true rfl) (Nat.le_of_ble_eq_true rfl) dX8_init_10 (fun q_2 H hP hD hS => ?_)
  have hP : va_P (DG G) clP1 [(h0, .inr (7, [.null, .int 0])), (q_2, .inl (cyA G 0, 0, .inl (fun _ => 0)))] H := hP
  have hD : va_D A [(h0, .inr (7, [.null, .int 0])), (q_2, .inl (cyA G 0, 0, .inl (fun _ => 0)))] := hD
  refine W.widen (k := 1) (n := 0) (Nat.le_of_ble_eq_true rfl) (Nat.le_of_ble_eq_true rfl) ?_
  refine va_putF (D := DG G) (ci := 7) (v := .ref q_2) (ty := tyX8 0) (C := RX8) (T := TX8) (N := 2) hx hb hts inW_X8 tyX8 tyX8_ok nmX8 hown hK hP hD hS 0 rfl rfl 0 (by decide) (hts _ wm199) (fun _ h9 => h9) rfl hin rfl (by decide +kernel) rfl rfl (Nat.le_of_ble_eq_true rfl) dX8_init_12 (fun H locs hP hD hS => ?_)
  have hP : va_P (DG G) clP1 [(h0, .inr (7, [.ref q_2, .int 0])), (q_2, .inl (cyA G 0, 0, .inl (fun _ => 0)))] H := hP
  have hD : va_D A [(h0, .inr (7, [.ref q_2, .int 0])), (q_2, .inl (cyA G 0, 0, .inl (fun _ => 0)))] := hD
  have hP9 := hP.sub (ws' := []) [] rfl
  have hD9 := hD.sub (ws' := []) [] (by decide) rfl
  refine W.widen (k := 1) (n := 0) (Nat.le_of_ble_eq_true rfl) (Nat.le_of_ble_eq_true rfl) ?_
  exact W.vret hx hb hr (fun t ht hW => ⟨⟨(), rfl, trivial, ⟨by rw [ht]; exact hP9, hD9⟩⟩, hS.F ht⟩) hS.2.2 dX8_init_15 hlocks
set_option maxHeartbeats 4000000 in
set_option maxRecDepth 100000 in
theorem k_X8_init_42 (l : Launch) (hfl : l.stackTraces = false) (G : GC) (h0 : Nat) (sz : Nat) : Met l yX8_init (Cond.code yX8_init cX8_init 2 none :: W0) ({ frames := 1, cells := 1, slots := 42, locals := 14 }) (va_Pc [.ref h0, .int 42] (WD G [(h0, .inr (7, [.null, .int 0]))] sz)) (va_Qv (fun _ : Unit => True) (fun _ t => PW G (va_A [(h0, .inr (7, [.null, .int 0]))] sz) [] t) (va_A [(h0, .inr (7, [.null, .int 0]))] sz)) 1 42 (va_A [(h0, .inr (7, [.null, .int 0]))] sz) := by
  refine Met.ofW (cc := cX8_init) (maxL := 2) (ret := none) (by decide) rfl ?_
  intro p e s m args below meth c s₁ B hml hv
  obtain ⟨rfl, hsz, hP, hK, hD0, hE⟩ := hv
  have hx := B.exec
  have hb := B.bytes
  have hr := B.returns
  have hts := w0_tail B.pre
  have hown : s.vm.findClass RX8 = some m.cls := findClass_of_methodNamed B.named
  have hlocks := B.notSynchronized
  have hin : meth.name = "<init>" := (name_of_methodNamed B.named B.method).1
  subst hsz
  have hD := hD0.self (sz := s.heap.size)
  generalize hAe : va_A [(h0, .inr (7, [.null, .int 0]))] s.heap.size = A at hD hE ⊢
  have hA : ∀ q : Nat, s.heap.size ≤ q → A q := fun q h => by rw [← hAe]; exact Or.inr h
  have hS : va_S A s.heap s.heap [] := va_S.rf
  obtain ⟨H, hHe⟩ : ∃ H : Heap, H = s.heap := ⟨_, rfl⟩
  have hP : va_P (DG G) clP1 [(h0, .inr (7, [.null, .int 0]))] H := by rw [hHe]; exact hP
  have hS : va_S A s.heap H [] := by rw [hHe]; exact hS
  have hl := lv_entry ([.ref h0, .int 42]) (n := 2) (Nat.le_of_ble_eq_true rfl)
  rw [lg_entry_eq, ← hHe]
  generalize (lg_sl ([.ref h0, .int 42]) ++ List.replicate (2 - (lg_sl ([.ref h0, .int 42])).length) Slot.unset).toArray = ls at hl ⊢
  have hl : lv_has ls 2 [(0, .ref h0), (1, .int 42)] := hl
  refine lv_aload_n hx hb dX8_init_0 rfl (lv_at hl 0 rfl) ?_
  refine W.objInit hx hb hown (hts _ wm195) (hts _ wm46) (hts _ wm47) rfl (by rw [hml]; exact hl.1) rfl dX8_init_1 (Nat.le_of_ble_eq_true rfl) (Nat.le_of_ble_eq_true rfl) ?_
  refine W.eq (g2 := F0 m 4 ls []) rfl ?_
  refine lv_aload_n hx hb dX8_init_4 rfl (lv_at hl 0 rfl) ?_
  refine lv_iload_n hx hb dX8_init_5 rfl (lv_at hl 1 rfl) ?_
  refine lv_iconst (v := 0) hx hb dX8_init_6 (by decide) ?_
  refine va_mmax hx hb (hml.trans hl.1.symm) hown (hts _ wm196) (hts _ wm197) (hts _ wm8) (hts _ wm198) (Nat.le_of_ble_eq_true rfl) (Nat.le_of_ble_eq_true rfl) (Nat.le_of_ble_eq_true rfl) (Nat.le_of_ble_eq_true rfl) dX8_init_7 ?_
  refine lv_topi (fun z_1 ez_1 => ?_)
  obtain rfl : z_1 = 42 := ez_1.trans (by decide)
  refine my_newa (atype := .int) (N' := 42) (a0 := (42, .inl (fun _ => 0))) (t1 := 0) hx hb (hts _ wm86) rfl rfl hK hP hD hS hA (fun _ => rfl) (by decide) (by decide) (Nat.le_of_ble_eq_true rfl) (Nat.le_of_ble_eq_true rfl) (Nat.le_of_ble_eq_true rfl) dX8_init_10 (fun q_2 H hP hD hS => ?_)
  have hP : va_P (DG G) clP1 [(h0, .inr (7, [.null, .int 0])), (q_2, .inl (cyA G 0, 42, .inl (fun _ => 0)))] H := hP
  have hD : va_D A [(h0, .inr (7, [.null, .int 0])), (q_2, .inl (cyA G 0, 42, .inl (fun _ => 0)))] := hD
  refine W.widen (k := 1) (n := 42) (Nat.le_of_ble_eq_true rfl) (Nat.le_of_ble_eq_true rfl) ?_
  refine va_putF (D := DG G) (ci := 7) (v := .ref q_2) (ty := tyX8 0) (C := RX8) (T := TX8) (N := 2) hx hb hts inW_X8 tyX8 tyX8_ok nmX8 hown hK hP hD hS 0 rfl rfl 0 (by decide) (hts _ wm199) (fun _ h9 => h9) rfl hin rfl (by decide +kernel) rfl rfl (Nat.le_of_ble_eq_true rfl) dX8_init_12 (fun H locs hP hD hS => ?_)
  have hP : va_P (DG G) clP1 [(h0, .inr (7, [.ref q_2, .int 0])), (q_2, .inl (cyA G 0, 42, .inl (fun _ => 0)))] H := hP
  have hD : va_D A [(h0, .inr (7, [.ref q_2, .int 0])), (q_2, .inl (cyA G 0, 42, .inl (fun _ => 0)))] := hD
  have hP9 := hP.sub (ws' := []) [] rfl
  have hD9 := hD.sub (ws' := []) [] (by decide) rfl
  refine W.widen (k := 1) (n := 42) (Nat.le_of_ble_eq_true rfl) (Nat.le_of_ble_eq_true rfl) ?_
  exact W.vret hx hb hr (fun t ht hW => ⟨⟨(), rfl, trivial, ⟨by rw [ht]; exact hP9, hD9⟩⟩, hS.F ht⟩) hS.2.2 dX8_init_15 hlocks
set_option maxHeartbeats 4000000 in
set_option maxRecDepth 100000 in
theorem k_X10_init (l : Launch) (hfl : l.stackTraces = false) (G : GC) (h0 : Nat) (t1 : Nat) (f1 : Nat) (s1 : Nat) (d1 : Nat) (sz : Nat) : Met l yX10_init (Cond.code yX10_init cX10_init 5 none :: W0) ({ frames := 2, cells := 4, slots := 46, locals := 35 }) (va_Pc [.ref h0, .ref t1, .ref f1, .ref s1, .ref d1] (WD G [(h0, .inr (9, [.null, .null, .null, .null, .null, .null]))] sz)) (va_Qv (fun _ : Unit => True) (fun _ t => PW G (va_A [(h0, .inr (9, [.null, .null, .null, .null, .null, .null]))] sz) [] t) (va_A [(h0, .inr (9, [.null, .null, .null, .null, .null, .null]))] sz)) 4 46 (va_A [(h0, .inr (9, [.null, .null, .null, .null, .null, .null]))] sz) := by
  refine Met.ofW (cc := cX10_init) (maxL := 5) (ret := none) (by decide) rfl ?_
  intro p e s m args below meth c s₁ B hml hv
  obtain ⟨rfl, hsz, hP, hK, hD0, hE⟩ := hv
  have hx := B.exec
  have hb := B.bytes
  have hr := B.returns
  have hts := w0_tail B.pre
  have hown : s.vm.findClass RX10 = some m.cls := findClass_of_methodNamed B.named
  have hlocks := B.notSynchronized
  have hin : meth.name = "<init>" := (name_of_methodNamed B.named B.method).1
  subst hsz
  have hD := hD0.self (sz := s.heap.size)
  generalize hAe : va_A [(h0, .inr (9, [.null, .null, .null, .null, .null, .null]))] s.heap.size = A at hD hE ⊢
  have hA : ∀ q : Nat, s.heap.size ≤ q → A q := fun q h => by rw [← hAe]; exact Or.inr h
  have hS : va_S A s.heap s.heap [] := va_S.rf
  obtain ⟨H, hHe⟩ : ∃ H : Heap, H = s.heap := ⟨_, rfl⟩
  have hP : va_P (DG G) clP1 [(h0, .inr (9, [.null, .null, .null, .null, .null, .null]))] H := by rw [hHe]; exact hP
  have hS : va_S A s.heap H [] := by rw [hHe]; exact hS
  have hl := lv_entry ([.ref h0, .ref t1, .ref f1, .ref s1, .ref d1]) (n := 5) (Nat.le_of_ble_eq_true rfl)
  rw [lg_entry_eq, ← hHe]
  generalize (lg_sl ([.ref h0, .ref t1, .ref f1, .ref s1, .ref d1]) ++ List.replicate (5 - (lg_sl ([.ref h0, .ref t1, .ref f1, .ref s1, .ref d1])).length) Slot.unset).toArray = ls at hl ⊢
  have hl : lv_has ls 5 [(0, .ref h0), (1, .ref t1), (2, .ref f1), (3, .ref s1), (4, .ref d1)] := hl
  refine lv_aload_n hx hb dX10_init_0 rfl (lv_at hl 0 rfl) ?_
  refine W.objInit hx hb hown (hts _ wm189) (hts _ wm46) (hts _ wm47) rfl (by rw [hml]; exact hl.1) rfl dX10_init_1 (Nat.le_of_ble_eq_true rfl) (Nat.le_of_ble_eq_true rfl) ?_
  refine W.eq (g2 := F0 m 4 ls []) rfl ?_
  refine lv_aload_n hx hb dX10_init_4 rfl (lv_at hl 0 rfl) ?_
  refine va_new (ci := 7) (fs := [.null, .int 0]) (C := RX8) (T := TX8) (N := 2) hx hb hts inW_X8 tyX8 tyX8_ok hown (hts _ wm190) (hts _ wm191) (hts _ wm7) hK hP hD hS hA rfl (by decide +kernel) (Nat.le_of_ble_eq_true rfl) (Nat.le_of_ble_eq_true rfl) dX10_init_5 (fun q_1 H hP hD hS => ?_)
  have hP : va_P (DG G) clP1 [(h0, .inr (9, [.null, .null, .null, .null, .null, .null])), (q_1, .inr (7, [.null, .int 0]))] H := hP
  have hD : va_D A [(h0, .inr (9, [.null, .null, .null, .null, .null, .null])), (q_1, .inr (7, [.null, .int 0]))] := hD
  refine W.widen (k := 1) (n := 2) (Nat.le_of_ble_eq_true rfl) (Nat.le_of_ble_eq_true rfl) ?_
  refine lv_dup hx hb dX10_init_8 rfl ?_
  refine lv_iconst (v := 0) hx hb dX10_init_9 (by decide) ?_
  have hFc := va_free (wc := [(q_1, .inr (7, [.null, .int 0]))]) hD hS hA [1] rfl
  refine va_callv (va_runI (As := [.int 0]) (rest := [.ref q_1, .ref h0]) ⟨hx, hb, hml, hown, hts⟩ (k_X8_init_0 l hfl G q_1 H.size) (cwI 1 hts (gC wm194) rfl rfl rfl (hts _ wm7) (hts _ wm192) (hts _ wm193) rfl (by decide +kernel) ⟨Nat.le_of_ble_eq_true rfl, Nat.le_of_ble_eq_true rfl⟩) (pre_s hK hP hD hS hE [1] rfl rfl (by decide) hFc) rfl rfl hl.1 rfl (lv_room (Nat.le_of_ble_eq_true rfl)) dX10_init_10 ⟨Nat.le_of_ble_eq_true rfl, Nat.le_of_ble_eq_true rfl⟩) hS (fun q _ h => hFc q h) hFc (fun u t H locs ht hvm hw hB hz1 hk1 hS => ?_)
  obtain ⟨hP1, hD1⟩ := hB
  rw [ht] at hP1
  obtain ⟨hP, hD⟩ := va_join (wr := [(h0, .inr (9, [.null, .null, .null, .null, .null, .null]))]) (w1 := []) hP hD [1] [0] rfl rfl (by decide) (by decide) hk1 hFc hP1 hD1
  have hP : va_P (DG G) clP1 [(h0, .inr (9, [.null, .null, .null, .null, .null, .null]))] H := hP
  have hD : va_D A [(h0, .inr (9, [.null, .null, .null, .null, .null, .null]))] := hD
  refine W.widen (k := 2) (n := 2) (Nat.le_of_ble_eq_true rfl) (Nat.le_of_ble_eq_true rfl) ?_
  refine va_putF (D := DG G) (ci := 9) (v := .ref q_1) (ty := tyX10 4) (C := RX10) (T := TX10) (N := 6) hx hb hts inW_X10 tyX10 tyX10_ok nmX10 hown hK hP hD hS 0 rfl rfl 4 (by decide) (hts _ wm214) (fun _ h9 => h9) rfl hin rfl (by decide +kernel) rfl rfl (Nat.le_of_ble_eq_true rfl) dX10_init_13 (fun H locs hP hD hS => ?_)
  have hP : va_P (DG G) clP1 [(h0, .inr (9, [.null, .null, .null, .null, .ref q_1, .null]))] H := hP
  have hD : va_D A [(h0, .inr (9, [.null, .null, .null, .null, .ref q_1, .null]))] := hD
  refine lv_aload_n hx hb dX10_init_16 rfl (lv_at hl 0 rfl) ?_
  refine va_new (ci := 7) (fs := [.null, .int 0]) (C := RX8) (T := TX8) (N := 2) hx hb hts inW_X8 tyX8 tyX8_ok hown (hts _ wm190) (hts _ wm191) (hts _ wm7) hK hP hD hS hA rfl (by decide +kernel) (Nat.le_of_ble_eq_true rfl) (Nat.le_of_ble_eq_true rfl) dX10_init_17 (fun q_2 H hP hD hS => ?_)
  have hP : va_P (DG G) clP1 [(h0, .inr (9, [.null, .null, .null, .null, .ref q_1, .null])), (q_2, .inr (7, [.null, .int 0]))] H := hP
  have hD : va_D A [(h0, .inr (9, [.null, .null, .null, .null, .ref q_1, .null])), (q_2, .inr (7, [.null, .int 0]))] := hD
  refine W.widen (k := 3) (n := 4) (Nat.le_of_ble_eq_true rfl) (Nat.le_of_ble_eq_true rfl) ?_
  refine lv_dup hx hb dX10_init_20 rfl ?_
  refine lv_bipush (v := 42) hx hb dX10_init_21 (by decide) ?_
  have hFc := va_free (wc := [(q_2, .inr (7, [.null, .int 0]))]) hD hS hA [1] rfl
  refine va_callv (va_runI (As := [.int 42]) (rest := [.ref q_2, .ref h0]) ⟨hx, hb, hml, hown, hts⟩ (k_X8_init_42 l hfl G q_2 H.size) (cwI 1 hts (gC wm194) rfl rfl rfl (hts _ wm7) (hts _ wm192) (hts _ wm193) rfl (by decide +kernel) ⟨Nat.le_of_ble_eq_true rfl, Nat.le_of_ble_eq_true rfl⟩) (pre_s hK hP hD hS hE [1] rfl rfl (by decide) hFc) rfl rfl hl.1 rfl (lv_room (Nat.le_of_ble_eq_true rfl)) dX10_init_23 ⟨Nat.le_of_ble_eq_true rfl, Nat.le_of_ble_eq_true rfl⟩) hS (fun q _ h => hFc q h) hFc (fun u t H locs ht hvm hw hB hz1 hk1 hS => ?_)
  obtain ⟨hP1, hD1⟩ := hB
  rw [ht] at hP1
  obtain ⟨hP, hD⟩ := va_join (wr := [(h0, .inr (9, [.null, .null, .null, .null, .ref q_1, .null]))]) (w1 := []) hP hD [1] [0] rfl rfl (by decide) (by decide) hk1 hFc hP1 hD1
  have hP : va_P (DG G) clP1 [(h0, .inr (9, [.null, .null, .null, .null, .ref q_1, .null]))] H := hP
  have hD : va_D A [(h0, .inr (9, [.null, .null, .null, .null, .ref q_1, .null]))] := hD
  refine W.widen (k := 4) (n := 46) (Nat.le_of_ble_eq_true rfl) (Nat.le_of_ble_eq_true rfl) ?_
  refine va_putF (D := DG G) (ci := 9) (v := .ref q_2) (ty := tyX10 5) (C := RX10) (T := TX10) (N := 6) hx hb hts inW_X10 tyX10 tyX10_ok nmX10 hown hK hP hD hS 0 rfl rfl 5 (by decide) (hts _ wm215) (fun _ h9 => h9) rfl hin rfl (by decide +kernel) rfl rfl (Nat.le_of_ble_eq_true rfl) dX10_init_26 (fun H locs hP hD hS => ?_)
  have hP : va_P (DG G) clP1 [(h0, .inr (9, [.null, .null, .null, .null, .ref q_1, .ref q_2]))] H := hP
  have hD : va_D A [(h0, .inr (9, [.null, .null, .null, .null, .ref q_1, .ref q_2]))] := hD
  refine lv_aload_n hx hb dX10_init_29 rfl (lv_at hl 0 rfl) ?_
  refine lv_aload_n hx hb dX10_init_30 rfl (lv_at hl 1 rfl) ?_
  refine va_putF (D := DG G) (ci := 9) (v := .ref t1) (ty := tyX10 0) (C := RX10) (T := TX10) (N := 6) hx hb hts inW_X10 tyX10 tyX10_ok nmX10 hown hK hP hD hS 0 rfl rfl 0 (by decide) (hts _ wm210) (fun _ h9 => h9) rfl hin rfl (by decide +kernel) rfl rfl (Nat.le_of_ble_eq_true rfl) dX10_init_31 (fun H locs hP hD hS => ?_)
  have hP : va_P (DG G) clP1 [(h0, .inr (9, [.ref t1, .null, .null, .null, .ref q_1, .ref q_2]))] H := hP
  have hD : va_D A [(h0, .inr (9, [.ref t1, .null, .null, .null, .ref q_1, .ref q_2]))] := hD
  refine lv_aload_n hx hb dX10_init_34 rfl (lv_at hl 0 rfl) ?_
  refine lv_aload_n hx hb dX10_init_35 rfl (lv_at hl 2 rfl) ?_
  refine va_putF (D := DG G) (ci := 9) (v := .ref f1) (ty := tyX10 1) (C := RX10) (T := TX10) (N := 6) hx hb hts inW_X10 tyX10 tyX10_ok nmX10 hown hK hP hD hS 0 rfl rfl 1 (by decide) (hts _ wm211) (fun _ h9 => h9) rfl hin rfl (by decide +kernel) rfl rfl (Nat.le_of_ble_eq_true rfl) dX10_init_36 (fun H locs hP hD hS => ?_)
  have hP : va_P (DG G) clP1 [(h0, .inr (9, [.ref t1, .ref f1, .null, .null, .ref q_1, .ref q_2]))] H := hP
  have hD : va_D A [(h0, .inr (9, [.ref t1, .ref f1, .null, .null, .ref q_1, .ref q_2]))] := hD
  refine lv_aload_n hx hb dX10_init_39 rfl (lv_at hl 0 rfl) ?_
  refine lv_aload_n hx hb dX10_init_40 rfl (lv_at hl 3 rfl) ?_
  refine va_putF (D := DG G) (ci := 9) (v := .ref s1) (ty := tyX10 2) (C := RX10) (T := TX10) (N := 6) hx hb hts inW_X10 tyX10 tyX10_ok nmX10 hown hK hP hD hS 0 rfl rfl 2 (by decide) (hts _ wm212) (fun _ h9 => h9) rfl hin rfl (by decide +kernel) rfl rfl (Nat.le_of_ble_eq_true rfl) dX10_init_41 (fun H locs hP hD hS => ?_)
  have hP : va_P (DG G) clP1 [(h0, .inr (9, [.ref t1, .ref f1, .ref s1, .null, .ref q_1, .ref q_2]))] H := hP
  have hD : va_D A [(h0, .inr (9, [.ref t1, .ref f1, .ref s1, .null, .ref q_1, .ref q_2]))] := hD
  refine lv_aload_n hx hb dX10_init_44 rfl (lv_at hl 0 rfl) ?_
  refine lv_aload hx hb dX10_init_45 (lv_at hl 4 rfl) ?_
  refine va_putF (D := DG G) (ci := 9) (v := .ref d1) (ty := tyX10 3) (C := RX10) (T := TX10) (N := 6) hx hb hts inW_X10 tyX10 tyX10_ok nmX10 hown hK hP hD hS 0 rfl rfl 3 (by decide) (hts _ wm213) (fun _ h9 => h9) rfl hin rfl (by decide +kernel) rfl rfl (Nat.le_of_ble_eq_true rfl) dX10_init_47 (fun H locs hP hD hS => ?_)
  have hP : va_P (DG G) clP1 [(h0, .inr (9, [.ref t1, .ref f1, .ref s1, .ref d1, .ref q_1, .ref q_2]))] H := hP
  have hD : va_D A [(h0, .inr (9, [.ref t1, .ref f1, .ref s1, .ref d1, .ref q_1, .ref q_2]))] := hD
  have hP9 := hP.sub (ws' := []) [] rfl
  have hD9 := hD.sub (ws' := []) [] (by decide) rfl
  refine W.widen (k := 4) (n := 46) (Nat.le_of_ble_eq_true rfl) (Nat.le_of_ble_eq_true rfl) ?_
  exact W.vret hx hb hr (fun t ht hW => ⟨⟨(), rfl, trivial, ⟨by rw [ht]; exact hP9, hD9⟩⟩, hS.F ht⟩) hS.2.2 dX10_init_50 hlocks
set_option maxHeartbeats 4000000 in
set_option maxRecDepth 100000 in
theorem k_X4_init (l : Launch) (hfl : l.stackTraces = false) (G : GC) (h0 : Nat) (t1 : Nat) (sz : Nat) : Met l yX4_init (Cond.code yX4_init cX4_init 2 none :: W0) ({ frames := 1, cells := 1, slots := 200, locals := 12 }) (va_Pc [.ref h0, .ref t1] (WD G [(h0, .inr (4, [.null, .null, .int 0, .int 0, .int 0, .int 0]))] sz)) (va_Qv (fun _ : Unit => True) (fun _ t => PW G (va_A [(h0, .inr (4, [.null, .null, .int 0, .int 0, .int 0, .int 0]))] sz) [] t) (va_A [(h0, .inr (4, [.null, .null, .int 0, .int 0, .int 0, .int 0]))] sz)) 1 200 (va_A [(h0, .inr (4, [.null, .null, .int 0, .int 0, .int 0, .int 0]))] sz) := by
  refine Met.ofW (cc := cX4_init) (maxL := 2) (ret := none) (by decide) rfl ?_
  intro p e s m args below meth c s₁ B hml hv
  obtain ⟨rfl, hsz, hP, hK, hD0, hE⟩ := hv
  have hx := B.exec
  have hb := B.bytes
  have hr := B.returns
  have hts := w0_tail B.pre
  have hown : s.vm.findClass RX4 = some m.cls := findClass_of_methodNamed B.named
  have hlocks := B.notSynchronized
  have hin : meth.name = "<init>" := (name_of_methodNamed B.named B.method).1
  subst hsz
  have hD := hD0.self (sz := s.heap.size)
  generalize hAe : va_A [(h0, .inr (4, [.null, .null, .int 0, .int 0, .int 0, .int 0]))] s.heap.size = A at hD hE ⊢
  have hA : ∀ q : Nat, s.heap.size ≤ q → A q := fun q h => by rw [← hAe]; exact Or.inr h
  have hS : va_S A s.heap s.heap [] := va_S.rf
  obtain ⟨H, hHe⟩ : ∃ H : Heap, H = s.heap := ⟨_, rfl⟩
  have hP : va_P (DG G) clP1 [(h0, .inr (4, [.null, .null, .int 0, .int 0, .int 0, .int 0]))] H := by rw [hHe]; exact hP
  have hS : va_S A s.heap H [] := by rw [hHe]; exact hS
  have hl := lv_entry ([.ref h0, .ref t1]) (n := 2) (Nat.le_of_ble_eq_true rfl)
  rw [lg_entry_eq, ← hHe]
  generalize (lg_sl ([.ref h0, .ref t1]) ++ List.replicate (2 - (lg_sl ([.ref h0, .ref t1])).length) Slot.unset).toArray = ls at hl ⊢
  have hl : lv_has ls 2 [(0, .ref h0), (1, .ref t1)] := hl
  refine lv_aload_n hx hb dX4_init_0 rfl (lv_at hl 0 rfl) ?_
  refine W.objInit hx hb hown (hts _ wm234) (hts _ wm46) (hts _ wm47) rfl (by rw [hml]; exact hl.1) rfl dX4_init_1 (Nat.le_of_ble_eq_true rfl) (Nat.le_of_ble_eq_true rfl) ?_
  refine W.eq (g2 := F0 m 4 ls []) rfl ?_
  refine lv_aload_n hx hb dX4_init_4 rfl (lv_at hl 0 rfl) ?_
  refine lv_sipush (v := 200) hx hb dX4_init_5 (by decide) ?_
  refine my_newa (atype := .int) (N' := 200) (a0 := (200, .inl (fun _ => 0))) (t1 := 0) hx hb (hts _ wm86) rfl rfl hK hP hD hS hA (fun _ => rfl) (by decide) (by decide) (Nat.le_of_ble_eq_true rfl) (Nat.le_of_ble_eq_true rfl) (Nat.le_of_ble_eq_true rfl) dX4_init_8 (fun q_1 H hP hD hS => ?_)
  have hP : va_P (DG G) clP1 [(h0, .inr (4, [.null, .null, .int 0, .int 0, .int 0, .int 0])), (q_1, .inl (cyA G 0, 200, .inl (fun _ => 0)))] H := hP
  have hD : va_D A [(h0, .inr (4, [.null, .null, .int 0, .int 0, .int 0, .int 0])), (q_1, .inl (cyA G 0, 200, .inl (fun _ => 0)))] := hD
  refine W.widen (k := 1) (n := 200) (Nat.le_of_ble_eq_true rfl) (Nat.le_of_ble_eq_true rfl) ?_
  refine va_putF (D := DG G) (ci := 4) (v := .ref q_1) (ty := tyX4 1) (C := RX4) (T := TX4) (N := 6) hx hb hts inW_X4 tyX4 tyX4_ok nmX4 hown hK hP hD hS 0 rfl rfl 1 (by decide) (hts _ wm236) (fun _ h9 => h9) rfl hin rfl (by decide +kernel) rfl rfl (Nat.le_of_ble_eq_true rfl) dX4_init_10 (fun H locs hP hD hS => ?_)
  have hP : va_P (DG G) clP1 [(h0, .inr (4, [.null, .ref q_1, .int 0, .int 0, .int 0, .int 0])), (q_1, .inl (cyA G 0, 200, .inl (fun _ => 0)))] H := hP
  have hD : va_D A [(h0, .inr (4, [.null, .ref q_1, .int 0, .int 0, .int 0, .int 0])), (q_1, .inl (cyA G 0, 200, .inl (fun _ => 0)))] := hD
  refine lv_aload_n hx hb dX4_init_13 rfl (lv_at hl 0 rfl) ?_
  refine lv_aload_n hx hb dX4_init_14 rfl (lv_at hl 1 rfl) ?_
  refine va_putF (D := DG G) (ci := 4) (v := .ref t1) (ty := tyX4 0) (C := RX4) (T := TX4) (N := 6) hx hb hts inW_X4 tyX4 tyX4_ok nmX4 hown hK hP hD hS 0 rfl rfl 0 (by decide) (hts _ wm235) (fun _ h9 => h9) rfl hin rfl (by decide +kernel) rfl rfl (Nat.le_of_ble_eq_true rfl) dX4_init_15 (fun H locs hP hD hS => ?_)
  have hP : va_P (DG G) clP1 [(h0, .inr (4, [.ref t1, .ref q_1, .int 0, .int 0, .int 0, .int 0])), (q_1, .inl (cyA G 0, 200, .inl (fun _ => 0)))] H := hP
  have hD : va_D A [(h0, .inr (4, [.ref t1, .ref q_1, .int 0, .int 0, .int 0, .int 0])), (q_1, .inl (cyA G 0, 200, .inl (fun _ => 0)))] := hD
  have hP9 := hP.sub (ws' := []) [] rfl
  have hD9 := hD.sub (ws' := []) [] (by decide) rfl
  refine W.widen (k := 1) (n := 200) (Nat.le_of_ble_eq_true rfl) (Nat.le_of_ble_eq_true rfl) ?_
  exact W.vret hx hb hr (fun t ht hW => ⟨⟨(), rfl, trivial, ⟨by rw [ht]; exact hP9, hD9⟩⟩, hS.F ht⟩) hS.2.2 dX4_init_18 hlocks
set_option maxHeartbeats 4000000 in
set_option maxRecDepth 100000 in
theorem k_X5_init (l : Launch) (hfl : l.stackTraces = false) (G : GC) (h0 : Nat) (t1 : Nat) (s1 : Nat) (d1 : Nat) (sz : Nat) : Met l yX5_init (Cond.code yX5_init cX5_init 4 none :: W0) ({ frames := 1, cells := 4, slots := 8416, locals := 12 }) (va_Pc [.ref h0, .ref t1, .ref s1, .ref d1] (WD G [(h0, .inr (5, [.null, .null, .null, .null, .null, .null, .null, .int 0, .int 0, .int 0, .int 0, .int 0]))] sz)) (va_Qv (fun _ : Unit => True) (fun _ t => PW G (va_A [(h0, .inr (5, [.null, .null, .null, .null, .null, .null, .null, .int 0, .int 0, .int 0, .int 0, .int 0]))] sz) [] t) (va_A [(h0, .inr (5, [.null, .null, .null, .null, .null, .null, .null, .int 0, .int 0, .int 0, .int 0, .int 0]))] sz)) 4 8416 (va_A [(h0, .inr (5, [.null, .null, .null, .null, .null, .null, .null, .int 0, .int 0, .int 0, .int 0, .int 0]))] sz) := by
  refine Met.ofW (cc := cX5_init) (maxL := 4) (ret := none) (by decide) rfl ?_
  intro p e s m args below meth c s₁ B hml hv
  obtain ⟨rfl, hsz, hP, hK, hD0, hE⟩ := hv
  have hx := B.exec
  have hb := B.bytes
  have hr := B.returns
  have hts := w0_tail B.pre
  have hown : s.vm.findClass RX5 = some m.cls := findClass_of_methodNamed B.named
  have hlocks := B.notSynchronized
  have hin : meth.name = "<init>" := (name_of_methodNamed B.named B.method).1
  subst hsz
  have hD := hD0.self (sz := s.heap.size)
  generalize hAe : va_A [(h0, .inr (5, [.null, .null, .null, .null, .null, .null, .null, .int 0, .int 0, .int 0, .int 0, .int 0]))] s.heap.size = A at hD hE ⊢
  have hA : ∀ q : Nat, s.heap.size ≤ q → A q := fun q h => by rw [← hAe]; exact Or.inr h
  have hS : va_S A s.heap s.heap [] := va_S.rf
  obtain ⟨H, hHe⟩ : ∃ H : Heap, H = s.heap := ⟨_, rfl⟩
  have hP : va_P (DG G) clP1 [(h0, .inr (5, [.null, .null, .null, .null, .null, .null, .null, .int 0, .int 0, .int 0, .int 0, .int 0]))] H := by rw [hHe]; exact hP
  have hS : va_S A s.heap H [] := by rw [hHe]; exact hS
  have hl := lv_entry ([.ref h0, .ref t1, .ref s1, .ref d1]) (n := 4) (Nat.le_of_ble_eq_true rfl)
  rw [lg_entry_eq, ← hHe]
  generalize (lg_sl ([.ref h0, .ref t1, .ref s1, .ref d1]) ++ List.replicate (4 - (lg_sl ([.ref h0, .ref t1, .ref s1, .ref d1])).length) Slot.unset).toArray = ls at hl ⊢
  have hl : lv_has ls 4 [(0, .ref h0), (1, .ref t1), (2, .ref s1), (3, .ref d1)] := hl
  refine lv_aload_n hx hb dX5_init_0 rfl (lv_at hl 0 rfl) ?_
  refine W.objInit hx hb hown (hts _ wm260) (hts _ wm46) (hts _ wm47) rfl (by rw [hml]; exact hl.1) rfl dX5_init_1 (Nat.le_of_ble_eq_true rfl) (Nat.le_of_ble_eq_true rfl) ?_
  refine W.eq (g2 := F0 m 4 ls []) rfl ?_
  refine lv_aload_n hx hb dX5_init_4 rfl (lv_at hl 0 rfl) ?_
  refine lv_sipush (v := 4200) hx hb dX5_init_5 (by decide) ?_
  refine my_newa (atype := .int) (N' := 4200) (a0 := (4200, .inl (fun _ => 0))) (t1 := 0) hx hb (hts _ wm86) rfl rfl hK hP hD hS hA (fun _ => rfl) (by decide) (by decide) (Nat.le_of_ble_eq_true rfl) (Nat.le_of_ble_eq_true rfl) (Nat.le_of_ble_eq_true rfl) dX5_init_8 (fun q_1 H hP hD hS => ?_)
  have hP : va_P (DG G) clP1 [(h0, .inr (5, [.null, .null, .null, .null, .null, .null, .null, .int 0, .int 0, .int 0, .int 0, .int 0])), (q_1, .inl (cyA G 0, 4200, .inl (fun _ => 0)))] H := hP
  have hD : va_D A [(h0, .inr (5, [.null, .null, .null, .null, .null, .null, .null, .int 0, .int 0, .int 0, .int 0, .int 0])), (q_1, .inl (cyA G 0, 4200, .inl (fun _ => 0)))] := hD
  refine W.widen (k := 1) (n := 4200) (Nat.le_of_ble_eq_true rfl) (Nat.le_of_ble_eq_true rfl) ?_
  refine va_putF (D := DG G) (ci := 5) (v := .ref q_1) (ty := tyX5 3) (C := RX5) (T := TX5) (N := 12) hx hb hts inW_X5 tyX5 tyX5_ok nmX5 hown hK hP hD hS 0 rfl rfl 3 (by decide) (hts _ wm264) (fun _ h9 => h9) rfl hin rfl (by decide +kernel) rfl rfl (Nat.le_of_ble_eq_true rfl) dX5_init_10 (fun H locs hP hD hS => ?_)
  have hP : va_P (DG G) clP1 [(h0, .inr (5, [.null, .null, .null, .ref q_1, .null, .null, .null, .int 0, .int 0, .int 0, .int 0, .int 0])), (q_1, .inl (cyA G 0, 4200, .inl (fun _ => 0)))] H := hP
  have hD : va_D A [(h0, .inr (5, [.null, .null, .null, .ref q_1, .null, .null, .null, .int 0, .int 0, .int 0, .int 0, .int 0])), (q_1, .inl (cyA G 0, 4200, .inl (fun _ => 0)))] := hD
  refine lv_aload_n hx hb dX5_init_13 rfl (lv_at hl 0 rfl) ?_
  refine lv_sipush (v := 4200) hx hb dX5_init_14 (by decide) ?_
  refine my_newa (atype := .boolean) (N' := 4200) (a0 := (4200, .inl (fun _ => 0))) (t1 := 1) hx hb (hts _ wm87) rfl rfl hK hP hD hS hA (fun _ => rfl) (by decide) (by decide) (Nat.le_of_ble_eq_true rfl) (Nat.le_of_ble_eq_true rfl) (Nat.le_of_ble_eq_true rfl) dX5_init_17 (fun q_2 H hP hD hS => ?_)
  have hP : va_P (DG G) clP1 [(h0, .inr (5, [.null, .null, .null, .ref q_1, .null, .null, .null, .int 0, .int 0, .int 0, .int 0, .int 0])), (q_1, .inl (cyA G 0, 4200, .inl (fun _ => 0))), (q_2, .inl (cyA G 1, 4200, .inl (fun _ => 0)))] H := hP
  have hD : va_D A [(h0, .inr (5, [.null, .null, .null, .ref q_1, .null, .null, .null, .int 0, .int 0, .int 0, .int 0, .int 0])), (q_1, .inl (cyA G 0, 4200, .inl (fun _ => 0))), (q_2, .inl (cyA G 1, 4200, .inl (fun _ => 0)))] := hD
  refine W.widen (k := 2) (n := 8400) (Nat.le_of_ble_eq_true rfl) (Nat.le_of_ble_eq_true rfl) ?_
  refine va_putF (D := DG G) (ci := 5) (v := .ref q_2) (ty := tyX5 4) (C := RX5) (T := TX5) (N := 12) hx hb hts inW_X5 tyX5 tyX5_ok nmX5 hown hK hP hD hS 0 rfl rfl 4 (by decide) (hts _ wm265) (fun _ h9 => h9) rfl hin rfl (by decide +kernel) rfl rfl (Nat.le_of_ble_eq_true rfl) dX5_init_19 (fun H locs hP hD hS => ?_)
  have hP : va_P (DG G) clP1 [(h0, .inr (5, [.null, .null, .null, .ref q_1, .ref q_2, .null, .null, .int 0, .int 0, .int 0, .int 0, .int 0])), (q_1, .inl (cyA G 0, 4200, .inl (fun _ => 0))), (q_2, .inl (cyA G 1, 4200, .inl (fun _ => 0)))] H := hP
  have hD : va_D A [(h0, .inr (5, [.null, .null, .null, .ref q_1, .ref q_2, .null, .null, .int 0, .int 0, .int 0, .int 0, .int 0])), (q_1, .inl (cyA G 0, 4200, .inl (fun _ => 0))), (q_2, .inl (cyA G 1, 4200, .inl (fun _ => 0)))] := hD
  refine lv_aload_n hx hb dX5_init_22 rfl (lv_at hl 0 rfl) ?_
  refine lv_iconst (v := 4) hx hb dX5_init_23 (by decide) ?_
  refine my_newa (atype := .int) (N' := 4) (a0 := (4, .inl (fun _ => 0))) (t1 := 0) hx hb (hts _ wm86) rfl rfl hK hP hD hS hA (fun _ => rfl) (by decide) (by decide) (Nat.le_of_ble_eq_true rfl) (Nat.le_of_ble_eq_true rfl) (Nat.le_of_ble_eq_true rfl) dX5_init_24 (fun q_3 H hP hD hS => ?_)
  have hP : va_P (DG G) clP1 [(h0, .inr (5, [.null, .null, .null, .ref q_1, .ref q_2, .null, .null, .int 0, .int 0, .int 0, .int 0, .int 0])), (q_1, .inl (cyA G 0, 4200, .inl (fun _ => 0))), (q_2, .inl (cyA G 1, 4200, .inl (fun _ => 0))), (q_3, .inl (cyA G 0, 4, .inl (fun _ => 0)))] H := hP
  have hD : va_D A [(h0, .inr (5, [.null, .null, .null, .ref q_1, .ref q_2, .null, .null, .int 0, .int 0, .int 0, .int 0, .int 0])), (q_1, .inl (cyA G 0, 4200, .inl (fun _ => 0))), (q_2, .inl (cyA G 1, 4200, .inl (fun _ => 0))), (q_3, .inl (cyA G 0, 4, .inl (fun _ => 0)))] := hD
  refine W.widen (k := 3) (n := 8404) (Nat.le_of_ble_eq_true rfl) (Nat.le_of_ble_eq_true rfl) ?_
  refine va_putF (D := DG G) (ci := 5) (v := .ref q_3) (ty := tyX5 5) (C := RX5) (T := TX5) (N := 12) hx hb hts inW_X5 tyX5 tyX5_ok nmX5 hown hK hP hD hS 0 rfl rfl 5 (by decide) (hts _ wm266) (fun _ h9 => h9) rfl hin rfl (by decide +kernel) rfl rfl (Nat.le_of_ble_eq_true rfl) dX5_init_26 (fun H locs hP hD hS => ?_)
  have hP : va_P (DG G) clP1 [(h0, .inr (5, [.null, .null, .null, .ref q_1, .ref q_2, .ref q_3, .null, .int 0, .int 0, .int 0, .int 0, .int 0])), (q_1, .inl (cyA G 0, 4200, .inl (fun _ => 0))), (q_2, .inl (cyA G 1, 4200, .inl (fun _ => 0))), (q_3, .inl (cyA G 0, 4, .inl (fun _ => 0)))] H := hP
  have hD : va_D A [(h0, .inr (5, [.null, .null, .null, .ref q_1, .ref q_2, .ref q_3, .null, .int 0, .int 0, .int 0, .int 0, .int 0])), (q_1, .inl (cyA G 0, 4200, .inl (fun _ => 0))), (q_2, .inl (cyA G 1, 4200, .inl (fun _ => 0))), (q_3, .inl (cyA G 0, 4, .inl (fun _ => 0)))] := hD
  refine lv_aload_n hx hb dX5_init_29 rfl (lv_at hl 0 rfl) ?_
  refine lv_bipush (v := 12) hx hb dX5_init_30 (by decide) ?_
  refine my_newa (atype := .int) (N' := 12) (a0 := (12, .inl (fun _ => 0))) (t1 := 0) hx hb (hts _ wm86) rfl rfl hK hP hD hS hA (fun _ => rfl) (by decide) (by decide) (Nat.le_of_ble_eq_true rfl) (Nat.le_of_ble_eq_true rfl) (Nat.le_of_ble_eq_true rfl) dX5_init_32 (fun q_4 H hP hD hS => ?_)
  have hP : va_P (DG G) clP1 [(h0, .inr (5, [.null, .null, .null, .ref q_1, .ref q_2, .ref q_3, .null, .int 0, .int 0, .int 0, .int 0, .int 0])), (q_1, .inl (cyA G 0, 4200, .inl (fun _ => 0))), (q_2, .inl (cyA G 1, 4200, .inl (fun _ => 0))), (q_3, .inl (cyA G 0, 4, .inl (fun _ => 0))), (q_4, .inl (cyA G 0, 12, .inl (fun _ => 0)))] H := hP
  have hD : va_D A [(h0, .inr (5, [.null, .null, .null, .ref q_1, .ref q_2, .ref q_3, .null, .int 0, .int 0, .int 0, .int 0, .int 0])), (q_1, .inl (cyA G 0, 4200, .inl (fun _ => 0))), (q_2, .inl (cyA G 1, 4200, .inl (fun _ => 0))), (q_3, .inl (cyA G 0, 4, .inl (fun _ => 0))), (q_4, .inl (cyA G 0, 12, .inl (fun _ => 0)))] := hD
  refine W.widen (k := 4) (n := 8416) (Nat.le_of_ble_eq_true rfl) (Nat.le_of_ble_eq_true rfl) ?_
  refine va_putF (D := DG G) (ci := 5) (v := .ref q_4) (ty := tyX5 6) (C := RX5) (T := TX5) (N := 12) hx hb hts inW_X5 tyX5 tyX5_ok nmX5 hown hK hP hD hS 0 rfl rfl 6 (by decide) (hts _ wm267) (fun _ h9 => h9) rfl hin rfl (by decide +kernel) rfl rfl (Nat.le_of_ble_eq_true rfl) dX5_init_34 (fun H locs hP hD hS => ?_)
  have hP : va_P (DG G) clP1 [(h0, .inr (5, [.null, .null, .null, .ref q_1, .ref q_2, .ref q_3, .ref q_4, .int 0, .int 0, .int 0, .int 0, .int 0])), (q_1, .inl (cyA G 0, 4200, .inl (fun _ => 0))), (q_2, .inl (cyA G 1, 4200, .inl (fun _ => 0))), (q_3, .inl (cyA G 0, 4, .inl (fun _ => 0))), (q_4, .inl (cyA G 0, 12, .inl (fun _ => 0)))] H := hP
  have hD : va_D A [(h0, .inr (5, [.null, .null, .null, .ref q_1, .ref q_2, .ref q_3, .ref q_4, .int 0, .int 0, .int 0, .int 0, .int 0])), (q_1, .inl (cyA G 0, 4200, .inl (fun _ => 0))), (q_2, .inl (cyA G 1, 4200, .inl (fun _ => 0))), (q_3, .inl (cyA G 0, 4, .inl (fun _ => 0))), (q_4, .inl (cyA G 0, 12, .inl (fun _ => 0)))] := hD
  refine lv_aload_n hx hb dX5_init_37 rfl (lv_at hl 0 rfl) ?_
  refine lv_aload_n hx hb dX5_init_38 rfl (lv_at hl 1 rfl) ?_
  refine va_putF (D := DG G) (ci := 5) (v := .ref t1) (ty := tyX5 0) (C := RX5) (T := TX5) (N := 12) hx hb hts inW_X5 tyX5 tyX5_ok nmX5 hown hK hP hD hS 0 rfl rfl 0 (by decide) (hts _ wm261) (fun _ h9 => h9) rfl hin rfl (by decide +kernel) rfl rfl (Nat.le_of_ble_eq_true rfl) dX5_init_39 (fun H locs hP hD hS => ?_)
  have hP : va_P (DG G) clP1 [(h0, .inr (5, [.ref t1, .null, .null, .ref q_1, .ref q_2, .ref q_3, .ref q_4, .int 0, .int 0, .int 0, .int 0, .int 0])), (q_1, .inl (cyA G 0, 4200, .inl (fun _ => 0))), (q_2, .inl (cyA G 1, 4200, .inl (fun _ => 0))), (q_3, .inl (cyA G 0, 4, .inl (fun _ => 0))), (q_4, .inl (cyA G 0, 12, .inl (fun _ => 0)))] H := hP
  have hD : va_D A [(h0, .inr (5, [.ref t1, .null, .null, .ref q_1, .ref q_2, .ref q_3, .ref q_4, .int 0, .int 0, .int 0, .int 0, .int 0])), (q_1, .inl (cyA G 0, 4200, .inl (fun _ => 0))), (q_2, .inl (cyA G 1, 4200, .inl (fun _ => 0))), (q_3, .inl (cyA G 0, 4, .inl (fun _ => 0))), (q_4, .inl (cyA G 0, 12, .inl (fun _ => 0)))] := hD
  refine lv_aload_n hx hb dX5_init_42 rfl (lv_at hl 0 rfl) ?_
  refine lv_aload_n hx hb dX5_init_43 rfl (lv_at hl 2 rfl) ?_
  refine va_putF (D := DG G) (ci := 5) (v := .ref s1) (ty := tyX5 1) (C := RX5) (T := TX5) (N := 12) hx hb hts inW_X5 tyX5 tyX5_ok nmX5 hown hK hP hD hS 0 rfl rfl 1 (by decide) (hts _ wm262) (fun _ h9 => h9) rfl hin rfl (by decide +kernel) rfl rfl (Nat.le_of_ble_eq_true rfl) dX5_init_44 (fun H locs hP hD hS => ?_)
  have hP : va_P (DG G) clP1 [(h0, .inr (5, [.ref t1, .ref s1, .null, .ref q_1, .ref q_2, .ref q_3, .ref q_4, .int 0, .int 0, .int 0, .int 0, .int 0])), (q_1, .inl (cyA G 0, 4200, .inl (fun _ => 0))), (q_2, .inl (cyA G 1, 4200, .inl (fun _ => 0))), (q_3, .inl (cyA G 0, 4, .inl (fun _ => 0))), (q_4, .inl (cyA G 0, 12, .inl (fun _ => 0)))] H := hP
  have hD : va_D A [(h0, .inr (5, [.ref t1, .ref s1, .null, .ref q_1, .ref q_2, .ref q_3, .ref q_4, .int 0, .int 0, .int 0, .int 0, .int 0])), (q_1, .inl (cyA G 0, 4200, .inl (fun _ => 0))), (q_2, .inl (cyA G 1, 4200, .inl (fun _ => 0))), (q_3, .inl (cyA G 0, 4, .inl (fun _ => 0))), (q_4, .inl (cyA G 0, 12, .inl (fun _ => 0)))] := hD
  refine lv_aload_n hx hb dX5_init_47 rfl (lv_at hl 0 rfl) ?_
  refine lv_aload_n hx hb dX5_init_48 rfl (lv_at hl 3 rfl) ?_
  refine va_putF (D := DG G) (ci := 5) (v := .ref d1) (ty := tyX5 2) (C := RX5) (T := TX5) (N := 12) hx hb hts inW_X5 tyX5 tyX5_ok nmX5 hown hK hP hD hS 0 rfl rfl 2 (by decide) (hts _ wm263) (fun _ h9 => h9) rfl hin rfl (by decide +kernel) rfl rfl (Nat.le_of_ble_eq_true rfl) dX5_init_49 (fun H locs hP hD hS => ?_)
  have hP : va_P (DG G) clP1 [(h0, .inr (5, [.ref t1, .ref s1, .ref d1, .ref q_1, .ref q_2, .ref q_3, .ref q_4, .int 0, .int 0, .int 0, .int 0, .int 0])), (q_1, .inl (cyA G 0, 4200, .inl (fun _ => 0))), (q_2, .inl (cyA G 1, 4200, .inl (fun _ => 0))), (q_3, .inl (cyA G 0, 4, .inl (fun _ => 0))), (q_4, .inl (cyA G 0, 12, .inl (fun _ => 0)))] H := hP
  have hD : va_D A [(h0, .inr (5, [.ref t1, .ref s1, .ref d1, .ref q_1, .ref q_2, .ref q_3, .ref q_4, .int 0, .int 0, .int 0, .int 0, .int 0])), (q_1, .inl (cyA G 0, 4200, .inl (fun _ => 0))), (q_2, .inl (cyA G 1, 4200, .inl (fun _ => 0))), (q_3, .inl (cyA G 0, 4, .inl (fun _ => 0))), (q_4, .inl (cyA G 0, 12, .inl (fun _ => 0)))] := hD
  have hP9 := hP.sub (ws' := []) [] rfl
  have hD9 := hD.sub (ws' := []) [] (by decide) rfl
  refine W.widen (k := 4) (n := 8416) (Nat.le_of_ble_eq_true rfl) (Nat.le_of_ble_eq_true rfl) ?_
  exact W.vret hx hb hr (fun t ht hW => ⟨⟨(), rfl, trivial, ⟨by rw [ht]; exact hP9, hD9⟩⟩, hS.F ht⟩) hS.2.2 dX5_init_52 hlocks
set_option maxHeartbeats 4000000 in
set_option maxRecDepth 100000 in
theorem k_X11_init (l : Launch) (hfl : l.stackTraces = false) (G : GC) (h0 : Nat) (sz : Nat) : Met l yX11_init (Cond.code yX11_init cX11_init 1 none :: W0) ({ frames := 3, cells := 36, slots := 304131, locals := 59 }) (va_Pc [.ref h0] (WD G [(h0, .inr (10, [.null, .null, .null, .null, .null, .null, .null, .null, .int 0, .long 0]))] sz)) (va_Qv (fun _ : Unit => True) (fun _ t => ∃ (zz0 : Nat) (zz1 : Nat) (zz2 : Nat) (zz3 : Nat) (zz4 : Nat) (zz5 : Nat) (zz6 : Nat) (zz7 : Nat) (zz8 : Nat) (zz9 : Nat) (zz10 : Nat) (zz11 : Nat) (zz12 : Nat) (zz13 : Nat) (zz14 : Nat) (zz15 : Nat) (zz16 : Nat) (zz17 : Nat) (zz18 : Nat) (zz19 : Nat) (zz20 : Nat) (zz21 : Nat) (zz22 : Nat) (zz23 : Nat) (zz24 : Nat) (zz25 : Nat), PW G (va_A [(h0, .inr (10, [.null, .null, .null, .null, .null, .null, .null, .null, .int 0, .long 0]))] sz) [(h0, .inr (10, [.ref zz0, .ref zz1, .ref zz2, .ref zz3, .ref zz4, .ref zz5, .ref zz6, .ref zz7, .int 0, .long 0])), (zz0, .inr (8, [.ref zz8, .ref zz9, .ref zz10, .ref zz11, .ref zz12, .ref zz13, .ref zz14, .ref zz15, .ref zz16, .int 0])), (zz8, .inl (cyA G 0, 32768, .inl (fun _ => 0))), (zz9, .inl (cyA G 0, 32768, .inl (fun _ => 0))), (zz10, .inl (cyA G 0, 32768, .inl (fun _ => 0))), (zz11, .inl (cyA G 0, 32768, .inl (fun _ => 0))), (zz12, .inl (cyA G 0, 32768, .inl (fun _ => 0))), (zz13, .inl (cyA G 0, 32768, .inl (fun _ => 0))), (zz14, .inl (cyA G 0, 32768, .inl (fun _ => 0))), (zz15, .inl (cyA G 1, 32768, .inl (fun _ => 0))), (zz2, .inr (6, [.ref zz0, .ref zz17, .ref zz18, .ref zz19, .ref zz20, .ref zz21, .ref zz22, .ref zz23, .int 0, .int 0])), (zz3, .inr (2, [.ref zz0, .ref zz1, .ref zz2, .ref zz24, .ref zz25, .int 0, .int 0, .int 0])), (zz7, .inl (cyA G 0, 250, .inl (fun _ => 0)))] t) (va_A [(h0, .inr (10, [.null, .null, .null, .null, .null, .null, .null, .null, .int 0, .long 0]))] sz)) 36 304131 (va_A [(h0, .inr (10, [.null, .null, .null, .null, .null, .null, .null, .null, .int 0, .long 0]))] sz) := by
  refine Met.ofW (cc := cX11_init) (maxL := 1) (ret := none) (by decide) rfl ?_
  intro p e s m args below meth c s₁ B hml hv
  obtain ⟨rfl, hsz, hP, hK, hD0, hE⟩ := hv
  have hx := B.exec
  have hb := B.bytes
  have hr := B.returns
  have hts := w0_tail B.pre
  have hown : s.vm.findClass RX11 = some m.cls := findClass_of_methodNamed B.named
  have hlocks := B.notSynchronized
  have hin : meth.name = "<init>" := (name_of_methodNamed B.named B.method).1
  subst hsz
  have hD := hD0.self (sz := s.heap.size)
  generalize hAe : va_A [(h0, .inr (10, [.null, .null, .null, .null, .null, .null, .null, .null, .int 0, .long 0]))] s.heap.size = A at hD hE ⊢
  have hA : ∀ q : Nat, s.heap.size ≤ q → A q := fun q h => by rw [← hAe]; exact Or.inr h
  have hS : va_S A s.heap s.heap [] := va_S.rf
  obtain ⟨H, hHe⟩ : ∃ H : Heap, H = s.heap := ⟨_, rfl⟩
  have hP : va_P (DG G) clP1 [(h0, .inr (10, [.null, .null, .null, .null, .null, .null, .null, .null, .int 0, .long 0]))] H := by rw [hHe]; exact hP
  have hS : va_S A s.heap H [] := by rw [hHe]; exact hS
  have hl := lv_entry ([.ref h0]) (n := 1) (Nat.le_of_ble_eq_true rfl)
  rw [lg_entry_eq, ← hHe]
  generalize (lg_sl ([.ref h0]) ++ List.replicate (1 - (lg_sl ([.ref h0])).length) Slot.unset).toArray = ls at hl ⊢
  have hl : lv_has ls 1 [(0, .ref h0)] := hl
  refine lv_aload_n hx hb dX11_init_0 rfl (lv_at hl 0 rfl) ?_
  refine W.objInit hx hb hown (hts _ wm45) (hts _ wm46) (hts _ wm47) rfl (by rw [hml]; exact hl.1) rfl dX11_init_1 (Nat.le_of_ble_eq_true rfl) (Nat.le_of_ble_eq_true rfl) ?_
  refine W.eq (g2 := F0 m 4 ls []) rfl ?_
  refine lv_aload_n hx hb dX11_init_4 rfl (lv_at hl 0 rfl) ?_
  refine va_new (ci := 8) (fs := [.null, .null, .null, .null, .null, .null, .null, .null, .null, .int 0]) (C := RX9) (T := TX9) (N := 10) hx hb hts inW_X9 tyX9 tyX9_ok hown (hts _ wm48) (hts _ wm49) (hts _ wm2) hK hP hD hS hA rfl (by decide +kernel) (Nat.le_of_ble_eq_true rfl) (Nat.le_of_ble_eq_true rfl) dX11_init_5 (fun q_1 H hP hD hS => ?_)
  have hP : va_P (DG G) clP1 [(h0, .inr (10, [.null, .null, .null, .null, .null, .null, .null, .null, .int 0, .long 0])), (q_1, .inr (8, [.null, .null, .null, .null, .null, .null, .null, .null, .null, .int 0]))] H := hP
  have hD : va_D A [(h0, .inr (10, [.null, .null, .null, .null, .null, .null, .null, .null, .int 0, .long 0])), (q_1, .inr (8, [.null, .null, .null, .null, .null, .null, .null, .null, .null, .int 0]))] := hD
  refine W.widen (k := 1) (n := 10) (Nat.le_of_ble_eq_true rfl) (Nat.le_of_ble_eq_true rfl) ?_
  refine lv_dup hx hb dX11_init_8 rfl ?_
  have hFc := va_free (wc := [(q_1, .inr (8, [.null, .null, .null, .null, .null, .null, .null, .null, .null, .int 0]))]) hD hS hA [1] rfl
  refine va_callv (va_runIN (As := []) (rest := [.ref q_1, .ref h0]) ⟨hx, hb, hml, hown, hts⟩ (k_X9_init l hfl G q_1 H.size) ⟨va_cnB 0 hts (gC wm52) rfl rfl rfl (hE.1 _ nw50) (hts _ wm2) (by decide +kernel) ⟨Nat.le_of_ble_eq_true rfl, Nat.le_of_ble_eq_true rfl⟩, rfl, hts _ wm51⟩ (pre_s hK hP hD hS hE [1] rfl rfl (by decide) hFc) rfl rfl hl.1 rfl (lv_room (Nat.le_of_ble_eq_true rfl)) dX11_init_9 ⟨Nat.le_of_ble_eq_true rfl, Nat.le_of_ble_eq_true rfl⟩) hS (fun q _ h => hFc q h) hFc (fun u t H locs ht hvm hw hB hz1 hk1 hS => ?_)
  obtain ⟨q_2, q_3, q_4, q_5, q_6, q_7, q_8, q_9, q_10, hP1, hD1⟩ := hB
  rw [ht] at hP1
  obtain ⟨hP, hD⟩ := va_join (wr := [(h0, .inr (10, [.null, .null, .null, .null, .null, .null, .null, .null, .int 0, .long 0]))]) (w1 := [(q_1, .inr (8, [.ref q_2, .ref q_3, .ref q_4, .ref q_5, .ref q_6, .ref q_7, .ref q_8, .ref q_9, .ref q_10, .int 0])), (q_2, .inl (cyA G 0, 32768, .inl (fun _ => 0))), (q_3, .inl (cyA G 0, 32768, .inl (fun _ => 0))), (q_4, .inl (cyA G 0, 32768, .inl (fun _ => 0))), (q_5, .inl (cyA G 0, 32768, .inl (fun _ => 0))), (q_6, .inl (cyA G 0, 32768, .inl (fun _ => 0))), (q_7, .inl (cyA G 0, 32768, .inl (fun _ => 0))), (q_8, .inl (cyA G 0, 32768, .inl (fun _ => 0))), (q_9, .inl (cyA G 1, 32768, .inl (fun _ => 0)))]) hP hD [1] [0] rfl rfl (by decide) (by decide) hk1 hFc hP1 hD1
  have hP : va_P (DG G) clP1 [(h0, .inr (10, [.null, .null, .null, .null, .null, .null, .null, .null, .int 0, .long 0])), (q_1, .inr (8, [.ref q_2, .ref q_3, .ref q_4, .ref q_5, .ref q_6, .ref q_7, .ref q_8, .ref q_9, .ref q_10, .int 0])), (q_2, .inl (cyA G 0, 32768, .inl (fun _ => 0))), (q_3, .inl (cyA G 0, 32768, .inl (fun _ => 0))), (q_4, .inl (cyA G 0, 32768, .inl (fun _ => 0))), (q_5, .inl (cyA G 0, 32768, .inl (fun _ => 0))), (q_6, .inl (cyA G 0, 32768, .inl (fun _ => 0))), (q_7, .inl (cyA G 0, 32768, .inl (fun _ => 0))), (q_8, .inl (cyA G 0, 32768, .inl (fun _ => 0))), (q_9, .inl (cyA G 1, 32768, .inl (fun _ => 0)))] H := hP
  have hD : va_D A [(h0, .inr (10, [.null, .null, .null, .null, .null, .null, .null, .null, .int 0, .long 0])), (q_1, .inr (8, [.ref q_2, .ref q_3, .ref q_4, .ref q_5, .ref q_6, .ref q_7, .ref q_8, .ref q_9, .ref q_10, .int 0])), (q_2, .inl (cyA G 0, 32768, .inl (fun _ => 0))), (q_3, .inl (cyA G 0, 32768, .inl (fun _ => 0))), (q_4, .inl (cyA G 0, 32768, .inl (fun _ => 0))), (q_5, .inl (cyA G 0, 32768, .inl (fun _ => 0))), (q_6, .inl (cyA G 0, 32768, .inl (fun _ => 0))), (q_7, .inl (cyA G 0, 32768, .inl (fun _ => 0))), (q_8, .inl (cyA G 0, 32768, .inl (fun _ => 0))), (q_9, .inl (cyA G 1, 32768, .inl (fun _ => 0)))] := hD
  refine W.widen (k := 10) (n := 294922) (Nat.le_of_ble_eq_true rfl) (Nat.le_of_ble_eq_true rfl) ?_
  refine va_putF (D := DG G) (ci := 10) (v := .ref q_1) (ty := tyX11 0) (C := RX11) (T := TX11) (N := 10) hx hb hts inW_X11 tyX11 tyX11_ok nmX11 hown hK hP hD hS 0 rfl rfl 0 (by decide) (hts _ wm299) (fun _ h9 => h9) rfl hin rfl (by decide +kernel) rfl rfl (Nat.le_of_ble_eq_true rfl) dX11_init_12 (fun H locs hP hD hS => ?_)
  have hP : va_P (DG G) clP1 [(h0, .inr (10, [.ref q_1, .null, .null, .null, .null, .null, .null, .null, .int 0, .long 0])), (q_1, .inr (8, [.ref q_2, .ref q_3, .ref q_4, .ref q_5, .ref q_6, .ref q_7, .ref q_8, .ref q_9, .ref q_10, .int 0])), (q_2, .inl (cyA G 0, 32768, .inl (fun _ => 0))), (q_3, .inl (cyA G 0, 32768, .inl (fun _ => 0))), (q_4, .inl (cyA G 0, 32768, .inl (fun _ => 0))), (q_5, .inl (cyA G 0, 32768, .inl (fun _ => 0))), (q_6, .inl (cyA G 0, 32768, .inl (fun _ => 0))), (q_7, .inl (cyA G 0, 32768, .inl (fun _ => 0))), (q_8, .inl (cyA G 0, 32768, .inl (fun _ => 0))), (q_9, .inl (cyA G 1, 32768, .inl (fun _ => 0)))] H := hP
  have hD : va_D A [(h0, .inr (10, [.ref q_1, .null, .null, .null, .null, .null, .null, .null, .int 0, .long 0])), (q_1, .inr (8, [.ref q_2, .ref q_3, .ref q_4, .ref q_5, .ref q_6, .ref q_7, .ref q_8, .ref q_9, .ref q_10, .int 0])), (q_2, .inl (cyA G 0, 32768, .inl (fun _ => 0))), (q_3, .inl (cyA G 0, 32768, .inl (fun _ => 0))), (q_4, .inl (cyA G 0, 32768, .inl (fun _ => 0))), (q_5, .inl (cyA G 0, 32768, .inl (fun _ => 0))), (q_6, .inl (cyA G 0, 32768, .inl (fun _ => 0))), (q_7, .inl (cyA G 0, 32768, .inl (fun _ => 0))), (q_8, .inl (cyA G 0, 32768, .inl (fun _ => 0))), (q_9, .inl (cyA G 1, 32768, .inl (fun _ => 0)))] := hD
  refine lv_aload_n hx hb dX11_init_15 rfl (lv_at hl 0 rfl) ?_
  refine va_new (ci := 3) (fs := [.null, .null, .int 0]) (C := RX1) (T := TX1) (N := 3) hx hb hts inW_X1 tyX1 tyX1_ok hown (hts _ wm88) (hts _ wm89) (hts _ wm3) hK hP hD hS hA rfl (by decide +kernel) (Nat.le_of_ble_eq_true rfl) (Nat.le_of_ble_eq_true rfl) dX11_init_16 (fun q_11 H hP hD hS => ?_)
  have hP : va_P (DG G) clP1 [(h0, .inr (10, [.ref q_1, .null, .null, .null, .null, .null, .null, .null, .int 0, .long 0])), (q_1, .inr (8, [.ref q_2, .ref q_3, .ref q_4, .ref q_5, .ref q_6, .ref q_7, .ref q_8, .ref q_9, .ref q_10, .int 0])), (q_2, .inl (cyA G 0, 32768, .inl (fun _ => 0))), (q_3, .inl (cyA G 0, 32768, .inl (fun _ => 0))), (q_4, .inl (cyA G 0, 32768, .inl (fun _ => 0))), (q_5, .inl (cyA G 0, 32768, .inl (fun _ => 0))), (q_6, .inl (cyA G 0, 32768, .inl (fun _ => 0))), (q_7, .inl (cyA G 0, 32768, .inl (fun _ => 0))), (q_8, .inl (cyA G 0, 32768, .inl (fun _ => 0))), (q_9, .inl (cyA G 1, 32768, .inl (fun _ => 0))), (q_11, .inr (3, [.null, .null, .int 0]))] H := hP
  have hD : va_D A [(h0, .inr (10, [.ref q_1, .null, .null, .null, .null, .null, .null, .null, .int 0, .long 0])), (q_1, .inr (8, [.ref q_2, .ref q_3, .ref q_4, .ref q_5, .ref q_6, .ref q_7, .ref q_8, .ref q_9, .ref q_10, .int 0])), (q_2, .inl (cyA G 0, 32768, .inl (fun _ => 0))), (q_3, .inl (cyA G 0, 32768, .inl (fun _ => 0))), (q_4, .inl (cyA G 0, 32768, .inl (fun _ => 0))), (q_5, .inl (cyA G 0, 32768, .inl (fun _ => 0))), (q_6, .inl (cyA G 0, 32768, .inl (fun _ => 0))), (q_7, .inl (cyA G 0, 32768, .inl (fun _ => 0))), (q_8, .inl (cyA G 0, 32768, .inl (fun _ => 0))), (q_9, .inl (cyA G 1, 32768, .inl (fun _ => 0))), (q_11, .inr (3, [.null, .null, .int 0]))] := hD
  refine W.widen (k := 11) (n := 294925) (Nat.le_of_ble_eq_true rfl) (Nat.le_of_ble_eq_true rfl) ?_
  refine lv_dup hx hb dX11_init_19 rfl ?_
  refine lv_aload_n hx hb dX11_init_20 rfl (lv_at hl 0 rfl) ?_
  refine va_get (D := DG G) (ci := 10) (v := .ref q_1) (C := RX11) (T := TX11) (N := 10) hx hb hts inW_X11 hown hK hP 0 rfl rfl 0 (by decide) (hts _ wm299) (fun _ h9 => h9) rfl dX11_init_21 ?_
  have hFc := va_free (wc := [(q_11, .inr (3, [.null, .null, .int 0]))]) hD hS hA [10] rfl
  refine va_callv (va_runI (As := [.ref q_1]) (rest := [.ref q_11, .ref h0]) ⟨hx, hb, hml, hown, hts⟩ (k_X1_init l hfl G q_11 q_1 H.size) (cwI 1 hts (gC wm92) rfl rfl rfl (hts _ wm3) (hts _ wm90) (hts _ wm91) rfl (by decide +kernel) ⟨Nat.le_of_ble_eq_true rfl, Nat.le_of_ble_eq_true rfl⟩) (pre_s hK hP hD hS hE [10] rfl rfl (by decide) hFc) rfl rfl hl.1 rfl (lv_room (Nat.le_of_ble_eq_true rfl)) dX11_init_24 ⟨Nat.le_of_ble_eq_true rfl, Nat.le_of_ble_eq_true rfl⟩) hS (fun q _ h => hFc q h) hFc (fun u t H locs ht hvm hw hB hz1 hk1 hS => ?_)
  obtain ⟨hP1, hD1⟩ := hB
  rw [ht] at hP1
  obtain ⟨hP, hD⟩ := va_join (wr := [(h0, .inr (10, [.ref q_1, .null, .null, .null, .null, .null, .null, .null, .int 0, .long 0])), (q_1, .inr (8, [.ref q_2, .ref q_3, .ref q_4, .ref q_5, .ref q_6, .ref q_7, .ref q_8, .ref q_9, .ref q_10, .int 0])), (q_2, .inl (cyA G 0, 32768, .inl (fun _ => 0))), (q_3, .inl (cyA G 0, 32768, .inl (fun _ => 0))), (q_4, .inl (cyA G 0, 32768, .inl (fun _ => 0))), (q_5, .inl (cyA G 0, 32768, .inl (fun _ => 0))), (q_6, .inl (cyA G 0, 32768, .inl (fun _ => 0))), (q_7, .inl (cyA G 0, 32768, .inl (fun _ => 0))), (q_8, .inl (cyA G 0, 32768, .inl (fun _ => 0))), (q_9, .inl (cyA G 1, 32768, .inl (fun _ => 0)))]) (w1 := []) hP hD [10] [0, 1, 2, 3, 4, 5, 6, 7, 8, 9] rfl rfl (by decide) (by decide) hk1 hFc hP1 hD1
  have hP : va_P (DG G) clP1 [(h0, .inr (10, [.ref q_1, .null, .null, .null, .null, .null, .null, .null, .int 0, .long 0])), (q_1, .inr (8, [.ref q_2, .ref q_3, .ref q_4, .ref q_5, .ref q_6, .ref q_7, .ref q_8, .ref q_9, .ref q_10, .int 0])), (q_2, .inl (cyA G 0, 32768, .inl (fun _ => 0))), (q_3, .inl (cyA G 0, 32768, .inl (fun _ => 0))), (q_4, .inl (cyA G 0, 32768, .inl (fun _ => 0))), (q_5, .inl (cyA G 0, 32768, .inl (fun _ => 0))), (q_6, .inl (cyA G 0, 32768, .inl (fun _ => 0))), (q_7, .inl (cyA G 0, 32768, .inl (fun _ => 0))), (q_8, .inl (cyA G 0, 32768, .inl (fun _ => 0))), (q_9, .inl (cyA G 1, 32768, .inl (fun _ => 0)))] H := hP
  have hD : va_D A [(h0, .inr (10, [.ref q_1, .null, .null, .null, .null, .null, .null, .null, .int 0, .long 0])), (q_1, .inr (8, [.ref q_2, .ref q_3, .ref q_4, .ref q_5, .ref q_6, .ref q_7, .ref q_8, .ref q_9, .ref q_10, .int 0])), (q_2, .inl (cyA G 0, 32768, .inl (fun _ => 0))), (q_3, .inl (cyA G 0, 32768, .inl (fun _ => 0))), (q_4, .inl (cyA G 0, 32768, .inl (fun _ => 0))), (q_5, .inl (cyA G 0, 32768, .inl (fun _ => 0))), (q_6, .inl (cyA G 0, 32768, .inl (fun _ => 0))), (q_7, .inl (cyA G 0, 32768, .inl (fun _ => 0))), (q_8, .inl (cyA G 0, 32768, .inl (fun _ => 0))), (q_9, .inl (cyA G 1, 32768, .inl (fun _ => 0)))] := hD
  refine W.widen (k := 12) (n := 295005) (Nat.le_of_ble_eq_true rfl) (Nat.le_of_ble_eq_true rfl) ?_
  refine va_putF (D := DG G) (ci := 10) (v := .ref q_11) (ty := tyX11 1) (C := RX11) (T := TX11) (N := 10) hx hb hts inW_X11 tyX11 tyX11_ok nmX11 hown hK hP hD hS 0 rfl rfl 1 (by decide) (hts _ wm300) (fun _ h9 => h9) rfl hin rfl (by decide +kernel) rfl rfl (Nat.le_of_ble_eq_true rfl) dX11_init_27 (fun H locs hP hD hS => ?_)
  have hP : va_P (DG G) clP1 [(h0, .inr (10, [.ref q_1, .ref q_11, .null, .null, .null, .null, .null, .null, .int 0, .long 0])), (q_1, .inr (8, [.ref q_2, .ref q_3, .ref q_4, .ref q_5, .ref q_6, .ref q_7, .ref q_8, .ref q_9, .ref q_10, .int 0])), (q_2, .inl (cyA G 0, 32768, .inl (fun _ => 0))), (q_3, .inl (cyA G 0, 32768, .inl (fun _ => 0))), (q_4, .inl (cyA G 0, 32768, .inl (fun _ => 0))), (q_5, .inl (cyA G 0, 32768, .inl (fun _ => 0))), (q_6, .inl (cyA G 0, 32768, .inl (fun _ => 0))), (q_7, .inl (cyA G 0, 32768, .inl (fun _ => 0))), (q_8, .inl (cyA G 0, 32768, .inl (fun _ => 0))), (q_9, .inl (cyA G 1, 32768, .inl (fun _ => 0)))] H := hP
  have hD : va_D A [(h0, .inr (10, [.ref q_1, .ref q_11, .null, .null, .null, .null, .null, .null, .int 0, .long 0])), (q_1, .inr (8, [.ref q_2, .ref q_3, .ref q_4, .ref q_5, .ref q_6, .ref q_7, .ref q_8, .ref q_9, .ref q_10, .int 0])), (q_2, .inl (cyA G 0, 32768, .inl (fun _ => 0))), (q_3, .inl (cyA G 0, 32768, .inl (fun _ => 0))), (q_4, .inl (cyA G 0, 32768, .inl (fun _ => 0))), (q_5, .inl (cyA G 0, 32768, .inl (fun _ => 0))), (q_6, .inl (cyA G 0, 32768, .inl (fun _ => 0))), (q_7, .inl (cyA G 0, 32768, .inl (fun _ => 0))), (q_8, .inl (cyA G 0, 32768, .inl (fun _ => 0))), (q_9, .inl (cyA G 1, 32768, .inl (fun _ => 0)))] := hD
  refine lv_aload_n hx hb dX11_init_30 rfl (lv_at hl 0 rfl) ?_
  refine va_new (ci := 6) (fs := [.null, .null, .null, .null, .null, .null, .null, .null, .int 0, .int 0]) (C := RX7) (T := TX7) (N := 10) hx hb hts inW_X7 tyX7 tyX7_ok hown (hts _ wm104) (hts _ wm105) (hts _ wm4) hK hP hD hS hA rfl (by decide +kernel) (Nat.le_of_ble_eq_true rfl) (Nat.le_of_ble_eq_true rfl) dX11_init_31 (fun q_12 H hP hD hS => ?_)
  have hP : va_P (DG G) clP1 [(h0, .inr (10, [.ref q_1, .ref q_11, .null, .null, .null, .null, .null, .null, .int 0, .long 0])), (q_1, .inr (8, [.ref q_2, .ref q_3, .ref q_4, .ref q_5, .ref q_6, .ref q_7, .ref q_8, .ref q_9, .ref q_10, .int 0])), (q_2, .inl (cyA G 0, 32768, .inl (fun _ => 0))), (q_3, .inl (cyA G 0, 32768, .inl (fun _ => 0))), (q_4, .inl (cyA G 0, 32768, .inl (fun _ => 0))), (q_5, .inl (cyA G 0, 32768, .inl (fun _ => 0))), (q_6, .inl (cyA G 0, 32768, .inl (fun _ => 0))), (q_7, .inl (cyA G 0, 32768, .inl (fun _ => 0))), (q_8, .inl (cyA G 0, 32768, .inl (fun _ => 0))), (q_9, .inl (cyA G 1, 32768, .inl (fun _ => 0))), (q_12, .inr (6, [.null, .null, .null, .null, .null, .null, .null, .null, .int 0, .int 0]))] H := hP
  have hD : va_D A [(h0, .inr (10, [.ref q_1, .ref q_11, .null, .null, .null, .null, .null, .null, .int 0, .long 0])), (q_1, .inr (8, [.ref q_2, .ref q_3, .ref q_4, .ref q_5, .ref q_6, .ref q_7, .ref q_8, .ref q_9, .ref q_10, .int 0])), (q_2, .inl (cyA G 0, 32768, .inl (fun _ => 0))), (q_3, .inl (cyA G 0, 32768, .inl (fun _ => 0))), (q_4, .inl (cyA G 0, 32768, .inl (fun _ => 0))), (q_5, .inl (cyA G 0, 32768, .inl (fun _ => 0))), (q_6, .inl (cyA G 0, 32768, .inl (fun _ => 0))), (q_7, .inl (cyA G 0, 32768, .inl (fun _ => 0))), (q_8, .inl (cyA G 0, 32768, .inl (fun _ => 0))), (q_9, .inl (cyA G 1, 32768, .inl (fun _ => 0))), (q_12, .inr (6, [.null, .null, .null, .null, .null, .null, .null, .null, .int 0, .int 0]))] := hD
  refine W.widen (k := 13) (n := 295015) (Nat.le_of_ble_eq_true rfl) (Nat.le_of_ble_eq_true rfl) ?_
  refine lv_dup hx hb dX11_init_34 rfl ?_
  refine lv_aload_n hx hb dX11_init_35 rfl (lv_at hl 0 rfl) ?_
  refine va_get (D := DG G) (ci := 10) (v := .ref q_1) (C := RX11) (T := TX11) (N := 10) hx hb hts inW_X11 hown hK hP 0 rfl rfl 0 (by decide) (hts _ wm299) (fun _ h9 => h9) rfl dX11_init_36 ?_
  have hFc := va_free (wc := [(q_12, .inr (6, [.null, .null, .null, .null, .null, .null, .null, .null, .int 0, .int 0]))]) hD hS hA [10] rfl
  refine va_callv (va_runI (As := [.ref q_1]) (rest := [.ref q_12, .ref h0]) ⟨hx, hb, hml, hown, hts⟩ (k_X7_init l hfl G q_12 q_1 H.size) (cwI 1 hts (gC wm108) rfl rfl rfl (hts _ wm4) (hts _ wm106) (hts _ wm107) rfl (by decide +kernel) ⟨Nat.le_of_ble_eq_true rfl, Nat.le_of_ble_eq_true rfl⟩) (pre_s hK hP hD hS hE [10] rfl rfl (by decide) hFc) rfl rfl hl.1 rfl (lv_room (Nat.le_of_ble_eq_true rfl)) dX11_init_39 ⟨Nat.le_of_ble_eq_true rfl, Nat.le_of_ble_eq_true rfl⟩) hS (fun q _ h => hFc q h) hFc (fun u t H locs ht hvm hw hB hz1 hk1 hS => ?_)
  obtain ⟨q_13, q_14, q_15, q_16, q_17, q_18, q_19, hP1, hD1⟩ := hB
  rw [ht] at hP1
  obtain ⟨hP, hD⟩ := va_join (wr := [(h0, .inr (10, [.ref q_1, .ref q_11, .null, .null, .null, .null, .null, .null, .int 0, .long 0])), (q_1, .inr (8, [.ref q_2, .ref q_3, .ref q_4, .ref q_5, .ref q_6, .ref q_7, .ref q_8, .ref q_9, .ref q_10, .int 0])), (q_2, .inl (cyA G 0, 32768, .inl (fun _ => 0))), (q_3, .inl (cyA G 0, 32768, .inl (fun _ => 0))), (q_4, .inl (cyA G 0, 32768, .inl (fun _ => 0))), (q_5, .inl (cyA G 0, 32768, .inl (fun _ => 0))), (q_6, .inl (cyA G 0, 32768, .inl (fun _ => 0))), (q_7, .inl (cyA G 0, 32768, .inl (fun _ => 0))), (q_8, .inl (cyA G 0, 32768, .inl (fun _ => 0))), (q_9, .inl (cyA G 1, 32768, .inl (fun _ => 0)))]) (w1 := [(q_12, .inr (6, [.ref q_1, .ref q_13, .ref q_14, .ref q_15, .ref q_16, .ref q_17, .ref q_18, .ref q_19, .int 0, .int 0]))]) hP hD [10] [0, 1, 2, 3, 4, 5, 6, 7, 8, 9] rfl rfl (by decide) (by decide) hk1 hFc hP1 hD1
  have hP : va_P (DG G) clP1 [(h0, .inr (10, [.ref q_1, .ref q_11, .null, .null, .null, .null, .null, .null, .int 0, .long 0])), (q_1, .inr (8, [.ref q_2, .ref q_3, .ref q_4, .ref q_5, .ref q_6, .ref q_7, .ref q_8, .ref q_9, .ref q_10, .int 0])), (q_2, .inl (cyA G 0, 32768, .inl (fun _ => 0))), (q_3, .inl (cyA G 0, 32768, .inl (fun _ => 0))), (q_4, .inl (cyA G 0, 32768, .inl (fun _ => 0))), (q_5, .inl (cyA G 0, 32768, .inl (fun _ => 0))), (q_6, .inl (cyA G 0, 32768, .inl (fun _ => 0))), (q_7, .inl (cyA G 0, 32768, .inl (fun _ => 0))), (q_8, .inl (cyA G 0, 32768, .inl (fun _ => 0))), (q_9, .inl (cyA G 1, 32768, .inl (fun _ => 0))), (q_12, .inr (6, [.ref q_1, .ref q_13, .ref q_14, .ref q_15, .ref q_16, .ref q_17, .ref q_18, .ref q_19, .int 0, .int 0]))] H := hP
  have hD : va_D A [(h0, .inr (10, [.ref q_1, .ref q_11, .null, .null, .null, .null, .null, .null, .int 0, .long 0])), (q_1, .inr (8, [.ref q_2, .ref q_3, .ref q_4, .ref q_5, .ref q_6, .ref q_7, .ref q_8, .ref q_9, .ref q_10, .int 0])), (q_2, .inl (cyA G 0, 32768, .inl (fun _ => 0))), (q_3, .inl (cyA G 0, 32768, .inl (fun _ => 0))), (q_4, .inl (cyA G 0, 32768, .inl (fun _ => 0))), (q_5, .inl (cyA G 0, 32768, .inl (fun _ => 0))), (q_6, .inl (cyA G 0, 32768, .inl (fun _ => 0))), (q_7, .inl (cyA G 0, 32768, .inl (fun _ => 0))), (q_8, .inl (cyA G 0, 32768, .inl (fun _ => 0))), (q_9, .inl (cyA G 1, 32768, .inl (fun _ => 0))), (q_12, .inr (6, [.ref q_1, .ref q_13, .ref q_14, .ref q_15, .ref q_16, .ref q_17, .ref q_18, .ref q_19, .int 0, .int 0]))] := hD
  refine W.widen (k := 20) (n := 295139) (Nat.le_of_ble_eq_true rfl) (Nat.le_of_ble_eq_true rfl) ?_
  refine va_putF (D := DG G) (ci := 10) (v := .ref q_12) (ty := tyX11 2) (C := RX11) (T := TX11) (N := 10) hx hb hts inW_X11 tyX11 tyX11_ok nmX11 hown hK hP hD hS 0 rfl rfl 2 (by decide) (hts _ wm301) (fun _ h9 => h9) rfl hin rfl (by decide +kernel) rfl rfl (Nat.le_of_ble_eq_true rfl) dX11_init_42 (fun H locs hP hD hS => ?_)
  have hP : va_P (DG G) clP1 [(h0, .inr (10, [.ref q_1, .ref q_11, .ref q_12, .null, .null, .null, .null, .null, .int 0, .long 0])), (q_1, .inr (8, [.ref q_2, .ref q_3, .ref q_4, .ref q_5, .ref q_6, .ref q_7, .ref q_8, .ref q_9, .ref q_10, .int 0])), (q_2, .inl (cyA G 0, 32768, .inl (fun _ => 0))), (q_3, .inl (cyA G 0, 32768, .inl (fun _ => 0))), (q_4, .inl (cyA G 0, 32768, .inl (fun _ => 0))), (q_5, .inl (cyA G 0, 32768, .inl (fun _ => 0))), (q_6, .inl (cyA G 0, 32768, .inl (fun _ => 0))), (q_7, .inl (cyA G 0, 32768, .inl (fun _ => 0))), (q_8, .inl (cyA G 0, 32768, .inl (fun _ => 0))), (q_9, .inl (cyA G 1, 32768, .inl (fun _ => 0))), (q_12, .inr (6, [.ref q_1, .ref q_13, .ref q_14, .ref q_15, .ref q_16, .ref q_17, .ref q_18, .ref q_19, .int 0, .int 0]))] H := hP
  have hD : va_D A [(h0, .inr (10, [.ref q_1, .ref q_11, .ref q_12, .null, .null, .null, .null, .null, .int 0, .long 0])), (q_1, .inr (8, [.ref q_2, .ref q_3, .ref q_4, .ref q_5, .ref q_6, .ref q_7, .ref q_8, .ref q_9, .ref q_10, .int 0])), (q_2, .inl (cyA G 0, 32768, .inl (fun _ => 0))), (q_3, .inl (cyA G 0, 32768, .inl (fun _ => 0))), (q_4, .inl (cyA G 0, 32768, .inl (fun _ => 0))), (q_5, .inl (cyA G 0, 32768, .inl (fun _ => 0))), (q_6, .inl (cyA G 0, 32768, .inl (fun _ => 0))), (q_7, .inl (cyA G 0, 32768, .inl (fun _ => 0))), (q_8, .inl (cyA G 0, 32768, .inl (fun _ => 0))), (q_9, .inl (cyA G 1, 32768, .inl (fun _ => 0))), (q_12, .inr (6, [.ref q_1, .ref q_13, .ref q_14, .ref q_15, .ref q_16, .ref q_17, .ref q_18, .ref q_19, .int 0, .int 0]))] := hD
  refine lv_aload_n hx hb dX11_init_45 rfl (lv_at hl 0 rfl) ?_
  refine va_new (ci := 2) (fs := [.null, .null, .null, .null, .null, .int 0, .int 0, .int 0]) (C := RX0) (T := TX0) (N := 8) hx hb hts inW_X0 tyX0 tyX0_ok hown (hts _ wm144) (hts _ wm145) (hts _ wm5) hK hP hD hS hA rfl (by decide +kernel) (Nat.le_of_ble_eq_true rfl) (Nat.le_of_ble_eq_true rfl) dX11_init_46 (fun q_20 H hP hD hS => ?_)
  have hP : va_P (DG G) clP1 [(h0, .inr (10, [.ref q_1, .ref q_11, .ref q_12, .null, .null, .null, .null, .null, .int 0, .long 0])), (q_1, .inr (8, [.ref q_2, .ref q_3, .ref q_4, .ref q_5, .ref q_6, .ref q_7, .ref q_8, .ref q_9, .ref q_10, .int 0])), (q_2, .inl (cyA G 0, 32768, .inl (fun _ => 0))), (q_3, .inl (cyA G 0, 32768, .inl (fun _ => 0))), (q_4, .inl (cyA G 0, 32768, .inl (fun _ => 0))), (q_5, .inl (cyA G 0, 32768, .inl (fun _ => 0))), (q_6, .inl (cyA G 0, 32768, .inl (fun _ => 0))), (q_7, .inl (cyA G 0, 32768, .inl (fun _ => 0))), (q_8, .inl (cyA G 0, 32768, .inl (fun _ => 0))), (q_9, .inl (cyA G 1, 32768, .inl (fun _ => 0))), (q_12, .inr (6, [.ref q_1, .ref q_13, .ref q_14, .ref q_15, .ref q_16, .ref q_17, .ref q_18, .ref q_19, .int 0, .int 0])), (q_20, .inr (2, [.null, .null, .null, .null, .null, .int 0, .int 0, .int 0]))] H := hP
  have hD : va_D A [(h0, .inr (10, [.ref q_1, .ref q_11, .ref q_12, .null, .null, .null, .null, .null, .int 0, .long 0])), (q_1, .inr (8, [.ref q_2, .ref q_3, .ref q_4, .ref q_5, .ref q_6, .ref q_7, .ref q_8, .ref q_9, .ref q_10, .int 0])), (q_2, .inl (cyA G 0, 32768, .inl (fun _ => 0))), (q_3, .inl (cyA G 0, 32768, .inl (fun _ => 0))), (q_4, .inl (cyA G 0, 32768, .inl (fun _ => 0))), (q_5, .inl (cyA G 0, 32768, .inl (fun _ => 0))), (q_6, .inl (cyA G 0, 32768, .inl (fun _ => 0))), (q_7, .inl (cyA G 0, 32768, .inl (fun _ => 0))), (q_8, .inl (cyA G 0, 32768, .inl (fun _ => 0))), (q_9, .inl (cyA G 1, 32768, .inl (fun _ => 0))), (q_12, .inr (6, [.ref q_1, .ref q_13, .ref q_14, .ref q_15, .ref q_16, .ref q_17, .ref q_18, .ref q_19, .int 0, .int 0])), (q_20, .inr (2, [.null, .null, .null, .null, .null, .int 0, .int 0, .int 0]))] := hD
  refine W.widen (k := 21) (n := 295147) (Nat.le_of_ble_eq_true rfl) (Nat.le_of_ble_eq_true rfl) ?_
  refine lv_dup hx hb dX11_init_49 rfl ?_
  refine lv_aload_n hx hb dX11_init_50 rfl (lv_at hl 0 rfl) ?_
  refine va_get (D := DG G) (ci := 10) (v := .ref q_1) (C := RX11) (T := TX11) (N := 10) hx hb hts inW_X11 hown hK hP 0 rfl rfl 0 (by decide) (hts _ wm299) (fun _ h9 => h9) rfl dX11_init_51 ?_
  refine lv_aload_n hx hb dX11_init_54 rfl (lv_at hl 0 rfl) ?_
  refine va_get (D := DG G) (ci := 10) (v := .ref q_11) (C := RX11) (T := TX11) (N := 10) hx hb hts inW_X11 hown hK hP 0 rfl rfl 1 (by decide) (hts _ wm300) (fun _ h9 => h9) rfl dX11_init_55 ?_
  refine lv_aload_n hx hb dX11_init_58 rfl (lv_at hl 0 rfl) ?_
  refine va_get (D := DG G) (ci := 10) (v := .ref q_12) (C := RX11) (T := TX11) (N := 10) hx hb hts inW_X11 hown hK hP 0 rfl rfl 2 (by decide) (hts _ wm301) (fun _ h9 => h9) rfl dX11_init_59 ?_
  have hFc := va_free (wc := [(q_20, .inr (2, [.null, .null, .null, .null, .null, .int 0, .int 0, .int 0]))]) hD hS hA [11] rfl
  refine va_callv (va_runI (As := [.ref q_1, .ref q_11, .ref q_12]) (rest := [.ref q_20, .ref h0]) ⟨hx, hb, hml, hown, hts⟩ (k_X0_init l hfl G q_20 q_1 q_11 q_12 H.size) (cwI 3 hts (gC wm148) rfl rfl rfl (hts _ wm5) (hts _ wm146) (hts _ wm147) rfl (by decide +kernel) ⟨Nat.le_of_ble_eq_true rfl, Nat.le_of_ble_eq_true rfl⟩) (pre_s hK hP hD hS hE [11] rfl rfl (by decide) hFc) rfl rfl hl.1 rfl (lv_room (Nat.le_of_ble_eq_true rfl)) dX11_init_62 ⟨Nat.le_of_ble_eq_true rfl, Nat.le_of_ble_eq_true rfl⟩) hS (fun q _ h => hFc q h) hFc (fun u t H locs ht hvm hw hB hz1 hk1 hS => ?_)
  obtain ⟨q_21, q_22, hP1, hD1⟩ := hB
  rw [ht] at hP1
  obtain ⟨hP, hD⟩ := va_join (wr := [(h0, .inr (10, [.ref q_1, .ref q_11, .ref q_12, .null, .null, .null, .null, .null, .int 0, .long 0])), (q_1, .inr (8, [.ref q_2, .ref q_3, .ref q_4, .ref q_5, .ref q_6, .ref q_7, .ref q_8, .ref q_9, .ref q_10, .int 0])), (q_2, .inl (cyA G 0, 32768, .inl (fun _ => 0))), (q_3, .inl (cyA G 0, 32768, .inl (fun _ => 0))), (q_4, .inl (cyA G 0, 32768, .inl (fun _ => 0))), (q_5, .inl (cyA G 0, 32768, .inl (fun _ => 0))), (q_6, .inl (cyA G 0, 32768, .inl (fun _ => 0))), (q_7, .inl (cyA G 0, 32768, .inl (fun _ => 0))), (q_8, .inl (cyA G 0, 32768, .inl (fun _ => 0))), (q_9, .inl (cyA G 1, 32768, .inl (fun _ => 0))), (q_12, .inr (6, [.ref q_1, .ref q_13, .ref q_14, .ref q_15, .ref q_16, .ref q_17, .ref q_18, .ref q_19, .int 0, .int 0]))]) (w1 := [(q_20, .inr (2, [.ref q_1, .ref q_11, .ref q_12, .ref q_21, .ref q_22, .int 0, .int 0, .int 0]))]) hP hD [11] [0, 1, 2, 3, 4, 5, 6, 7, 8, 9, 10] rfl rfl (by decide) (by decide) hk1 hFc hP1 hD1
  have hP : va_P (DG G) clP1 [(h0, .inr (10, [.ref q_1, .ref q_11, .ref q_12, .null, .null, .null, .null, .null, .int 0, .long 0])), (q_1, .inr (8, [.ref q_2, .ref q_3, .ref q_4, .ref q_5, .ref q_6, .ref q_7, .ref q_8, .ref q_9, .ref q_10, .int 0])), (q_2, .inl (cyA G 0, 32768, .inl (fun _ => 0))), (q_3, .inl (cyA G 0, 32768, .inl (fun _ => 0))), (q_4, .inl (cyA G 0, 32768, .inl (fun _ => 0))), (q_5, .inl (cyA G 0, 32768, .inl (fun _ => 0))), (q_6, .inl (cyA G 0, 32768, .inl (fun _ => 0))), (q_7, .inl (cyA G 0, 32768, .inl (fun _ => 0))), (q_8, .inl (cyA G 0, 32768, .inl (fun _ => 0))), (q_9, .inl (cyA G 1, 32768, .inl (fun _ => 0))), (q_12, .inr (6, [.ref q_1, .ref q_13, .ref q_14, .ref q_15, .ref q_16, .ref q_17, .ref q_18, .ref q_19, .int 0, .int 0])), (q_20, .inr (2, [.ref q_1, .ref q_11, .ref q_12, .ref q_21, .ref q_22, .int 0, .int 0, .int 0]))] H := hP
  have hD : va_D A [(h0, .inr (10, [.ref q_1, .ref q_11, .ref q_12, .null, .null, .null, .null, .null, .int 0, .long 0])), (q_1, .inr (8, [.ref q_2, .ref q_3, .ref q_4, .ref q_5, .ref q_6, .ref q_7, .ref q_8, .ref q_9, .ref q_10, .int 0])), (q_2, .inl (cyA G 0, 32768, .inl (fun _ => 0))), (q_3, .inl (cyA G 0, 32768, .inl (fun _ => 0))), (q_4, .inl (cyA G 0, 32768, .inl (fun _ => 0))), (q_5, .inl (cyA G 0, 32768, .inl (fun _ => 0))), (q_6, .inl (cyA G 0, 32768, .inl (fun _ => 0))), (q_7, .inl (cyA G 0, 32768, .inl (fun _ => 0))), (q_8, .inl (cyA G 0, 32768, .inl (fun _ => 0))), (q_9, .inl (cyA G 1, 32768, .inl (fun _ => 0))), (q_12, .inr (6, [.ref q_1, .ref q_13, .ref q_14, .ref q_15, .ref q_16, .ref q_17, .ref q_18, .ref q_19, .int 0, .int 0])), (q_20, .inr (2, [.ref q_1, .ref q_11, .ref q_12, .ref q_21, .ref q_22, .int 0, .int 0, .int 0]))] := hD
  refine W.widen (k := 23) (n := 295195) (Nat.le_of_ble_eq_true rfl) (Nat.le_of_ble_eq_true rfl) ?_
  refine va_putF (D := DG G) (ci := 10) (v := .ref q_20) (ty := tyX11 3) (C := RX11) (T := TX11) (N := 10) hx hb hts inW_X11 tyX11 tyX11_ok nmX11 hown hK hP hD hS 0 rfl rfl 3 (by decide) (hts _ wm302) (fun _ h9 => h9) rfl hin rfl (by decide +kernel) rfl rfl (Nat.le_of_ble_eq_true rfl) dX11_init_65 (fun H locs hP hD hS => ?_)
  have hP : va_P (DG G) clP1 [(h0, .inr (10, [.ref q_1, .ref q_11, .ref q_12, .ref q_20, .null, .null, .null, .null, .int 0, .long 0])), (q_1, .inr (8, [.ref q_2, .ref q_3, .ref q_4, .ref q_5, .ref q_6, .ref q_7, .ref q_8, .ref q_9, .ref q_10, .int 0])), (q_2, .inl (cyA G 0, 32768, .inl (fun _ => 0))), (q_3, .inl (cyA G 0, 32768, .inl (fun _ => 0))), (q_4, .inl (cyA G 0, 32768, .inl (fun _ => 0))), (q_5, .inl (cyA G 0, 32768, .inl (fun _ => 0))), (q_6, .inl (cyA G 0, 32768, .inl (fun _ => 0))), (q_7, .inl (cyA G 0, 32768, .inl (fun _ => 0))), (q_8, .inl (cyA G 0, 32768, .inl (fun _ => 0))), (q_9, .inl (cyA G 1, 32768, .inl (fun _ => 0))), (q_12, .inr (6, [.ref q_1, .ref q_13, .ref q_14, .ref q_15, .ref q_16, .ref q_17, .ref q_18, .ref q_19, .int 0, .int 0])), (q_20, .inr (2, [.ref q_1, .ref q_11, .ref q_12, .ref q_21, .ref q_22, .int 0, .int 0, .int 0]))] H := hP
  have hD : va_D A [(h0, .inr (10, [.ref q_1, .ref q_11, .ref q_12, .ref q_20, .null, .null, .null, .null, .int 0, .long 0])), (q_1, .inr (8, [.ref q_2, .ref q_3, .ref q_4, .ref q_5, .ref q_6, .ref q_7, .ref q_8, .ref q_9, .ref q_10, .int 0])), (q_2, .inl (cyA G 0, 32768, .inl (fun _ => 0))), (q_3, .inl (cyA G 0, 32768, .inl (fun _ => 0))), (q_4, .inl (cyA G 0, 32768, .inl (fun _ => 0))), (q_5, .inl (cyA G 0, 32768, .inl (fun _ => 0))), (q_6, .inl (cyA G 0, 32768, .inl (fun _ => 0))), (q_7, .inl (cyA G 0, 32768, .inl (fun _ => 0))), (q_8, .inl (cyA G 0, 32768, .inl (fun _ => 0))), (q_9, .inl (cyA G 1, 32768, .inl (fun _ => 0))), (q_12, .inr (6, [.ref q_1, .ref q_13, .ref q_14, .ref q_15, .ref q_16, .ref q_17, .ref q_18, .ref q_19, .int 0, .int 0])), (q_20, .inr (2, [.ref q_1, .ref q_11, .ref q_12, .ref q_21, .ref q_22, .int 0, .int 0, .int 0]))] := hD
  refine lv_aload_n hx hb dX11_init_68 rfl (lv_at hl 0 rfl) ?_
  refine va_new (ci := 9) (fs := [.null, .null, .null, .null, .null, .null]) (C := RX10) (T := TX10) (N := 6) hx hb hts inW_X10 tyX10 tyX10_ok hown (hts _ wm184) (hts _ wm185) (hts _ wm6) hK hP hD hS hA rfl (by decide +kernel) (Nat.le_of_ble_eq_true rfl) (Nat.le_of_ble_eq_true rfl) dX11_init_69 (fun q_23 H hP hD hS => ?_)
  have hP : va_P (DG G) clP1 [(h0, .inr (10, [.ref q_1, .ref q_11, .ref q_12, .ref q_20, .null, .null, .null, .null, .int 0, .long 0])), (q_1, .inr (8, [.ref q_2, .ref q_3, .ref q_4, .ref q_5, .ref q_6, .ref q_7, .ref q_8, .ref q_9, .ref q_10, .int 0])), (q_2, .inl (cyA G 0, 32768, .inl (fun _ => 0))), (q_3, .inl (cyA G 0, 32768, .inl (fun _ => 0))), (q_4, .inl (cyA G 0, 32768, .inl (fun _ => 0))), (q_5, .inl (cyA G 0, 32768, .inl (fun _ => 0))), (q_6, .inl (cyA G 0, 32768, .inl (fun _ => 0))), (q_7, .inl (cyA G 0, 32768, .inl (fun _ => 0))), (q_8, .inl (cyA G 0, 32768, .inl (fun _ => 0))), (q_9, .inl (cyA G 1, 32768, .inl (fun _ => 0))), (q_12, .inr (6, [.ref q_1, .ref q_13, .ref q_14, .ref q_15, .ref q_16, .ref q_17, .ref q_18, .ref q_19, .int 0, .int 0])), (q_20, .inr (2, [.ref q_1, .ref q_11, .ref q_12, .ref q_21, .ref q_22, .int 0, .int 0, .int 0])), (q_23, .inr (9, [.null, .null, .null, .null, .null, .null]))] H := hP
  have hD : va_D A [(h0, .inr (10, [.ref q_1, .ref q_11, .ref q_12, .ref q_20, .null, .null, .null, .null, .int 0, .long 0])), (q_1, .inr (8, [.ref q_2, .ref q_3, .ref q_4, .ref q_5, .ref q_6, .ref q_7, .ref q_8, .ref q_9, .ref q_10, .int 0])), (q_2, .inl (cyA G 0, 32768, .inl (fun _ => 0))), (q_3, .inl (cyA G 0, 32768, .inl (fun _ => 0))), (q_4, .inl (cyA G 0, 32768, .inl (fun _ => 0))), (q_5, .inl (cyA G 0, 32768, .inl (fun _ => 0))), (q_6, .inl (cyA G 0, 32768, .inl (fun _ => 0))), (q_7, .inl (cyA G 0, 32768, .inl (fun _ => 0))), (q_8, .inl (cyA G 0, 32768, .inl (fun _ => 0))), (q_9, .inl (cyA G 1, 32768, .inl (fun _ => 0))), (q_12, .inr (6, [.ref q_1, .ref q_13, .ref q_14, .ref q_15, .ref q_16, .ref q_17, .ref q_18, .ref q_19, .int 0, .int 0])), (q_20, .inr (2, [.ref q_1, .ref q_11, .ref q_12, .ref q_21, .ref q_22, .int 0, .int 0, .int 0])), (q_23, .inr (9, [.null, .null, .null, .null, .null, .null]))] := hD
  refine W.widen (k := 24) (n := 295201) (Nat.le_of_ble_eq_true rfl) (Nat.le_of_ble_eq_true rfl) ?_
  refine lv_dup hx hb dX11_init_72 rfl ?_
  refine lv_aload_n hx hb dX11_init_73 rfl (lv_at hl 0 rfl) ?_
  refine va_get (D := DG G) (ci := 10) (v := .ref q_1) (C := RX11) (T := TX11) (N := 10) hx hb hts inW_X11 hown hK hP 0 rfl rfl 0 (by decide) (hts _ wm299) (fun _ h9 => h9) rfl dX11_init_74 ?_
  refine lv_aload_n hx hb dX11_init_77 rfl (lv_at hl 0 rfl) ?_
  refine va_get (D := DG G) (ci := 10) (v := .ref q_11) (C := RX11) (T := TX11) (N := 10) hx hb hts inW_X11 hown hK hP 0 rfl rfl 1 (by decide) (hts _ wm300) (fun _ h9 => h9) rfl dX11_init_78 ?_
  refine lv_aload_n hx hb dX11_init_81 rfl (lv_at hl 0 rfl) ?_
  refine va_get (D := DG G) (ci := 10) (v := .ref q_12) (C := RX11) (T := TX11) (N := 10) hx hb hts inW_X11 hown hK hP 0 rfl rfl 2 (by decide) (hts _ wm301) (fun _ h9 => h9) rfl dX11_init_82 ?_
  refine lv_aload_n hx hb dX11_init_85 rfl (lv_at hl 0 rfl) ?_
  refine va_get (D := DG G) (ci := 10) (v := .ref q_20) (C := RX11) (T := TX11) (N := 10) hx hb hts inW_X11 hown hK hP 0 rfl rfl 3 (by decide) (hts _ wm302) (fun _ h9 => h9) rfl dX11_init_86 ?_
  have hFc := va_free (wc := [(q_23, .inr (9, [.null, .null, .null, .null, .null, .null]))]) hD hS hA [12] rfl
  refine va_callv (va_runI (As := [.ref q_1, .ref q_11, .ref q_12, .ref q_20]) (rest := [.ref q_23, .ref h0]) ⟨hx, hb, hml, hown, hts⟩ (k_X10_init l hfl G q_23 q_1 q_11 q_12 q_20 H.size) (cwI 4 hts (gC wm188) rfl rfl rfl (hts _ wm6) (hts _ wm186) (hts _ wm187) rfl (by decide +kernel) ⟨Nat.le_of_ble_eq_true rfl, Nat.le_of_ble_eq_true rfl⟩) (pre_s hK hP hD hS hE [12] rfl rfl (by decide) hFc) rfl rfl hl.1 rfl (lv_room (Nat.le_of_ble_eq_true rfl)) dX11_init_89 ⟨Nat.le_of_ble_eq_true rfl, Nat.le_of_ble_eq_true rfl⟩) hS (fun q _ h => hFc q h) hFc (fun u t H locs ht hvm hw hB hz1 hk1 hS => ?_)
  obtain ⟨hP1, hD1⟩ := hB
  rw [ht] at hP1
  obtain ⟨hP, hD⟩ := va_join (wr := [(h0, .inr (10, [.ref q_1, .ref q_11, .ref q_12, .ref q_20, .null, .null, .null, .null, .int 0, .long 0])), (q_1, .inr (8, [.ref q_2, .ref q_3, .ref q_4, .ref q_5, .ref q_6, .ref q_7, .ref q_8, .ref q_9, .ref q_10, .int 0])), (q_2, .inl (cyA G 0, 32768, .inl (fun _ => 0))), (q_3, .inl (cyA G 0, 32768, .inl (fun _ => 0))), (q_4, .inl (cyA G 0, 32768, .inl (fun _ => 0))), (q_5, .inl (cyA G 0, 32768, .inl (fun _ => 0))), (q_6, .inl (cyA G 0, 32768, .inl (fun _ => 0))), (q_7, .inl (cyA G 0, 32768, .inl (fun _ => 0))), (q_8, .inl (cyA G 0, 32768, .inl (fun _ => 0))), (q_9, .inl (cyA G 1, 32768, .inl (fun _ => 0))), (q_12, .inr (6, [.ref q_1, .ref q_13, .ref q_14, .ref q_15, .ref q_16, .ref q_17, .ref q_18, .ref q_19, .int 0, .int 0])), (q_20, .inr (2, [.ref q_1, .ref q_11, .ref q_12, .ref q_21, .ref q_22, .int 0, .int 0, .int 0]))]) (w1 := []) hP hD [12] [0, 1, 2, 3, 4, 5, 6, 7, 8, 9, 10, 11] rfl rfl (by decide) (by decide) hk1 hFc hP1 hD1
  have hP : va_P (DG G) clP1 [(h0, .inr (10, [.ref q_1, .ref q_11, .ref q_12, .ref q_20, .null, .null, .null, .null, .int 0, .long 0])), (q_1, .inr (8, [.ref q_2, .ref q_3, .ref q_4, .ref q_5, .ref q_6, .ref q_7, .ref q_8, .ref q_9, .ref q_10, .int 0])), (q_2, .inl (cyA G 0, 32768, .inl (fun _ => 0))), (q_3, .inl (cyA G 0, 32768, .inl (fun _ => 0))), (q_4, .inl (cyA G 0, 32768, .inl (fun _ => 0))), (q_5, .inl (cyA G 0, 32768, .inl (fun _ => 0))), (q_6, .inl (cyA G 0, 32768, .inl (fun _ => 0))), (q_7, .inl (cyA G 0, 32768, .inl (fun _ => 0))), (q_8, .inl (cyA G 0, 32768, .inl (fun _ => 0))), (q_9, .inl (cyA G 1, 32768, .inl (fun _ => 0))), (q_12, .inr (6, [.ref q_1, .ref q_13, .ref q_14, .ref q_15, .ref q_16, .ref q_17, .ref q_18, .ref q_19, .int 0, .int 0])), (q_20, .inr (2, [.ref q_1, .ref q_11, .ref q_12, .ref q_21, .ref q_22, .int 0, .int 0, .int 0]))] H := hP
  have hD : va_D A [(h0, .inr (10, [.ref q_1, .ref q_11, .ref q_12, .ref q_20, .null, .null, .null, .null, .int 0, .long 0])), (q_1, .inr (8, [.ref q_2, .ref q_3, .ref q_4, .ref q_5, .ref q_6, .ref q_7, .ref q_8, .ref q_9, .ref q_10, .int 0])), (q_2, .inl (cyA G 0, 32768, .inl (fun _ => 0))), (q_3, .inl (cyA G 0, 32768, .inl (fun _ => 0))), (q_4, .inl (cyA G 0, 32768, .inl (fun _ => 0))), (q_5, .inl (cyA G 0, 32768, .inl (fun _ => 0))), (q_6, .inl (cyA G 0, 32768, .inl (fun _ => 0))), (q_7, .inl (cyA G 0, 32768, .inl (fun _ => 0))), (q_8, .inl (cyA G 0, 32768, .inl (fun _ => 0))), (q_9, .inl (cyA G 1, 32768, .inl (fun _ => 0))), (q_12, .inr (6, [.ref q_1, .ref q_13, .ref q_14, .ref q_15, .ref q_16, .ref q_17, .ref q_18, .ref q_19, .int 0, .int 0])), (q_20, .inr (2, [.ref q_1, .ref q_11, .ref q_12, .ref q_21, .ref q_22, .int 0, .int 0, .int 0]))] := hD
  refine W.widen (k := 28) (n := 295247) (Nat.le_of_ble_eq_true rfl) (Nat.le_of_ble_eq_true rfl) ?_
  refine va_putF (D := DG G) (ci := 10) (v := .ref q_23) (ty := tyX11 4) (C := RX11) (T := TX11) (N := 10) hx hb hts inW_X11 tyX11 tyX11_ok nmX11 hown hK hP hD hS 0 rfl rfl 4 (by decide) (hts _ wm303) (fun _ h9 => h9) rfl hin rfl (by decide +kernel) rfl rfl (Nat.le_of_ble_eq_true rfl) dX11_init_92 (fun H locs hP hD hS => ?_)
  have hP : va_P (DG G) clP1 [(h0, .inr (10, [.ref q_1, .ref q_11, .ref q_12, .ref q_20, .ref q_23, .null, .null, .null, .int 0, .long 0])), (q_1, .inr (8, [.ref q_2, .ref q_3, .ref q_4, .ref q_5, .ref q_6, .ref q_7, .ref q_8, .ref q_9, .ref q_10, .int 0])), (q_2, .inl (cyA G 0, 32768, .inl (fun _ => 0))), (q_3, .inl (cyA G 0, 32768, .inl (fun _ => 0))), (q_4, .inl (cyA G 0, 32768, .inl (fun _ => 0))), (q_5, .inl (cyA G 0, 32768, .inl (fun _ => 0))), (q_6, .inl (cyA G 0, 32768, .inl (fun _ => 0))), (q_7, .inl (cyA G 0, 32768, .inl (fun _ => 0))), (q_8, .inl (cyA G 0, 32768, .inl (fun _ => 0))), (q_9, .inl (cyA G 1, 32768, .inl (fun _ => 0))), (q_12, .inr (6, [.ref q_1, .ref q_13, .ref q_14, .ref q_15, .ref q_16, .ref q_17, .ref q_18, .ref q_19, .int 0, .int 0])), (q_20, .inr (2, [.ref q_1, .ref q_11, .ref q_12, .ref q_21, .ref q_22, .int 0, .int 0, .int 0]))] H := hP
  have hD : va_D A [(h0, .inr (10, [.ref q_1, .ref q_11, .ref q_12, .ref q_20, .ref q_23, .null, .null, .null, .int 0, .long 0])), (q_1, .inr (8, [.ref q_2, .ref q_3, .ref q_4, .ref q_5, .ref q_6, .ref q_7, .ref q_8, .ref q_9, .ref q_10, .int 0])), (q_2, .inl (cyA G 0, 32768, .inl (fun _ => 0))), (q_3, .inl (cyA G 0, 32768, .inl (fun _ => 0))), (q_4, .inl (cyA G 0, 32768, .inl (fun _ => 0))), (q_5, .inl (cyA G 0, 32768, .inl (fun _ => 0))), (q_6, .inl (cyA G 0, 32768, .inl (fun _ => 0))), (q_7, .inl (cyA G 0, 32768, .inl (fun _ => 0))), (q_8, .inl (cyA G 0, 32768, .inl (fun _ => 0))), (q_9, .inl (cyA G 1, 32768, .inl (fun _ => 0))), (q_12, .inr (6, [.ref q_1, .ref q_13, .ref q_14, .ref q_15, .ref q_16, .ref q_17, .ref q_18, .ref q_19, .int 0, .int 0])), (q_20, .inr (2, [.ref q_1, .ref q_11, .ref q_12, .ref q_21, .ref q_22, .int 0, .int 0, .int 0]))] := hD
  refine lv_aload_n hx hb dX11_init_95 rfl (lv_at hl 0 rfl) ?_
  refine va_new (ci := 4) (fs := [.null, .null, .int 0, .int 0, .int 0, .int 0]) (C := RX4) (T := TX4) (N := 6) hx hb hts inW_X4 tyX4 tyX4_ok hown (hts _ wm229) (hts _ wm230) (hts _ wm9) hK hP hD hS hA rfl (by decide +kernel) (Nat.le_of_ble_eq_true rfl) (Nat.le_of_ble_eq_true rfl) dX11_init_96 (fun q_24 H hP hD hS => ?_)
  have hP : va_P (DG G) clP1 [(h0, .inr (10, [.ref q_1, .ref q_11, .ref q_12, .ref q_20, .ref q_23, .null, .null, .null, .int 0, .long 0])), (q_1, .inr (8, [.ref q_2, .ref q_3, .ref q_4, .ref q_5, .ref q_6, .ref q_7, .ref q_8, .ref q_9, .ref q_10, .int 0])), (q_2, .inl (cyA G 0, 32768, .inl (fun _ => 0))), (q_3, .inl (cyA G 0, 32768, .inl (fun _ => 0))), (q_4, .inl (cyA G 0, 32768, .inl (fun _ => 0))), (q_5, .inl (cyA G 0, 32768, .inl (fun _ => 0))), (q_6, .inl (cyA G 0, 32768, .inl (fun _ => 0))), (q_7, .inl (cyA G 0, 32768, .inl (fun _ => 0))), (q_8, .inl (cyA G 0, 32768, .inl (fun _ => 0))), (q_9, .inl (cyA G 1, 32768, .inl (fun _ => 0))), (q_12, .inr (6, [.ref q_1, .ref q_13, .ref q_14, .ref q_15, .ref q_16, .ref q_17, .ref q_18, .ref q_19, .int 0, .int 0])), (q_20, .inr (2, [.ref q_1, .ref q_11, .ref q_12, .ref q_21, .ref q_22, .int 0, .int 0, .int 0])), (q_24, .inr (4, [.null, .null, .int 0, .int 0, .int 0, .int 0]))] H := hP
  have hD : va_D A [(h0, .inr (10, [.ref q_1, .ref q_11, .ref q_12, .ref q_20, .ref q_23, .null, .null, .null, .int 0, .long 0])), (q_1, .inr (8, [.ref q_2, .ref q_3, .ref q_4, .ref q_5, .ref q_6, .ref q_7, .ref q_8, .ref q_9, .ref q_10, .int 0])), (q_2, .inl (cyA G 0, 32768, .inl (fun _ => 0))), (q_3, .inl (cyA G 0, 32768, .inl (fun _ => 0))), (q_4, .inl (cyA G 0, 32768, .inl (fun _ => 0))), (q_5, .inl (cyA G 0, 32768, .inl (fun _ => 0))), (q_6, .inl (cyA G 0, 32768, .inl (fun _ => 0))), (q_7, .inl (cyA G 0, 32768, .inl (fun _ => 0))), (q_8, .inl (cyA G 0, 32768, .inl (fun _ => 0))), (q_9, .inl (cyA G 1, 32768, .inl (fun _ => 0))), (q_12, .inr (6, [.ref q_1, .ref q_13, .ref q_14, .ref q_15, .ref q_16, .ref q_17, .ref q_18, .ref q_19, .int 0, .int 0])), (q_20, .inr (2, [.ref q_1, .ref q_11, .ref q_12, .ref q_21, .ref q_22, .int 0, .int 0, .int 0])), (q_24, .inr (4, [.null, .null, .int 0, .int 0, .int 0, .int 0]))] := hD
  refine W.widen (k := 29) (n := 295253) (Nat.le_of_ble_eq_true rfl) (Nat.le_of_ble_eq_true rfl) ?_
  refine lv_dup hx hb dX11_init_99 rfl ?_
  refine lv_aload_n hx hb dX11_init_100 rfl (lv_at hl 0 rfl) ?_
  refine va_get (D := DG G) (ci := 10) (v := .ref q_1) (C := RX11) (T := TX11) (N := 10) hx hb hts inW_X11 hown hK hP 0 rfl rfl 0 (by decide) (hts _ wm299) (fun _ h9 => h9) rfl dX11_init_101 ?_
  have hFc := va_free (wc := [(q_24, .inr (4, [.null, .null, .int 0, .int 0, .int 0, .int 0]))]) hD hS hA [12] rfl
  refine va_callv (va_runI (As := [.ref q_1]) (rest := [.ref q_24, .ref h0]) ⟨hx, hb, hml, hown, hts⟩ (k_X4_init l hfl G q_24 q_1 H.size) (cwI 1 hts (gC wm233) rfl rfl rfl (hts _ wm9) (hts _ wm231) (hts _ wm232) rfl (by decide +kernel) ⟨Nat.le_of_ble_eq_true rfl, Nat.le_of_ble_eq_true rfl⟩) (pre_s hK hP hD hS hE [12] rfl rfl (by decide) hFc) rfl rfl hl.1 rfl (lv_room (Nat.le_of_ble_eq_true rfl)) dX11_init_104 ⟨Nat.le_of_ble_eq_true rfl, Nat.le_of_ble_eq_true rfl⟩) hS (fun q _ h => hFc q h) hFc (fun u t H locs ht hvm hw hB hz1 hk1 hS => ?_)
  obtain ⟨hP1, hD1⟩ := hB
  rw [ht] at hP1
  obtain ⟨hP, hD⟩ := va_join (wr := [(h0, .inr (10, [.ref q_1, .ref q_11, .ref q_12, .ref q_20, .ref q_23, .null, .null, .null, .int 0, .long 0])), (q_1, .inr (8, [.ref q_2, .ref q_3, .ref q_4, .ref q_5, .ref q_6, .ref q_7, .ref q_8, .ref q_9, .ref q_10, .int 0])), (q_2, .inl (cyA G 0, 32768, .inl (fun _ => 0))), (q_3, .inl (cyA G 0, 32768, .inl (fun _ => 0))), (q_4, .inl (cyA G 0, 32768, .inl (fun _ => 0))), (q_5, .inl (cyA G 0, 32768, .inl (fun _ => 0))), (q_6, .inl (cyA G 0, 32768, .inl (fun _ => 0))), (q_7, .inl (cyA G 0, 32768, .inl (fun _ => 0))), (q_8, .inl (cyA G 0, 32768, .inl (fun _ => 0))), (q_9, .inl (cyA G 1, 32768, .inl (fun _ => 0))), (q_12, .inr (6, [.ref q_1, .ref q_13, .ref q_14, .ref q_15, .ref q_16, .ref q_17, .ref q_18, .ref q_19, .int 0, .int 0])), (q_20, .inr (2, [.ref q_1, .ref q_11, .ref q_12, .ref q_21, .ref q_22, .int 0, .int 0, .int 0]))]) (w1 := []) hP hD [12] [0, 1, 2, 3, 4, 5, 6, 7, 8, 9, 10, 11] rfl rfl (by decide) (by decide) hk1 hFc hP1 hD1
  have hP : va_P (DG G) clP1 [(h0, .inr (10, [.ref q_1, .ref q_11, .ref q_12, .ref q_20, .ref q_23, .null, .null, .null, .int 0, .long 0])), (q_1, .inr (8, [.ref q_2, .ref q_3, .ref q_4, .ref q_5, .ref q_6, .ref q_7, .ref q_8, .ref q_9, .ref q_10, .int 0])), (q_2, .inl (cyA G 0, 32768, .inl (fun _ => 0))), (q_3, .inl (cyA G 0, 32768, .inl (fun _ => 0))), (q_4, .inl (cyA G 0, 32768, .inl (fun _ => 0))), (q_5, .inl (cyA G 0, 32768, .inl (fun _ => 0))), (q_6, .inl (cyA G 0, 32768, .inl (fun _ => 0))), (q_7, .inl (cyA G 0, 32768, .inl (fun _ => 0))), (q_8, .inl (cyA G 0, 32768, .inl (fun _ => 0))), (q_9, .inl (cyA G 1, 32768, .inl (fun _ => 0))), (q_12, .inr (6, [.ref q_1, .ref q_13, .ref q_14, .ref q_15, .ref q_16, .ref q_17, .ref q_18, .ref q_19, .int 0, .int 0])), (q_20, .inr (2, [.ref q_1, .ref q_11, .ref q_12, .ref q_21, .ref q_22, .int 0, .int 0, .int 0]))] H := hP
  have hD : va_D A [(h0, .inr (10, [.ref q_1, .ref q_11, .ref q_12, .ref q_20, .ref q_23, .null, .null, .null, .int 0, .long 0])), (q_1, .inr (8, [.ref q_2, .ref q_3, .ref q_4, .ref q_5, .ref q_6, .ref q_7, .ref q_8, .ref q_9, .ref q_10, .int 0])), (q_2, .inl (cyA G 0, 32768, .inl (fun _ => 0))), (q_3, .inl (cyA G 0, 32768, .inl (fun _ => 0))), (q_4, .inl (cyA G 0, 32768, .inl (fun _ => 0))), (q_5, .inl (cyA G 0, 32768, .inl (fun _ => 0))), (q_6, .inl (cyA G 0, 32768, .inl (fun _ => 0))), (q_7, .inl (cyA G 0, 32768, .inl (fun _ => 0))), (q_8, .inl (cyA G 0, 32768, .inl (fun _ => 0))), (q_9, .inl (cyA G 1, 32768, .inl (fun _ => 0))), (q_12, .inr (6, [.ref q_1, .ref q_13, .ref q_14, .ref q_15, .ref q_16, .ref q_17, .ref q_18, .ref q_19, .int 0, .int 0])), (q_20, .inr (2, [.ref q_1, .ref q_11, .ref q_12, .ref q_21, .ref q_22, .int 0, .int 0, .int 0]))] := hD
  refine W.widen (k := 30) (n := 295453) (Nat.le_of_ble_eq_true rfl) (Nat.le_of_ble_eq_true rfl) ?_
  refine va_putF (D := DG G) (ci := 10) (v := .ref q_24) (ty := tyX11 5) (C := RX11) (T := TX11) (N := 10) hx hb hts inW_X11 tyX11 tyX11_ok nmX11 hown hK hP hD hS 0 rfl rfl 5 (by decide) (hts _ wm304) (fun _ h9 => h9) rfl hin rfl (by decide +kernel) rfl rfl (Nat.le_of_ble_eq_true rfl) dX11_init_107 (fun H locs hP hD hS => ?_)
  have hP : va_P (DG G) clP1 [(h0, .inr (10, [.ref q_1, .ref q_11, .ref q_12, .ref q_20, .ref q_23, .ref q_24, .null, .null, .int 0, .long 0])), (q_1, .inr (8, [.ref q_2, .ref q_3, .ref q_4, .ref q_5, .ref q_6, .ref q_7, .ref q_8, .ref q_9, .ref q_10, .int 0])), (q_2, .inl (cyA G 0, 32768, .inl (fun _ => 0))), (q_3, .inl (cyA G 0, 32768, .inl (fun _ => 0))), (q_4, .inl (cyA G 0, 32768, .inl (fun _ => 0))), (q_5, .inl (cyA G 0, 32768, .inl (fun _ => 0))), (q_6, .inl (cyA G 0, 32768, .inl (fun _ => 0))), (q_7, .inl (cyA G 0, 32768, .inl (fun _ => 0))), (q_8, .inl (cyA G 0, 32768, .inl (fun _ => 0))), (q_9, .inl (cyA G 1, 32768, .inl (fun _ => 0))), (q_12, .inr (6, [.ref q_1, .ref q_13, .ref q_14, .ref q_15, .ref q_16, .ref q_17, .ref q_18, .ref q_19, .int 0, .int 0])), (q_20, .inr (2, [.ref q_1, .ref q_11, .ref q_12, .ref q_21, .ref q_22, .int 0, .int 0, .int 0]))] H := hP
  have hD : va_D A [(h0, .inr (10, [.ref q_1, .ref q_11, .ref q_12, .ref q_20, .ref q_23, .ref q_24, .null, .null, .int 0, .long 0])), (q_1, .inr (8, [.ref q_2, .ref q_3, .ref q_4, .ref q_5, .ref q_6, .ref q_7, .ref q_8, .ref q_9, .ref q_10, .int 0])), (q_2, .inl (cyA G 0, 32768, .inl (fun _ => 0))), (q_3, .inl (cyA G 0, 32768, .inl (fun _ => 0))), (q_4, .inl (cyA G 0, 32768, .inl (fun _ => 0))), (q_5, .inl (cyA G 0, 32768, .inl (fun _ => 0))), (q_6, .inl (cyA G 0, 32768, .inl (fun _ => 0))), (q_7, .inl (cyA G 0, 32768, .inl (fun _ => 0))), (q_8, .inl (cyA G 0, 32768, .inl (fun _ => 0))), (q_9, .inl (cyA G 1, 32768, .inl (fun _ => 0))), (q_12, .inr (6, [.ref q_1, .ref q_13, .ref q_14, .ref q_15, .ref q_16, .ref q_17, .ref q_18, .ref q_19, .int 0, .int 0])), (q_20, .inr (2, [.ref q_1, .ref q_11, .ref q_12, .ref q_21, .ref q_22, .int 0, .int 0, .int 0]))] := hD
  refine lv_aload_n hx hb dX11_init_110 rfl (lv_at hl 0 rfl) ?_
  refine va_new (ci := 5) (fs := [.null, .null, .null, .null, .null, .null, .null, .int 0, .int 0, .int 0, .int 0, .int 0]) (C := RX5) (T := TX5) (N := 12) hx hb hts inW_X5 tyX5 tyX5_ok hown (hts _ wm255) (hts _ wm256) (hts _ wm10) hK hP hD hS hA rfl (by decide +kernel) (Nat.le_of_ble_eq_true rfl) (Nat.le_of_ble_eq_true rfl) dX11_init_111 (fun q_25 H hP hD hS => ?_)
  have hP : va_P (DG G) clP1 [(h0, .inr (10, [.ref q_1, .ref q_11, .ref q_12, .ref q_20, .ref q_23, .ref q_24, .null, .null, .int 0, .long 0])), (q_1, .inr (8, [.ref q_2, .ref q_3, .ref q_4, .ref q_5, .ref q_6, .ref q_7, .ref q_8, .ref q_9, .ref q_10, .int 0])), (q_2, .inl (cyA G 0, 32768, .inl (fun _ => 0))), (q_3, .inl (cyA G 0, 32768, .inl (fun _ => 0))), (q_4, .inl (cyA G 0, 32768, .inl (fun _ => 0))), (q_5, .inl (cyA G 0, 32768, .inl (fun _ => 0))), (q_6, .inl (cyA G 0, 32768, .inl (fun _ => 0))), (q_7, .inl (cyA G 0, 32768, .inl (fun _ => 0))), (q_8, .inl (cyA G 0, 32768, .inl (fun _ => 0))), (q_9, .inl (cyA G 1, 32768, .inl (fun _ => 0))), (q_12, .inr (6, [.ref q_1, .ref q_13, .ref q_14, .ref q_15, .ref q_16, .ref q_17, .ref q_18, .ref q_19, .int 0, .int 0])), (q_20, .inr (2, [.ref q_1, .ref q_11, .ref q_12, .ref q_21, .ref q_22, .int 0, .int 0, .int 0])), (q_25, .inr (5, [.null, .null, .null, .null, .null, .null, .null, .int 0, .int 0, .int 0, .int 0, .int 0]))] H := hP
  have hD : va_D A [(h0, .inr (10, [.ref q_1, .ref q_11, .ref q_12, .ref q_20, .ref q_23, .ref q_24, .null, .null, .int 0, .long 0])), (q_1, .inr (8, [.ref q_2, .ref q_3, .ref q_4, .ref q_5, .ref q_6, .ref q_7, .ref q_8, .ref q_9, .ref q_10, .int 0])), (q_2, .inl (cyA G 0, 32768, .inl (fun _ => 0))), (q_3, .inl (cyA G 0, 32768, .inl (fun _ => 0))), (q_4, .inl (cyA G 0, 32768, .inl (fun _ => 0))), (q_5, .inl (cyA G 0, 32768, .inl (fun _ => 0))), (q_6, .inl (cyA G 0, 32768, .inl (fun _ => 0))), (q_7, .inl (cyA G 0, 32768, .inl (fun _ => 0))), (q_8, .inl (cyA G 0, 32768, .inl (fun _ => 0))), (q_9, .inl (cyA G 1, 32768, .inl (fun _ => 0))), (q_12, .inr (6, [.ref q_1, .ref q_13, .ref q_14, .ref q_15, .ref q_16, .ref q_17, .ref q_18, .ref q_19, .int 0, .int 0])), (q_20, .inr (2, [.ref q_1, .ref q_11, .ref q_12, .ref q_21, .ref q_22, .int 0, .int 0, .int 0])), (q_25, .inr (5, [.null, .null, .null, .null, .null, .null, .null, .int 0, .int 0, .int 0, .int 0, .int 0]))] := hD
  refine W.widen (k := 31) (n := 295465) (Nat.le_of_ble_eq_true rfl) (Nat.le_of_ble_eq_true rfl) ?_
  refine lv_dup hx hb dX11_init_114 rfl ?_
  refine lv_aload_n hx hb dX11_init_115 rfl (lv_at hl 0 rfl) ?_
  refine va_get (D := DG G) (ci := 10) (v := .ref q_1) (C := RX11) (T := TX11) (N := 10) hx hb hts inW_X11 hown hK hP 0 rfl rfl 0 (by decide) (hts _ wm299) (fun _ h9 => h9) rfl dX11_init_116 ?_
  refine lv_aload_n hx hb dX11_init_119 rfl (lv_at hl 0 rfl) ?_
  refine va_get (D := DG G) (ci := 10) (v := .ref q_12) (C := RX11) (T := TX11) (N := 10) hx hb hts inW_X11 hown hK hP 0 rfl rfl 2 (by decide) (hts _ wm301) (fun _ h9 => h9) rfl dX11_init_120 ?_
  refine lv_aload_n hx hb dX11_init_123 rfl (lv_at hl 0 rfl) ?_
  refine va_get (D := DG G) (ci := 10) (v := .ref q_20) (C := RX11) (T := TX11) (N := 10) hx hb hts inW_X11 hown hK hP 0 rfl rfl 3 (by decide) (hts _ wm302) (fun _ h9 => h9) rfl dX11_init_124 ?_
  have hFc := va_free (wc := [(q_25, .inr (5, [.null, .null, .null, .null, .null, .null, .null, .int 0, .int 0, .int 0, .int 0, .int 0]))]) hD hS hA [12] rfl
  refine va_callv (va_runI (As := [.ref q_1, .ref q_12, .ref q_20]) (rest := [.ref q_25, .ref h0]) ⟨hx, hb, hml, hown, hts⟩ (k_X5_init l hfl G q_25 q_1 q_12 q_20 H.size) (cwI 3 hts (gC wm259) rfl rfl rfl (hts _ wm10) (hts _ wm257) (hts _ wm258) rfl (by decide +kernel) ⟨Nat.le_of_ble_eq_true rfl, Nat.le_of_ble_eq_true rfl⟩) (pre_s hK hP hD hS hE [12] rfl rfl (by decide) hFc) rfl rfl hl.1 rfl (lv_room (Nat.le_of_ble_eq_true rfl)) dX11_init_127 ⟨Nat.le_of_ble_eq_true rfl, Nat.le_of_ble_eq_true rfl⟩) hS (fun q _ h => hFc q h) hFc (fun u t H locs ht hvm hw hB hz1 hk1 hS => ?_)
  obtain ⟨hP1, hD1⟩ := hB
  rw [ht] at hP1
  obtain ⟨hP, hD⟩ := va_join (wr := [(h0, .inr (10, [.ref q_1, .ref q_11, .ref q_12, .ref q_20, .ref q_23, .ref q_24, .null, .null, .int 0, .long 0])), (q_1, .inr (8, [.ref q_2, .ref q_3, .ref q_4, .ref q_5, .ref q_6, .ref q_7, .ref q_8, .ref q_9, .ref q_10, .int 0])), (q_2, .inl (cyA G 0, 32768, .inl (fun _ => 0))), (q_3, .inl (cyA G 0, 32768, .inl (fun _ => 0))), (q_4, .inl (cyA G 0, 32768, .inl (fun _ => 0))), (q_5, .inl (cyA G 0, 32768, .inl (fun _ => 0))), (q_6, .inl (cyA G 0, 32768, .inl (fun _ => 0))), (q_7, .inl (cyA G 0, 32768, .inl (fun _ => 0))), (q_8, .inl (cyA G 0, 32768, .inl (fun _ => 0))), (q_9, .inl (cyA G 1, 32768, .inl (fun _ => 0))), (q_12, .inr (6, [.ref q_1, .ref q_13, .ref q_14, .ref q_15, .ref q_16, .ref q_17, .ref q_18, .ref q_19, .int 0, .int 0])), (q_20, .inr (2, [.ref q_1, .ref q_11, .ref q_12, .ref q_21, .ref q_22, .int 0, .int 0, .int 0]))]) (w1 := []) hP hD [12] [0, 1, 2, 3, 4, 5, 6, 7, 8, 9, 10, 11] rfl rfl (by decide) (by decide) hk1 hFc hP1 hD1
  have hP : va_P (DG G) clP1 [(h0, .inr (10, [.ref q_1, .ref q_11, .ref q_12, .ref q_20, .ref q_23, .ref q_24, .null, .null, .int 0, .long 0])), (q_1, .inr (8, [.ref q_2, .ref q_3, .ref q_4, .ref q_5, .ref q_6, .ref q_7, .ref q_8, .ref q_9, .ref q_10, .int 0])), (q_2, .inl (cyA G 0, 32768, .inl (fun _ => 0))), (q_3, .inl (cyA G 0, 32768, .inl (fun _ => 0))), (q_4, .inl (cyA G 0, 32768, .inl (fun _ => 0))), (q_5, .inl (cyA G 0, 32768, .inl (fun _ => 0))), (q_6, .inl (cyA G 0, 32768, .inl (fun _ => 0))), (q_7, .inl (cyA G 0, 32768, .inl (fun _ => 0))), (q_8, .inl (cyA G 0, 32768, .inl (fun _ => 0))), (q_9, .inl (cyA G 1, 32768, .inl (fun _ => 0))), (q_12, .inr (6, [.ref q_1, .ref q_13, .ref q_14, .ref q_15, .ref q_16, .ref q_17, .ref q_18, .ref q_19, .int 0, .int 0])), (q_20, .inr (2, [.ref q_1, .ref q_11, .ref q_12, .ref q_21, .ref q_22, .int 0, .int 0, .int 0]))] H := hP
  have hD : va_D A [(h0, .inr (10, [.ref q_1, .ref q_11, .ref q_12, .ref q_20, .ref q_23, .ref q_24, .null, .null, .int 0, .long 0])), (q_1, .inr (8, [.ref q_2, .ref q_3, .ref q_4, .ref q_5, .ref q_6, .ref q_7, .ref q_8, .ref q_9, .ref q_10, .int 0])), (q_2, .inl (cyA G 0, 32768, .inl (fun _ => 0))), (q_3, .inl (cyA G 0, 32768, .inl (fun _ => 0))), (q_4, .inl (cyA G 0, 32768, .inl (fun _ => 0))), (q_5, .inl (cyA G 0, 32768, .inl (fun _ => 0))), (q_6, .inl (cyA G 0, 32768, .inl (fun _ => 0))), (q_7, .inl (cyA G 0, 32768, .inl (fun _ => 0))), (q_8, .inl (cyA G 0, 32768, .inl (fun _ => 0))), (q_9, .inl (cyA G 1, 32768, .inl (fun _ => 0))), (q_12, .inr (6, [.ref q_1, .ref q_13, .ref q_14, .ref q_15, .ref q_16, .ref q_17, .ref q_18, .ref q_19, .int 0, .int 0])), (q_20, .inr (2, [.ref q_1, .ref q_11, .ref q_12, .ref q_21, .ref q_22, .int 0, .int 0, .int 0]))] := hD
  refine W.widen (k := 35) (n := 303881) (Nat.le_of_ble_eq_true rfl) (Nat.le_of_ble_eq_true rfl) ?_
  refine va_putF (D := DG G) (ci := 10) (v := .ref q_25) (ty := tyX11 6) (C := RX11) (T := TX11) (N := 10) hx hb hts inW_X11 tyX11 tyX11_ok nmX11 hown hK hP hD hS 0 rfl rfl 6 (by decide) (hts _ wm305) (fun _ h9 => h9) rfl hin rfl (by decide +kernel) rfl rfl (Nat.le_of_ble_eq_true rfl) dX11_init_130 (fun H locs hP hD hS => ?_)
  have hP : va_P (DG G) clP1 [(h0, .inr (10, [.ref q_1, .ref q_11, .ref q_12, .ref q_20, .ref q_23, .ref q_24, .ref q_25, .null, .int 0, .long 0])), (q_1, .inr (8, [.ref q_2, .ref q_3, .ref q_4, .ref q_5, .ref q_6, .ref q_7, .ref q_8, .ref q_9, .ref q_10, .int 0])), (q_2, .inl (cyA G 0, 32768, .inl (fun _ => 0))), (q_3, .inl (cyA G 0, 32768, .inl (fun _ => 0))), (q_4, .inl (cyA G 0, 32768, .inl (fun _ => 0))), (q_5, .inl (cyA G 0, 32768, .inl (fun _ => 0))), (q_6, .inl (cyA G 0, 32768, .inl (fun _ => 0))), (q_7, .inl (cyA G 0, 32768, .inl (fun _ => 0))), (q_8, .inl (cyA G 0, 32768, .inl (fun _ => 0))), (q_9, .inl (cyA G 1, 32768, .inl (fun _ => 0))), (q_12, .inr (6, [.ref q_1, .ref q_13, .ref q_14, .ref q_15, .ref q_16, .ref q_17, .ref q_18, .ref q_19, .int 0, .int 0])), (q_20, .inr (2, [.ref q_1, .ref q_11, .ref q_12, .ref q_21, .ref q_22, .int 0, .int 0, .int 0]))] H := hP
  have hD : va_D A [(h0, .inr (10, [.ref q_1, .ref q_11, .ref q_12, .ref q_20, .ref q_23, .ref q_24, .ref q_25, .null, .int 0, .long 0])), (q_1, .inr (8, [.ref q_2, .ref q_3, .ref q_4, .ref q_5, .ref q_6, .ref q_7, .ref q_8, .ref q_9, .ref q_10, .int 0])), (q_2, .inl (cyA G 0, 32768, .inl (fun _ => 0))), (q_3, .inl (cyA G 0, 32768, .inl (fun _ => 0))), (q_4, .inl (cyA G 0, 32768, .inl (fun _ => 0))), (q_5, .inl (cyA G 0, 32768, .inl (fun _ => 0))), (q_6, .inl (cyA G 0, 32768, .inl (fun _ => 0))), (q_7, .inl (cyA G 0, 32768, .inl (fun _ => 0))), (q_8, .inl (cyA G 0, 32768, .inl (fun _ => 0))), (q_9, .inl (cyA G 1, 32768, .inl (fun _ => 0))), (q_12, .inr (6, [.ref q_1, .ref q_13, .ref q_14, .ref q_15, .ref q_16, .ref q_17, .ref q_18, .ref q_19, .int 0, .int 0])), (q_20, .inr (2, [.ref q_1, .ref q_11, .ref q_12, .ref q_21, .ref q_22, .int 0, .int 0, .int 0]))] := hD
  refine lv_aload_n hx hb dX11_init_133 rfl (lv_at hl 0 rfl) ?_
  refine lv_sipush (v := 250) hx hb dX11_init_134 (by decide) ?_
  refine my_newa (atype := .int) (N' := 250) (a0 := (250, .inl (fun _ => 0))) (t1 := 0) hx hb (hts _ wm86) rfl rfl hK hP hD hS hA (fun _ => rfl) (by decide) (by decide) (Nat.le_of_ble_eq_true rfl) (Nat.le_of_ble_eq_true rfl) (Nat.le_of_ble_eq_true rfl) dX11_init_137 (fun q_26 H hP hD hS => ?_)
  have hP : va_P (DG G) clP1 [(h0, .inr (10, [.ref q_1, .ref q_11, .ref q_12, .ref q_20, .ref q_23, .ref q_24, .ref q_25, .null, .int 0, .long 0])), (q_1, .inr (8, [.ref q_2, .ref q_3, .ref q_4, .ref q_5, .ref q_6, .ref q_7, .ref q_8, .ref q_9, .ref q_10, .int 0])), (q_2, .inl (cyA G 0, 32768, .inl (fun _ => 0))), (q_3, .inl (cyA G 0, 32768, .inl (fun _ => 0))), (q_4, .inl (cyA G 0, 32768, .inl (fun _ => 0))), (q_5, .inl (cyA G 0, 32768, .inl (fun _ => 0))), (q_6, .inl (cyA G 0, 32768, .inl (fun _ => 0))), (q_7, .inl (cyA G 0, 32768, .inl (fun _ => 0))), (q_8, .inl (cyA G 0, 32768, .inl (fun _ => 0))), (q_9, .inl (cyA G 1, 32768, .inl (fun _ => 0))), (q_12, .inr (6, [.ref q_1, .ref q_13, .ref q_14, .ref q_15, .ref q_16, .ref q_17, .ref q_18, .ref q_19, .int 0, .int 0])), (q_20, .inr (2, [.ref q_1, .ref q_11, .ref q_12, .ref q_21, .ref q_22, .int 0, .int 0, .int 0])), (q_26, .inl (cyA G 0, 250, .inl (fun _ => 0)))] H := hP
  have hD : va_D A [(h0, .inr (10, [.ref q_1, .ref q_11, .ref q_12, .ref q_20, .ref q_23, .ref q_24, .ref q_25, .null, .int 0, .long 0])), (q_1, .inr (8, [.ref q_2, .ref q_3, .ref q_4, .ref q_5, .ref q_6, .ref q_7, .ref q_8, .ref q_9, .ref q_10, .int 0])), (q_2, .inl (cyA G 0, 32768, .inl (fun _ => 0))), (q_3, .inl (cyA G 0, 32768, .inl (fun _ => 0))), (q_4, .inl (cyA G 0, 32768, .inl (fun _ => 0))), (q_5, .inl (cyA G 0, 32768, .inl (fun _ => 0))), (q_6, .inl (cyA G 0, 32768, .inl (fun _ => 0))), (q_7, .inl (cyA G 0, 32768, .inl (fun _ => 0))), (q_8, .inl (cyA G 0, 32768, .inl (fun _ => 0))), (q_9, .inl (cyA G 1, 32768, .inl (fun _ => 0))), (q_12, .inr (6, [.ref q_1, .ref q_13, .ref q_14, .ref q_15, .ref q_16, .ref q_17, .ref q_18, .ref q_19, .int 0, .int 0])), (q_20, .inr (2, [.ref q_1, .ref q_11, .ref q_12, .ref q_21, .ref q_22, .int 0, .int 0, .int 0])), (q_26, .inl (cyA G 0, 250, .inl (fun _ => 0)))] := hD
  refine W.widen (k := 36) (n := 304131) (Nat.le_of_ble_eq_true rfl) (Nat.le_of_ble_eq_true rfl) ?_
  refine va_putF (D := DG G) (ci := 10) (v := .ref q_26) (ty := tyX11 7) (C := RX11) (T := TX11) (N := 10) hx hb hts inW_X11 tyX11 tyX11_ok nmX11 hown hK hP hD hS 0 rfl rfl 7 (by decide) (hts _ wm306) (fun _ h9 => h9) rfl hin rfl (by decide +kernel) rfl rfl (Nat.le_of_ble_eq_true rfl) dX11_init_139 (fun H locs hP hD hS => ?_)
  have hP : va_P (DG G) clP1 [(h0, .inr (10, [.ref q_1, .ref q_11, .ref q_12, .ref q_20, .ref q_23, .ref q_24, .ref q_25, .ref q_26, .int 0, .long 0])), (q_1, .inr (8, [.ref q_2, .ref q_3, .ref q_4, .ref q_5, .ref q_6, .ref q_7, .ref q_8, .ref q_9, .ref q_10, .int 0])), (q_2, .inl (cyA G 0, 32768, .inl (fun _ => 0))), (q_3, .inl (cyA G 0, 32768, .inl (fun _ => 0))), (q_4, .inl (cyA G 0, 32768, .inl (fun _ => 0))), (q_5, .inl (cyA G 0, 32768, .inl (fun _ => 0))), (q_6, .inl (cyA G 0, 32768, .inl (fun _ => 0))), (q_7, .inl (cyA G 0, 32768, .inl (fun _ => 0))), (q_8, .inl (cyA G 0, 32768, .inl (fun _ => 0))), (q_9, .inl (cyA G 1, 32768, .inl (fun _ => 0))), (q_12, .inr (6, [.ref q_1, .ref q_13, .ref q_14, .ref q_15, .ref q_16, .ref q_17, .ref q_18, .ref q_19, .int 0, .int 0])), (q_20, .inr (2, [.ref q_1, .ref q_11, .ref q_12, .ref q_21, .ref q_22, .int 0, .int 0, .int 0])), (q_26, .inl (cyA G 0, 250, .inl (fun _ => 0)))] H := hP
  have hD : va_D A [(h0, .inr (10, [.ref q_1, .ref q_11, .ref q_12, .ref q_20, .ref q_23, .ref q_24, .ref q_25, .ref q_26, .int 0, .long 0])), (q_1, .inr (8, [.ref q_2, .ref q_3, .ref q_4, .ref q_5, .ref q_6, .ref q_7, .ref q_8, .ref q_9, .ref q_10, .int 0])), (q_2, .inl (cyA G 0, 32768, .inl (fun _ => 0))), (q_3, .inl (cyA G 0, 32768, .inl (fun _ => 0))), (q_4, .inl (cyA G 0, 32768, .inl (fun _ => 0))), (q_5, .inl (cyA G 0, 32768, .inl (fun _ => 0))), (q_6, .inl (cyA G 0, 32768, .inl (fun _ => 0))), (q_7, .inl (cyA G 0, 32768, .inl (fun _ => 0))), (q_8, .inl (cyA G 0, 32768, .inl (fun _ => 0))), (q_9, .inl (cyA G 1, 32768, .inl (fun _ => 0))), (q_12, .inr (6, [.ref q_1, .ref q_13, .ref q_14, .ref q_15, .ref q_16, .ref q_17, .ref q_18, .ref q_19, .int 0, .int 0])), (q_20, .inr (2, [.ref q_1, .ref q_11, .ref q_12, .ref q_21, .ref q_22, .int 0, .int 0, .int 0])), (q_26, .inl (cyA G 0, 250, .inl (fun _ => 0)))] := hD
  have hP9 := hP.sub (ws' := [(h0, .inr (10, [.ref q_1, .ref q_11, .ref q_12, .ref q_20, .ref q_23, .ref q_24, .ref q_25, .ref q_26, .int 0, .long 0])), (q_1, .inr (8, [.ref q_2, .ref q_3, .ref q_4, .ref q_5, .ref q_6, .ref q_7, .ref q_8, .ref q_9, .ref q_10, .int 0])), (q_2, .inl (cyA G 0, 32768, .inl (fun _ => 0))), (q_3, .inl (cyA G 0, 32768, .inl (fun _ => 0))), (q_4, .inl (cyA G 0, 32768, .inl (fun _ => 0))), (q_5, .inl (cyA G 0, 32768, .inl (fun _ => 0))), (q_6, .inl (cyA G 0, 32768, .inl (fun _ => 0))), (q_7, .inl (cyA G 0, 32768, .inl (fun _ => 0))), (q_8, .inl (cyA G 0, 32768, .inl (fun _ => 0))), (q_9, .inl (cyA G 1, 32768, .inl (fun _ => 0))), (q_12, .inr (6, [.ref q_1, .ref q_13, .ref q_14, .ref q_15, .ref q_16, .ref q_17, .ref q_18, .ref q_19, .int 0, .int 0])), (q_20, .inr (2, [.ref q_1, .ref q_11, .ref q_12, .ref q_21, .ref q_22, .int 0, .int 0, .int 0])), (q_26, .inl (cyA G 0, 250, .inl (fun _ => 0)))]) [0, 1, 2, 3, 4, 5, 6, 7, 8, 9, 10, 11, 12] rfl
  have hD9 := hD.sub (ws' := [(h0, .inr (10, [.ref q_1, .ref q_11, .ref q_12, .ref q_20, .ref q_23, .ref q_24, .ref q_25, .ref q_26, .int 0, .long 0])), (q_1, .inr (8, [.ref q_2, .ref q_3, .ref q_4, .ref q_5, .ref q_6, .ref q_7, .ref q_8, .ref q_9, .ref q_10, .int 0])), (q_2, .inl (cyA G 0, 32768, .inl (fun _ => 0))), (q_3, .inl (cyA G 0, 32768, .inl (fun _ => 0))), (q_4, .inl (cyA G 0, 32768, .inl (fun _ => 0))), (q_5, .inl (cyA G 0, 32768, .inl (fun _ => 0))), (q_6, .inl (cyA G 0, 32768, .inl (fun _ => 0))), (q_7, .inl (cyA G 0, 32768, .inl (fun _ => 0))), (q_8, .inl (cyA G 0, 32768, .inl (fun _ => 0))), (q_9, .inl (cyA G 1, 32768, .inl (fun _ => 0))), (q_12, .inr (6, [.ref q_1, .ref q_13, .ref q_14, .ref q_15, .ref q_16, .ref q_17, .ref q_18, .ref q_19, .int 0, .int 0])), (q_20, .inr (2, [.ref q_1, .ref q_11, .ref q_12, .ref q_21, .ref q_22, .int 0, .int 0, .int 0])), (q_26, .inl (cyA G 0, 250, .inl (fun _ => 0)))]) [0, 1, 2, 3, 4, 5, 6, 7, 8, 9, 10, 11, 12] (by decide) rfl
  refine W.widen (k := 36) (n := 304131) (Nat.le_of_ble_eq_true rfl) (Nat.le_of_ble_eq_true rfl) ?_
  exact W.vret hx hb hr (fun t ht hW => ⟨⟨(), rfl, trivial, ⟨q_1, q_11, q_12, q_20, q_23, q_24, q_25, q_26, q_2, q_3, q_4, q_5, q_6, q_7, q_8, q_9, q_10, q_13, q_14, q_15, q_16, q_17, q_18, q_19, q_21, q_22, by rw [ht]; exact hP9, hD9⟩⟩, hS.F ht⟩) hS.2.2 dX11_init_142 hlocks
set_option maxHeartbeats 4000000 in
set_option maxRecDepth 100000 in
theorem k_X9_leaf_0 (l : Launch) (hfl : l.stackTraces = false) (G : GC) (t1 : Nat) (p1 : Int32) (ta0 : Nat) (ta1 : Nat) (ta2 : Nat) (ta3 : Nat) (ta4 : Nat) (ta5 : Nat) (ta6 : Nat) (ta7 : Nat) (ta8 : Nat) (tf0 : Nat → Int32) (tf1 : Nat → Int32) (tf2 : Nat → Int32) (tf3 : Nat → Int32) (tf4 : Nat → Int32) (tf5 : Nat → Int32) (tf6 : Nat → Int32) (tf7 : Nat → Int32) (sz : Nat) : Met l yX9_leaf (Cond.code yX9_leaf cX9_leaf 4 (some .int) :: W0) ({ frames := 0, cells := 0, slots := 0, locals := 0 }) (va_Pc [.ref t1, .int 0, .int p1] (WD G [(t1, .inr (8, [.ref ta0, .ref ta1, .ref ta2, .ref ta3, .ref ta4, .ref ta5, .ref ta6, .ref ta7, .ref ta8, .int 0])), (ta0, .inl (cyA G 0, 32768, .inl (tf0))), (ta1, .inl (cyA G 0, 32768, .inl (tf1))), (ta2, .inl (cyA G 0, 32768, .inl (tf2))), (ta3, .inl (cyA G 0, 32768, .inl (tf3))), (ta4, .inl (cyA G 0, 32768, .inl (tf4))), (ta5, .inl (cyA G 0, 32768, .inl (tf5))), (ta6, .inl (cyA G 0, 32768, .inl (tf6))), (ta7, .inl (cyA G 1, 32768, .inl (tf7)))] sz)) (va_Qi (fun (r : Int32) (_ : Unit) => r = 0) (fun _ t => PW G (va_A [(t1, .inr (8, [.ref ta0, .ref ta1, .ref ta2, .ref ta3, .ref ta4, .ref ta5, .ref ta6, .ref ta7, .ref ta8, .int 0])), (ta0, .inl (cyA G 0, 32768, .inl (tf0))), (ta1, .inl (cyA G 0, 32768, .inl (tf1))), (ta2, .inl (cyA G 0, 32768, .inl (tf2))), (ta3, .inl (cyA G 0, 32768, .inl (tf3))), (ta4, .inl (cyA G 0, 32768, .inl (tf4))), (ta5, .inl (cyA G 0, 32768, .inl (tf5))), (ta6, .inl (cyA G 0, 32768, .inl (tf6))), (ta7, .inl (cyA G 1, 32768, .inl (tf7)))] sz) [] t) (va_A [(t1, .inr (8, [.ref ta0, .ref ta1, .ref ta2, .ref ta3, .ref ta4, .ref ta5, .ref ta6, .ref ta7, .ref ta8, .int 0])), (ta0, .inl (cyA G 0, 32768, .inl (tf0))), (ta1, .inl (cyA G 0, 32768, .inl (tf1))), (ta2, .inl (cyA G 0, 32768, .inl (tf2))), (ta3, .inl (cyA G 0, 32768, .inl (tf3))), (ta4, .inl (cyA G 0, 32768, .inl (tf4))), (ta5, .inl (cyA G 0, 32768, .inl (tf5))), (ta6, .inl (cyA G 0, 32768, .inl (tf6))), (ta7, .inl (cyA G 1, 32768, .inl (tf7)))] sz)) 0 0 (va_A [(t1, .inr (8, [.ref ta0, .ref ta1, .ref ta2, .ref ta3, .ref ta4, .ref ta5, .ref ta6, .ref ta7, .ref ta8, .int 0])), (ta0, .inl (cyA G 0, 32768, .inl (tf0))), (ta1, .inl (cyA G 0, 32768, .inl (tf1))), (ta2, .inl (cyA G 0, 32768, .inl (tf2))), (ta3, .inl (cyA G 0, 32768, .inl (tf3))), (ta4, .inl (cyA G 0, 32768, .inl (tf4))), (ta5, .inl (cyA G 0, 32768, .inl (tf5))), (ta6, .inl (cyA G 0, 32768, .inl (tf6))), (ta7, .inl (cyA G 1, 32768, .inl (tf7)))] sz) := by
  refine Met.ofW (cc := cX9_leaf) (maxL := 4) (ret := (some .int)) (by decide) rfl ?_
  intro p e s m args below meth c s₁ B hml hv
  obtain ⟨rfl, hsz, hP, hK, hD0, hE⟩ := hv
  have hx := B.exec
  have hb := B.bytes
  have hr := B.returns
  have hts := w0_tail B.pre
  have hown : s.vm.findClass RX9 = some m.cls := findClass_of_methodNamed B.named
  have hlocks := B.notSynchronized
  subst hsz
  have hD := hD0.self (sz := s.heap.size)
  generalize hAe : va_A [(t1, .inr (8, [.ref ta0, .ref ta1, .ref ta2, .ref ta3, .ref ta4, .ref ta5, .ref ta6, .ref ta7, .ref ta8, .int 0])), (ta0, .inl (cyA G 0, 32768, .inl (tf0))), (ta1, .inl (cyA G 0, 32768, .inl (tf1))), (ta2, .inl (cyA G 0, 32768, .inl (tf2))), (ta3, .inl (cyA G 0, 32768, .inl (tf3))), (ta4, .inl (cyA G 0, 32768, .inl (tf4))), (ta5, .inl (cyA G 0, 32768, .inl (tf5))), (ta6, .inl (cyA G 0, 32768, .inl (tf6))), (ta7, .inl (cyA G 1, 32768, .inl (tf7)))] s.heap.size = A at hD hE ⊢
  have hA : ∀ q : Nat, s.heap.size ≤ q → A q := fun q h => by rw [← hAe]; exact Or.inr h
  have hS : va_S A s.heap s.heap [] := va_S.rf
  obtain ⟨H, hHe⟩ : ∃ H : Heap, H = s.heap := ⟨_, rfl⟩
  have hP : va_P (DG G) clP1 [(t1, .inr (8, [.ref ta0, .ref ta1, .ref ta2, .ref ta3, .ref ta4, .ref ta5, .ref ta6, .ref ta7, .ref ta8, .int 0])), (ta0, .inl (cyA G 0, 32768, .inl (tf0))), (ta1, .inl (cyA G 0, 32768, .inl (tf1))), (ta2, .inl (cyA G 0, 32768, .inl (tf2))), (ta3, .inl (cyA G 0, 32768, .inl (tf3))), (ta4, .inl (cyA G 0, 32768, .inl (tf4))), (ta5, .inl (cyA G 0, 32768, .inl (tf5))), (ta6, .inl (cyA G 0, 32768, .inl (tf6))), (ta7, .inl (cyA G 1, 32768, .inl (tf7)))] H := by rw [hHe]; exact hP
  have hS : va_S A s.heap H [] := by rw [hHe]; exact hS
  have hl := lv_entry ([.ref t1, .int 0, .int p1]) (n := 4) (Nat.le_of_ble_eq_true rfl)
  rw [lg_entry_eq, ← hHe]
  generalize (lg_sl ([.ref t1, .int 0, .int p1]) ++ List.replicate (4 - (lg_sl ([.ref t1, .int 0, .int p1])).length) Slot.unset).toArray = ls at hl ⊢
  have hl : lv_has ls 4 [(0, .ref t1), (1, .int 0), (2, .int p1)] := hl
  refine lv_iload_n hx hb dX9_leaf_0 rfl (lv_at hl 1 rfl) ?_
  refine lv_if_lt (tgt := 18) hx hb dX9_leaf_1 (by decide) (fun c => absurd c (by decide)) (fun _ => ?_)
  refine lv_iload_n hx hb dX9_leaf_4 rfl (lv_at hl 1 rfl) ?_
  refine lv_iconst (v := 4) hx hb dX9_leaf_5 (by decide) ?_
  refine lv_icmp_gt (tgt := 18) hx hb dX9_leaf_6 (by decide) (fun c => absurd c (by decide)) (fun _ => ?_)
  refine lv_aload_n hx hb dX9_leaf_9 rfl (lv_at hl 0 rfl) ?_
  refine va_get (D := DG G) (ci := 8) (v := .int 0) (C := RX9) (T := TX9) (N := 10) hx hb hts inW_X9 hown hK hP 0 rfl rfl 9 (by decide) (hts _ wm64) (fun _ h9 => h9) rfl dX9_leaf_10 ?_
  refine lv_ldc (v := 32768) hx hb hown (hts _ wm54) dX9_leaf_13 ?_
  refine lv_icmp_lt (tgt := 20) hx hb dX9_leaf_15 (by decide) (fun _ => ?_) (fun c => absurd (by decide) c)
  refine lv_aload_n hx hb dX9_leaf_20 rfl (lv_at hl 0 rfl) ?_
  refine va_get (D := DG G) (ci := 8) (v := .int 0) (C := RX9) (T := TX9) (N := 10) hx hb hts inW_X9 hown hK hP 0 rfl rfl 9 (by decide) (hts _ wm64) (fun _ h9 => h9) rfl dX9_leaf_21 ?_
  refine lv_istore_n (lv' := [(3, .int 0), (0, .ref t1), (1, .int 0), (2, .int p1)]) hx hb dX9_leaf_24 rfl hl (by decide) rfl (fun ls hl => ?_)
  refine lv_aload_n hx hb dX9_leaf_25 rfl (lv_at hl 1 rfl) ?_
  refine lv_dup hx hb dX9_leaf_26 rfl ?_
  refine va_get (D := DG G) (ci := 8) (v := .int 0) (C := RX9) (T := TX9) (N := 10) hx hb hts inW_X9 hown hK hP 0 rfl rfl 9 (by decide) (hts _ wm64) (fun _ h9 => h9) rfl dX9_leaf_27 ?_
  refine lv_iconst (v := 1) hx hb dX9_leaf_30 (by decide) ?_
  refine lv_iadd hx hb dX9_leaf_31 ?_
  refine lv_topi (fun z_1 ez_1 => ?_)
  obtain rfl : z_1 = 1 := ez_1.trans (by decide)
  refine va_put (D := DG G) (ci := 8) (v := .int 1) (ty := tyX9 9) (C := RX9) (T := TX9) (N := 10) hx hb hts inW_X9 tyX9 tyX9_ok nmX9 hown hK hP hD hS 0 rfl rfl 9 (by decide) (hts _ wm64) (fun _ h9 => h9) rfl (by decide +kernel) rfl rfl (Nat.le_of_ble_eq_true rfl) dX9_leaf_32 (fun H locs hP hD hS => ?_)
  have hP : va_P (DG G) clP1 [(t1, .inr (8, [.ref ta0, .ref ta1, .ref ta2, .ref ta3, .ref ta4, .ref ta5, .ref ta6, .ref ta7, .ref ta8, .int 1])), (ta0, .inl (cyA G 0, 32768, .inl (tf0))), (ta1, .inl (cyA G 0, 32768, .inl (tf1))), (ta2, .inl (cyA G 0, 32768, .inl (tf2))), (ta3, .inl (cyA G 0, 32768, .inl (tf3))), (ta4, .inl (cyA G 0, 32768, .inl (tf4))), (ta5, .inl (cyA G 0, 32768, .inl (tf5))), (ta6, .inl (cyA G 0, 32768, .inl (tf6))), (ta7, .inl (cyA G 1, 32768, .inl (tf7)))] H := hP
  have hD : va_D A [(t1, .inr (8, [.ref ta0, .ref ta1, .ref ta2, .ref ta3, .ref ta4, .ref ta5, .ref ta6, .ref ta7, .ref ta8, .int 1])), (ta0, .inl (cyA G 0, 32768, .inl (tf0))), (ta1, .inl (cyA G 0, 32768, .inl (tf1))), (ta2, .inl (cyA G 0, 32768, .inl (tf2))), (ta3, .inl (cyA G 0, 32768, .inl (tf3))), (ta4, .inl (cyA G 0, 32768, .inl (tf4))), (ta5, .inl (cyA G 0, 32768, .inl (tf5))), (ta6, .inl (cyA G 0, 32768, .inl (tf6))), (ta7, .inl (cyA G 1, 32768, .inl (tf7)))] := hD
  refine lv_aload_n hx hb dX9_leaf_35 rfl (lv_at hl 1 rfl) ?_
  refine va_get (D := DG G) (ci := 8) (v := .ref ta0) (C := RX9) (T := TX9) (N := 10) hx hb hts inW_X9 hown hK hP 0 rfl rfl 0 (by decide) (hts _ wm55) (fun _ h9 => h9) rfl dX9_leaf_36 ?_
  refine lv_iload_n hx hb dX9_leaf_39 rfl (lv_at hl 0 rfl) ?_
  refine lv_iload_n hx hb dX9_leaf_40 rfl (lv_at hl 2 rfl) ?_
  refine va_iast hx hb hK hP hD hS 1 0 rfl rfl (show ¬ ((0 : Int32) < 0 ∨ 32768 ≤ Int32.toNatClampNeg 0) from by decide) dX9_leaf_41 (fun H locs hP hD hS => ?_)
  obtain ⟨f_2, hP, hD⟩ : ∃ f_2 : Nat → Int32, va_P (DG G) clP1 [(t1, .inr (8, [.ref ta0, .ref ta1, .ref ta2, .ref ta3, .ref ta4, .ref ta5, .ref ta6, .ref ta7, .ref ta8, .int 1])), (ta0, .inl (cyA G 0, 32768, .inl (f_2))), (ta1, .inl (cyA G 0, 32768, .inl (tf1))), (ta2, .inl (cyA G 0, 32768, .inl (tf2))), (ta3, .inl (cyA G 0, 32768, .inl (tf3))), (ta4, .inl (cyA G 0, 32768, .inl (tf4))), (ta5, .inl (cyA G 0, 32768, .inl (tf5))), (ta6, .inl (cyA G 0, 32768, .inl (tf6))), (ta7, .inl (cyA G 1, 32768, .inl (tf7)))] H ∧ va_D A [(t1, .inr (8, [.ref ta0, .ref ta1, .ref ta2, .ref ta3, .ref ta4, .ref ta5, .ref ta6, .ref ta7, .ref ta8, .int 1])), (ta0, .inl (cyA G 0, 32768, .inl (f_2))), (ta1, .inl (cyA G 0, 32768, .inl (tf1))), (ta2, .inl (cyA G 0, 32768, .inl (tf2))), (ta3, .inl (cyA G 0, 32768, .inl (tf3))), (ta4, .inl (cyA G 0, 32768, .inl (tf4))), (ta5, .inl (cyA G 0, 32768, .inl (tf5))), (ta6, .inl (cyA G 0, 32768, .inl (tf6))), (ta7, .inl (cyA G 1, 32768, .inl (tf7)))] := ⟨_, hP, hD⟩
  refine lv_aload_n hx hb dX9_leaf_42 rfl (lv_at hl 1 rfl) ?_
  refine va_get (D := DG G) (ci := 8) (v := .ref ta1) (C := RX9) (T := TX9) (N := 10) hx hb hts inW_X9 hown hK hP 0 rfl rfl 1 (by decide) (hts _ wm56) (fun _ h9 => h9) rfl dX9_leaf_43 ?_
  refine lv_iload_n hx hb dX9_leaf_46 rfl (lv_at hl 0 rfl) ?_
  refine lv_iload_n hx hb dX9_leaf_47 rfl (lv_at hl 3 rfl) ?_
  refine va_iast hx hb hK hP hD hS 2 0 rfl rfl (show ¬ ((0 : Int32) < 0 ∨ 32768 ≤ Int32.toNatClampNeg 0) from by decide) dX9_leaf_48 (fun H locs hP hD hS => ?_)
  obtain ⟨f_3, hP, hD⟩ : ∃ f_3 : Nat → Int32, va_P (DG G) clP1 [(t1, .inr (8, [.ref ta0, .ref ta1, .ref ta2, .ref ta3, .ref ta4, .ref ta5, .ref ta6, .ref ta7, .ref ta8, .int 1])), (ta0, .inl (cyA G 0, 32768, .inl (f_2))), (ta1, .inl (cyA G 0, 32768, .inl (f_3))), (ta2, .inl (cyA G 0, 32768, .inl (tf2))), (ta3, .inl (cyA G 0, 32768, .inl (tf3))), (ta4, .inl (cyA G 0, 32768, .inl (tf4))), (ta5, .inl (cyA G 0, 32768, .inl (tf5))), (ta6, .inl (cyA G 0, 32768, .inl (tf6))), (ta7, .inl (cyA G 1, 32768, .inl (tf7)))] H ∧ va_D A [(t1, .inr (8, [.ref ta0, .ref ta1, .ref ta2, .ref ta3, .ref ta4, .ref ta5, .ref ta6, .ref ta7, .ref ta8, .int 1])), (ta0, .inl (cyA G 0, 32768, .inl (f_2))), (ta1, .inl (cyA G 0, 32768, .inl (f_3))), (ta2, .inl (cyA G 0, 32768, .inl (tf2))), (ta3, .inl (cyA G 0, 32768, .inl (tf3))), (ta4, .inl (cyA G 0, 32768, .inl (tf4))), (ta5, .inl (cyA G 0, 32768, .inl (tf5))), (ta6, .inl (cyA G 0, 32768, .inl (tf6))), (ta7, .inl (cyA G 1, 32768, .inl (tf7)))] := ⟨_, hP, hD⟩
  refine lv_aload_n hx hb dX9_leaf_49 rfl (lv_at hl 1 rfl) ?_
  refine va_get (D := DG G) (ci := 8) (v := .ref ta2) (C := RX9) (T := TX9) (N := 10) hx hb hts inW_X9 hown hK hP 0 rfl rfl 2 (by decide) (hts _ wm57) (fun _ h9 => h9) rfl dX9_leaf_50 ?_
  refine lv_iload_n hx hb dX9_leaf_53 rfl (lv_at hl 0 rfl) ?_
  refine lv_iconst (v := (-1)) hx hb dX9_leaf_54 (by decide) ?_
  refine va_iast hx hb hK hP hD hS 3 0 rfl rfl (show ¬ ((0 : Int32) < 0 ∨ 32768 ≤ Int32.toNatClampNeg 0) from by decide) dX9_leaf_55 (fun H locs hP hD hS => ?_)
  obtain ⟨f_4, hP, hD⟩ : ∃ f_4 : Nat → Int32, va_P (DG G) clP1 [(t1, .inr (8, [.ref ta0, .ref ta1, .ref ta2, .ref ta3, .ref ta4, .ref ta5, .ref ta6, .ref ta7, .ref ta8, .int 1])), (ta0, .inl (cyA G 0, 32768, .inl (f_2))), (ta1, .inl (cyA G 0, 32768, .inl (f_3))), (ta2, .inl (cyA G 0, 32768, .inl (f_4))), (ta3, .inl (cyA G 0, 32768, .inl (tf3))), (ta4, .inl (cyA G 0, 32768, .inl (tf4))), (ta5, .inl (cyA G 0, 32768, .inl (tf5))), (ta6, .inl (cyA G 0, 32768, .inl (tf6))), (ta7, .inl (cyA G 1, 32768, .inl (tf7)))] H ∧ va_D A [(t1, .inr (8, [.ref ta0, .ref ta1, .ref ta2, .ref ta3, .ref ta4, .ref ta5, .ref ta6, .ref ta7, .ref ta8, .int 1])), (ta0, .inl (cyA G 0, 32768, .inl (f_2))), (ta1, .inl (cyA G 0, 32768, .inl (f_3))), (ta2, .inl (cyA G 0, 32768, .inl (f_4))), (ta3, .inl (cyA G 0, 32768, .inl (tf3))), (ta4, .inl (cyA G 0, 32768, .inl (tf4))), (ta5, .inl (cyA G 0, 32768, .inl (tf5))), (ta6, .inl (cyA G 0, 32768, .inl (tf6))), (ta7, .inl (cyA G 1, 32768, .inl (tf7)))] := ⟨_, hP, hD⟩
  refine lv_aload_n hx hb dX9_leaf_56 rfl (lv_at hl 1 rfl) ?_
  refine va_get (D := DG G) (ci := 8) (v := .ref ta3) (C := RX9) (T := TX9) (N := 10) hx hb hts inW_X9 hown hK hP 0 rfl rfl 3 (by decide) (hts _ wm58) (fun _ h9 => h9) rfl dX9_leaf_57 ?_
  refine lv_iload_n hx hb dX9_leaf_60 rfl (lv_at hl 0 rfl) ?_
  refine lv_iconst (v := 1) hx hb dX9_leaf_61 (by decide) ?_
  refine va_iast hx hb hK hP hD hS 4 0 rfl rfl (show ¬ ((0 : Int32) < 0 ∨ 32768 ≤ Int32.toNatClampNeg 0) from by decide) dX9_leaf_62 (fun H locs hP hD hS => ?_)
  obtain ⟨f_5, hP, hD⟩ : ∃ f_5 : Nat → Int32, va_P (DG G) clP1 [(t1, .inr (8, [.ref ta0, .ref ta1, .ref ta2, .ref ta3, .ref ta4, .ref ta5, .ref ta6, .ref ta7, .ref ta8, .int 1])), (ta0, .inl (cyA G 0, 32768, .inl (f_2))), (ta1, .inl (cyA G 0, 32768, .inl (f_3))), (ta2, .inl (cyA G 0, 32768, .inl (f_4))), (ta3, .inl (cyA G 0, 32768, .inl (f_5))), (ta4, .inl (cyA G 0, 32768, .inl (tf4))), (ta5, .inl (cyA G 0, 32768, .inl (tf5))), (ta6, .inl (cyA G 0, 32768, .inl (tf6))), (ta7, .inl (cyA G 1, 32768, .inl (tf7)))] H ∧ va_D A [(t1, .inr (8, [.ref ta0, .ref ta1, .ref ta2, .ref ta3, .ref ta4, .ref ta5, .ref ta6, .ref ta7, .ref ta8, .int 1])), (ta0, .inl (cyA G 0, 32768, .inl (f_2))), (ta1, .inl (cyA G 0, 32768, .inl (f_3))), (ta2, .inl (cyA G 0, 32768, .inl (f_4))), (ta3, .inl (cyA G 0, 32768, .inl (f_5))), (ta4, .inl (cyA G 0, 32768, .inl (tf4))), (ta5, .inl (cyA G 0, 32768, .inl (tf5))), (ta6, .inl (cyA G 0, 32768, .inl (tf6))), (ta7, .inl (cyA G 1, 32768, .inl (tf7)))] := ⟨_, hP, hD⟩
  refine lv_aload_n hx hb dX9_leaf_63 rfl (lv_at hl 1 rfl) ?_
  refine va_get (D := DG G) (ci := 8) (v := .ref ta4) (C := RX9) (T := TX9) (N := 10) hx hb hts inW_X9 hown hK hP 0 rfl rfl 4 (by decide) (hts _ wm59) (fun _ h9 => h9) rfl dX9_leaf_64 ?_
  refine lv_iload_n hx hb dX9_leaf_67 rfl (lv_at hl 0 rfl) ?_
  obtain ⟨nl, gl, hZl, hTl⟩ := EV.leaf hE
  refine va_getsN (v := .ref nl) hx hb hZl hS hown (va_Nw.use rfl (hE.1 _ nw373)) (fun _ h9 => h9) dX9_leaf_68 ?_
  refine lv_iload_n hx hb dX9_leaf_71 rfl (lv_at hl 2 rfl) ?_
  refine va_ti (v := .int (gl (Int32.toNatClampNeg 0))) hx hb hTl hS (show ¬ ((0 : Int32) < 0 ∨ 5 ≤ Int32.toNatClampNeg 0) from by decide) rfl dX9_leaf_72 ?_
  refine lv_topi (fun z_6 _ => ?_)
  refine lv_iload_n hx hb dX9_leaf_73 rfl (lv_at hl 3 rfl) ?_
  refine lv_iadd hx hb dX9_leaf_74 ?_
  refine lv_topi (fun z_7 ez_7 => ?_)
  refine va_iast hx hb hK hP hD hS 5 0 rfl rfl (show ¬ ((0 : Int32) < 0 ∨ 32768 ≤ Int32.toNatClampNeg 0) from by decide) dX9_leaf_75 (fun H locs hP hD hS => ?_)
  obtain ⟨f_8, hP, hD⟩ : ∃ f_8 : Nat → Int32, va_P (DG G) clP1 [(t1, .inr (8, [.ref ta0, .ref ta1, .ref ta2, .ref ta3, .ref ta4, .ref ta5, .ref ta6, .ref ta7, .ref ta8, .int 1])), (ta0, .inl (cyA G 0, 32768, .inl (f_2))), (ta1, .inl (cyA G 0, 32768, .inl (f_3))), (ta2, .inl (cyA G 0, 32768, .inl (f_4))), (ta3, .inl (cyA G 0, 32768, .inl (f_5))), (ta4, .inl (cyA G 0, 32768, .inl (f_8))), (ta5, .inl (cyA G 0, 32768, .inl (tf5))), (ta6, .inl (cyA G 0, 32768, .inl (tf6))), (ta7, .inl (cyA G 1, 32768, .inl (tf7)))] H ∧ va_D A [(t1, .inr (8, [.ref ta0, .ref ta1, .ref ta2, .ref ta3, .ref ta4, .ref ta5, .ref ta6, .ref ta7, .ref ta8, .int 1])), (ta0, .inl (cyA G 0, 32768, .inl (f_2))), (ta1, .inl (cyA G 0, 32768, .inl (f_3))), (ta2, .inl (cyA G 0, 32768, .inl (f_4))), (ta3, .inl (cyA G 0, 32768, .inl (f_5))), (ta4, .inl (cyA G 0, 32768, .inl (f_8))), (ta5, .inl (cyA G 0, 32768, .inl (tf5))), (ta6, .inl (cyA G 0, 32768, .inl (tf6))), (ta7, .inl (cyA G 1, 32768, .inl (tf7)))] := ⟨_, hP, hD⟩
  refine lv_aload_n hx hb dX9_leaf_76 rfl (lv_at hl 1 rfl) ?_
  refine va_get (D := DG G) (ci := 8) (v := .ref ta5) (C := RX9) (T := TX9) (N := 10) hx hb hts inW_X9 hown hK hP 0 rfl rfl 5 (by decide) (hts _ wm60) (fun _ h9 => h9) rfl dX9_leaf_77 ?_
  refine lv_iload_n hx hb dX9_leaf_80 rfl (lv_at hl 0 rfl) ?_
  refine lv_iload_n hx hb dX9_leaf_81 rfl (lv_at hl 2 rfl) ?_
  refine lv_iconst (v := 1) hx hb dX9_leaf_82 (by decide) ?_
  refine lv_icmp_ne (tgt := 92) hx hb dX9_leaf_83 (by decide) (fun _ => ?_) (fun c => absurd c (by decide))
  refine lv_iconst (v := 0) hx hb dX9_leaf_92 (by decide) ?_
  refine va_iast hx hb hK hP hD hS 6 0 rfl rfl (show ¬ ((0 : Int32) < 0 ∨ 32768 ≤ Int32.toNatClampNeg 0) from by decide) dX9_leaf_93 (fun H locs hP hD hS => ?_)
  obtain ⟨f_9, hP, hD⟩ : ∃ f_9 : Nat → Int32, va_P (DG G) clP1 [(t1, .inr (8, [.ref ta0, .ref ta1, .ref ta2, .ref ta3, .ref ta4, .ref ta5, .ref ta6, .ref ta7, .ref ta8, .int 1])), (ta0, .inl (cyA G 0, 32768, .inl (f_2))), (ta1, .inl (cyA G 0, 32768, .inl (f_3))), (ta2, .inl (cyA G 0, 32768, .inl (f_4))), (ta3, .inl (cyA G 0, 32768, .inl (f_5))), (ta4, .inl (cyA G 0, 32768, .inl (f_8))), (ta5, .inl (cyA G 0, 32768, .inl (f_9))), (ta6, .inl (cyA G 0, 32768, .inl (tf6))), (ta7, .inl (cyA G 1, 32768, .inl (tf7)))] H ∧ va_D A [(t1, .inr (8, [.ref ta0, .ref ta1, .ref ta2, .ref ta3, .ref ta4, .ref ta5, .ref ta6, .ref ta7, .ref ta8, .int 1])), (ta0, .inl (cyA G 0, 32768, .inl (f_2))), (ta1, .inl (cyA G 0, 32768, .inl (f_3))), (ta2, .inl (cyA G 0, 32768, .inl (f_4))), (ta3, .inl (cyA G 0, 32768, .inl (f_5))), (ta4, .inl (cyA G 0, 32768, .inl (f_8))), (ta5, .inl (cyA G 0, 32768, .inl (f_9))), (ta6, .inl (cyA G 0, 32768, .inl (tf6))), (ta7, .inl (cyA G 1, 32768, .inl (tf7)))] := ⟨_, hP, hD⟩
  refine lv_aload_n hx hb dX9_leaf_94 rfl (lv_at hl 1 rfl) ?_
  refine va_get (D := DG G) (ci := 8) (v := .ref ta6) (C := RX9) (T := TX9) (N := 10) hx hb hts inW_X9 hown hK hP 0 rfl rfl 6 (by decide) (hts _ wm61) (fun _ h9 => h9) rfl dX9_leaf_95 ?_
  refine lv_iload_n hx hb dX9_leaf_98 rfl (lv_at hl 0 rfl) ?_
  refine lv_iload_n hx hb dX9_leaf_99 rfl (lv_at hl 2 rfl) ?_
  refine lv_iconst (v := 4) hx hb dX9_leaf_100 (by decide) ?_
  refine lv_icmp_ne (tgt := 110) hx hb dX9_leaf_101 (by decide) (fun _ => ?_) (fun c => absurd c (by decide))
  refine lv_iconst (v := 0) hx hb dX9_leaf_110 (by decide) ?_
  refine va_iast hx hb hK hP hD hS 7 0 rfl rfl (show ¬ ((0 : Int32) < 0 ∨ 32768 ≤ Int32.toNatClampNeg 0) from by decide) dX9_leaf_111 (fun H locs hP hD hS => ?_)
  obtain ⟨f_10, hP, hD⟩ : ∃ f_10 : Nat → Int32, va_P (DG G) clP1 [(t1, .inr (8, [.ref ta0, .ref ta1, .ref ta2, .ref ta3, .ref ta4, .ref ta5, .ref ta6, .ref ta7, .ref ta8, .int 1])), (ta0, .inl (cyA G 0, 32768, .inl (f_2))), (ta1, .inl (cyA G 0, 32768, .inl (f_3))), (ta2, .inl (cyA G 0, 32768, .inl (f_4))), (ta3, .inl (cyA G 0, 32768, .inl (f_5))), (ta4, .inl (cyA G 0, 32768, .inl (f_8))), (ta5, .inl (cyA G 0, 32768, .inl (f_9))), (ta6, .inl (cyA G 0, 32768, .inl (f_10))), (ta7, .inl (cyA G 1, 32768, .inl (tf7)))] H ∧ va_D A [(t1, .inr (8, [.ref ta0, .ref ta1, .ref ta2, .ref ta3, .ref ta4, .ref ta5, .ref ta6, .ref ta7, .ref ta8, .int 1])), (ta0, .inl (cyA G 0, 32768, .inl (f_2))), (ta1, .inl (cyA G 0, 32768, .inl (f_3))), (ta2, .inl (cyA G 0, 32768, .inl (f_4))), (ta3, .inl (cyA G 0, 32768, .inl (f_5))), (ta4, .inl (cyA G 0, 32768, .inl (f_8))), (ta5, .inl (cyA G 0, 32768, .inl (f_9))), (ta6, .inl (cyA G 0, 32768, .inl (f_10))), (ta7, .inl (cyA G 1, 32768, .inl (tf7)))] := ⟨_, hP, hD⟩
  refine lv_aload_n hx hb dX9_leaf_112 rfl (lv_at hl 1 rfl) ?_
  refine va_get (D := DG G) (ci := 8) (v := .ref ta7) (C := RX9) (T := TX9) (N := 10) hx hb hts inW_X9 hown hK hP 0 rfl rfl 7 (by decide) (hts _ wm62) (fun _ h9 => h9) rfl dX9_leaf_113 ?_
  refine lv_iload_n hx hb dX9_leaf_116 rfl (lv_at hl 0 rfl) ?_
  refine lv_iconst (v := 0) hx hb dX9_leaf_117 (by decide) ?_
  refine va_zast hx hb hK hP hD hS 8 1 rfl rfl (show ¬ ((0 : Int32) < 0 ∨ 32768 ≤ Int32.toNatClampNeg 0) from by decide) dX9_leaf_118 (fun H locs hP hD hS => ?_)
  obtain ⟨f_11, hP, hD⟩ : ∃ f_11 : Nat → Int32, va_P (DG G) clP1 [(t1, .inr (8, [.ref ta0, .ref ta1, .ref ta2, .ref ta3, .ref ta4, .ref ta5, .ref ta6, .ref ta7, .ref ta8, .int 1])), (ta0, .inl (cyA G 0, 32768, .inl (f_2))), (ta1, .inl (cyA G 0, 32768, .inl (f_3))), (ta2, .inl (cyA G 0, 32768, .inl (f_4))), (ta3, .inl (cyA G 0, 32768, .inl (f_5))), (ta4, .inl (cyA G 0, 32768, .inl (f_8))), (ta5, .inl (cyA G 0, 32768, .inl (f_9))), (ta6, .inl (cyA G 0, 32768, .inl (f_10))), (ta7, .inl (cyA G 1, 32768, .inl (f_11)))] H ∧ va_D A [(t1, .inr (8, [.ref ta0, .ref ta1, .ref ta2, .ref ta3, .ref ta4, .ref ta5, .ref ta6, .ref ta7, .ref ta8, .int 1])), (ta0, .inl (cyA G 0, 32768, .inl (f_2))), (ta1, .inl (cyA G 0, 32768, .inl (f_3))), (ta2, .inl (cyA G 0, 32768, .inl (f_4))), (ta3, .inl (cyA G 0, 32768, .inl (f_5))), (ta4, .inl (cyA G 0, 32768, .inl (f_8))), (ta5, .inl (cyA G 0, 32768, .inl (f_9))), (ta6, .inl (cyA G 0, 32768, .inl (f_10))), (ta7, .inl (cyA G 1, 32768, .inl (f_11)))] := ⟨_, hP, hD⟩
  refine lv_iload_n hx hb dX9_leaf_119 rfl (lv_at hl 0 rfl) ?_
  have hP9 := hP.sub (ws' := []) [] rfl
  have hD9 := hD.sub (ws' := []) [] (by decide) rfl
  refine W.widen (k := 0) (n := 0) (Nat.le_of_ble_eq_true rfl) (Nat.le_of_ble_eq_true rfl) ?_
  exact W.iret (v := 0) hx hb hr (fun t ht hW => ⟨⟨0, (), rfl, rfl, ⟨by rw [ht]; exact hP9, hD9⟩⟩, hS.F ht⟩) hS.2.2 dX9_leaf_120 hlocks
set_option maxHeartbeats 4000000 in
set_option maxRecDepth 100000 in
theorem k_X11_layLeaf_0 (l : Launch) (hfl : l.stackTraces = false) (G : GC) (h0 : Nat) (p1 : Int32) (t1 : Nat) (f1 : Nat) (s1 : Nat) (d1 : Nat) (y1 : Nat) (g1 : Nat) (m1 : Nat) (n1 : Nat) (ta0 : Nat) (ta1 : Nat) (ta2 : Nat) (ta3 : Nat) (ta4 : Nat) (ta5 : Nat) (ta6 : Nat) (ta7 : Nat) (ta8 : Nat) (tf0 : Nat → Int32) (tf1 : Nat → Int32) (tf2 : Nat → Int32) (tf3 : Nat → Int32) (tf4 : Nat → Int32) (tf5 : Nat → Int32) (tf6 : Nat → Int32) (tf7 : Nat → Int32) (nf : Nat → Int32) (sz : Nat) : Met l yX11_layLeaf (Cond.code yX11_layLeaf cX11_layLeaf 3 (some .int) :: W0) ({ frames := 1, cells := 0, slots := 0, locals := 23 }) (va_Pc [.ref h0, .int 0, .int p1] (WD G [(h0, .inr (10, [.ref t1, .ref f1, .ref s1, .ref d1, .ref y1, .ref g1, .ref m1, .ref n1, .int 0, .long 0])), (t1, .inr (8, [.ref ta0, .ref ta1, .ref ta2, .ref ta3, .ref ta4, .ref ta5, .ref ta6, .ref ta7, .ref ta8, .int 0])), (ta0, .inl (cyA G 0, 32768, .inl (tf0))), (ta1, .inl (cyA G 0, 32768, .inl (tf1))), (ta2, .inl (cyA G 0, 32768, .inl (tf2))), (ta3, .inl (cyA G 0, 32768, .inl (tf3))), (ta4, .inl (cyA G 0, 32768, .inl (tf4))), (ta5, .inl (cyA G 0, 32768, .inl (tf5))), (ta6, .inl (cyA G 0, 32768, .inl (tf6))), (ta7, .inl (cyA G 1, 32768, .inl (tf7))), (n1, .inl (cyA G 0, 250, .inl (nf)))] sz)) (va_Qi (fun (r : Int32) (_ : Unit) => r = 0) (fun _ t => PW G (va_A [(h0, .inr (10, [.ref t1, .ref f1, .ref s1, .ref d1, .ref y1, .ref g1, .ref m1, .ref n1, .int 0, .long 0])), (t1, .inr (8, [.ref ta0, .ref ta1, .ref ta2, .ref ta3, .ref ta4, .ref ta5, .ref ta6, .ref ta7, .ref ta8, .int 0])), (ta0, .inl (cyA G 0, 32768, .inl (tf0))), (ta1, .inl (cyA G 0, 32768, .inl (tf1))), (ta2, .inl (cyA G 0, 32768, .inl (tf2))), (ta3, .inl (cyA G 0, 32768, .inl (tf3))), (ta4, .inl (cyA G 0, 32768, .inl (tf4))), (ta5, .inl (cyA G 0, 32768, .inl (tf5))), (ta6, .inl (cyA G 0, 32768, .inl (tf6))), (ta7, .inl (cyA G 1, 32768, .inl (tf7))), (n1, .inl (cyA G 0, 250, .inl (nf)))] sz) [] t) (va_A [(h0, .inr (10, [.ref t1, .ref f1, .ref s1, .ref d1, .ref y1, .ref g1, .ref m1, .ref n1, .int 0, .long 0])), (t1, .inr (8, [.ref ta0, .ref ta1, .ref ta2, .ref ta3, .ref ta4, .ref ta5, .ref ta6, .ref ta7, .ref ta8, .int 0])), (ta0, .inl (cyA G 0, 32768, .inl (tf0))), (ta1, .inl (cyA G 0, 32768, .inl (tf1))), (ta2, .inl (cyA G 0, 32768, .inl (tf2))), (ta3, .inl (cyA G 0, 32768, .inl (tf3))), (ta4, .inl (cyA G 0, 32768, .inl (tf4))), (ta5, .inl (cyA G 0, 32768, .inl (tf5))), (ta6, .inl (cyA G 0, 32768, .inl (tf6))), (ta7, .inl (cyA G 1, 32768, .inl (tf7))), (n1, .inl (cyA G 0, 250, .inl (nf)))] sz)) 0 0 (va_A [(h0, .inr (10, [.ref t1, .ref f1, .ref s1, .ref d1, .ref y1, .ref g1, .ref m1, .ref n1, .int 0, .long 0])), (t1, .inr (8, [.ref ta0, .ref ta1, .ref ta2, .ref ta3, .ref ta4, .ref ta5, .ref ta6, .ref ta7, .ref ta8, .int 0])), (ta0, .inl (cyA G 0, 32768, .inl (tf0))), (ta1, .inl (cyA G 0, 32768, .inl (tf1))), (ta2, .inl (cyA G 0, 32768, .inl (tf2))), (ta3, .inl (cyA G 0, 32768, .inl (tf3))), (ta4, .inl (cyA G 0, 32768, .inl (tf4))), (ta5, .inl (cyA G 0, 32768, .inl (tf5))), (ta6, .inl (cyA G 0, 32768, .inl (tf6))), (ta7, .inl (cyA G 1, 32768, .inl (tf7))), (n1, .inl (cyA G 0, 250, .inl (nf)))] sz) := by
  refine Met.ofW (cc := cX11_layLeaf) (maxL := 3) (ret := (some .int)) (by decide) rfl ?_
  intro p e s m args below meth c s₁ B hml hv
  obtain ⟨rfl, hsz, hP, hK, hD0, hE⟩ := hv
  have hx := B.exec
  have hb := B.bytes
  have hr := B.returns
  have hts := w0_tail B.pre
  have hown : s.vm.findClass RX11 = some m.cls := findClass_of_methodNamed B.named
  have hlocks := B.notSynchronized
  subst hsz
  have hD := hD0.self (sz := s.heap.size)
  generalize hAe : va_A [(h0, .inr (10, [.ref t1, .ref f1, .ref s1, .ref d1, .ref y1, .ref g1, .ref m1, .ref n1, .int 0, .long 0])), (t1, .inr (8, [.ref ta0, .ref ta1, .ref ta2, .ref ta3, .ref ta4, .ref ta5, .ref ta6, .ref ta7, .ref ta8, .int 0])), (ta0, .inl (cyA G 0, 32768, .inl (tf0))), (ta1, .inl (cyA G 0, 32768, .inl (tf1))), (ta2, .inl (cyA G 0, 32768, .inl (tf2))), (ta3, .inl (cyA G 0, 32768, .inl (tf3))), (ta4, .inl (cyA G 0, 32768, .inl (tf4))), (ta5, .inl (cyA G 0, 32768, .inl (tf5))), (ta6, .inl (cyA G 0, 32768, .inl (tf6))), (ta7, .inl (cyA G 1, 32768, .inl (tf7))), (n1, .inl (cyA G 0, 250, .inl (nf)))] s.heap.size = A at hD hE ⊢
  have hA : ∀ q : Nat, s.heap.size ≤ q → A q := fun q h => by rw [← hAe]; exact Or.inr h
  have hS : va_S A s.heap s.heap [] := va_S.rf
  obtain ⟨H, hHe⟩ : ∃ H : Heap, H = s.heap := ⟨_, rfl⟩
  have hP : va_P (DG G) clP1 [(h0, .inr (10, [.ref t1, .ref f1, .ref s1, .ref d1, .ref y1, .ref g1, .ref m1, .ref n1, .int 0, .long 0])), (t1, .inr (8, [.ref ta0, .ref ta1, .ref ta2, .ref ta3, .ref ta4, .ref ta5, .ref ta6, .ref ta7, .ref ta8, .int 0])), (ta0, .inl (cyA G 0, 32768, .inl (tf0))), (ta1, .inl (cyA G 0, 32768, .inl (tf1))), (ta2, .inl (cyA G 0, 32768, .inl (tf2))), (ta3, .inl (cyA G 0, 32768, .inl (tf3))), (ta4, .inl (cyA G 0, 32768, .inl (tf4))), (ta5, .inl (cyA G 0, 32768, .inl (tf5))), (ta6, .inl (cyA G 0, 32768, .inl (tf6))), (ta7, .inl (cyA G 1, 32768, .inl (tf7))), (n1, .inl (cyA G 0, 250, .inl (nf)))] H := by rw [hHe]; exact hP
  have hS : va_S A s.heap H [] := by rw [hHe]; exact hS
  have hl := lv_entry ([.ref h0, .int 0, .int p1]) (n := 3) (Nat.le_of_ble_eq_true rfl)
  rw [lg_entry_eq, ← hHe]
  generalize (lg_sl ([.ref h0, .int 0, .int p1]) ++ List.replicate (3 - (lg_sl ([.ref h0, .int 0, .int p1])).length) Slot.unset).toArray = ls at hl ⊢
  have hl : lv_has ls 3 [(0, .ref h0), (1, .int 0), (2, .int p1)] := hl
  refine lv_aload_n hx hb dX11_layLeaf_0 rfl (lv_at hl 0 rfl) ?_
  refine va_get (D := DG G) (ci := 10) (v := .int 0) (C := RX11) (T := TX11) (N := 10) hx hb hts inW_X11 hown hK hP 0 rfl rfl 8 (by decide) (hts _ wm307) (fun _ h9 => h9) rfl dX11_layLeaf_1 ?_
  refine lv_aload_n hx hb dX11_layLeaf_4 rfl (lv_at hl 0 rfl) ?_
  refine va_get (D := DG G) (ci := 10) (v := .ref n1) (C := RX11) (T := TX11) (N := 10) hx hb hts inW_X11 hown hK hP 0 rfl rfl 7 (by decide) (hts _ wm306) (fun _ h9 => h9) rfl dX11_layLeaf_5 ?_
  refine va_alen (v := 250) hx hb hK hP 10 0 rfl rfl (show Int32.ofNat 250 = 250 from by decide) dX11_layLeaf_8 ?_
  refine lv_icmp_lt (tgt := 23) hx hb dX11_layLeaf_9 (by decide) (fun _ => ?_) (fun c => absurd (by decide) c)
  refine lv_aload_n hx hb dX11_layLeaf_23 rfl (lv_at hl 0 rfl) ?_
  refine va_get (D := DG G) (ci := 10) (v := .ref n1) (C := RX11) (T := TX11) (N := 10) hx hb hts inW_X11 hown hK hP 0 rfl rfl 7 (by decide) (hts _ wm306) (fun _ h9 => h9) rfl dX11_layLeaf_24 ?_
  refine lv_aload_n hx hb dX11_layLeaf_27 rfl (lv_at hl 0 rfl) ?_
  refine va_get (D := DG G) (ci := 10) (v := .int 0) (C := RX11) (T := TX11) (N := 10) hx hb hts inW_X11 hown hK hP 0 rfl rfl 8 (by decide) (hts _ wm307) (fun _ h9 => h9) rfl dX11_layLeaf_28 ?_
  refine lv_aload_n hx hb dX11_layLeaf_31 rfl (lv_at hl 0 rfl) ?_
  refine va_get (D := DG G) (ci := 10) (v := .ref t1) (C := RX11) (T := TX11) (N := 10) hx hb hts inW_X11 hown hK hP 0 rfl rfl 0 (by decide) (hts _ wm299) (fun _ h9 => h9) rfl dX11_layLeaf_32 ?_
  refine lv_iload_n hx hb dX11_layLeaf_35 rfl (lv_at hl 1 rfl) ?_
  refine lv_iload_n hx hb dX11_layLeaf_36 rfl (lv_at hl 2 rfl) ?_
  have hFc := va_free (wc := [(t1, .inr (8, [.ref ta0, .ref ta1, .ref ta2, .ref ta3, .ref ta4, .ref ta5, .ref ta6, .ref ta7, .ref ta8, .int 0])), (ta0, .inl (cyA G 0, 32768, .inl (tf0))), (ta1, .inl (cyA G 0, 32768, .inl (tf1))), (ta2, .inl (cyA G 0, 32768, .inl (tf2))), (ta3, .inl (cyA G 0, 32768, .inl (tf3))), (ta4, .inl (cyA G 0, 32768, .inl (tf4))), (ta5, .inl (cyA G 0, 32768, .inl (tf5))), (ta6, .inl (cyA G 0, 32768, .inl (tf6))), (ta7, .inl (cyA G 1, 32768, .inl (tf7)))]) hD hS hA [1, 2, 3, 4, 5, 6, 7, 8, 9] rfl
  refine va_calli (va_runV (As := [.int 0, .int p1]) (rest := [.int 0, .ref n1]) ⟨hx, hb, hml, hown, hts⟩ (k_X9_leaf_0 l hfl G t1 p1 ta0 ta1 ta2 ta3 ta4 ta5 ta6 ta7 ta8 tf0 tf1 tf2 tf3 tf4 tf5 tf6 tf7 H.size) (cwV 2 hts (gV wm626 wm370 wm371 wm2 wm372) rfl rfl rfl (by decide +kernel) ⟨Nat.le_of_ble_eq_true rfl, Nat.le_of_ble_eq_true rfl⟩) (pre_v (pre_s hK hP hD hS hE [1, 2, 3, 4, 5, 6, 7, 8, 9] rfl rfl (by decide) hFc) (va_recv hK hP (ci := 8) (q0 := 1) rfl rfl)) rfl rfl hl.1 rfl (lv_room (Nat.le_of_ble_eq_true rfl)) dX11_layLeaf_37 ⟨Nat.le_of_ble_eq_true rfl, Nat.le_of_ble_eq_true rfl⟩) hS (fun q _ h => hFc q h) hFc (fun r u t H locs ht hvm hw hB hz1 hk1 hS => ?_)
  obtain rfl : r = 0 := hw
  obtain ⟨hP1, hD1⟩ := hB
  rw [ht] at hP1
  obtain ⟨hP, hD⟩ := va_join (wr := [(h0, .inr (10, [.ref t1, .ref f1, .ref s1, .ref d1, .ref y1, .ref g1, .ref m1, .ref n1, .int 0, .long 0])), (n1, .inl (cyA G 0, 250, .inl (nf)))]) (w1 := []) hP hD [1, 2, 3, 4, 5, 6, 7, 8, 9] [0, 10] rfl rfl (by decide) (by decide) hk1 hFc hP1 hD1
  have hP : va_P (DG G) clP1 [(h0, .inr (10, [.ref t1, .ref f1, .ref s1, .ref d1, .ref y1, .ref g1, .ref m1, .ref n1, .int 0, .long 0])), (n1, .inl (cyA G 0, 250, .inl (nf)))] H := hP
  have hD : va_D A [(h0, .inr (10, [.ref t1, .ref f1, .ref s1, .ref d1, .ref y1, .ref g1, .ref m1, .ref n1, .int 0, .long 0])), (n1, .inl (cyA G 0, 250, .inl (nf)))] := hD
  refine W.widen (k := 0) (n := 0) (Nat.le_of_ble_eq_true rfl) (Nat.le_of_ble_eq_true rfl) ?_
  refine va_iast hx hb hK hP hD hS 1 0 rfl rfl (show ¬ ((0 : Int32) < 0 ∨ 250 ≤ Int32.toNatClampNeg 0) from by decide) dX11_layLeaf_40 (fun H locs hP hD hS => ?_)
  obtain ⟨f_1, hP, hD⟩ : ∃ f_1 : Nat → Int32, va_P (DG G) clP1 [(h0, .inr (10, [.ref t1, .ref f1, .ref s1, .ref d1, .ref y1, .ref g1, .ref m1, .ref n1, .int 0, .long 0])), (n1, .inl (cyA G 0, 250, .inl (f_1)))] H ∧ va_D A [(h0, .inr (10, [.ref t1, .ref f1, .ref s1, .ref d1, .ref y1, .ref g1, .ref m1, .ref n1, .int 0, .long 0])), (n1, .inl (cyA G 0, 250, .inl (f_1)))] := ⟨_, hP, hD⟩
  refine lv_aload_n hx hb dX11_layLeaf_41 rfl (lv_at hl 0 rfl) ?_
  refine lv_dup hx hb dX11_layLeaf_42 rfl ?_
  refine va_get (D := DG G) (ci := 10) (v := .int 0) (C := RX11) (T := TX11) (N := 10) hx hb hts inW_X11 hown hK hP 0 rfl rfl 8 (by decide) (hts _ wm307) (fun _ h9 => h9) rfl dX11_layLeaf_43 ?_
  refine lv_iconst (v := 1) hx hb dX11_layLeaf_46 (by decide) ?_
  refine lv_iadd hx hb dX11_layLeaf_47 ?_
  refine lv_topi (fun z_2 ez_2 => ?_)
  obtain rfl : z_2 = 1 := ez_2.trans (by decide)
  refine va_put (D := DG G) (ci := 10) (v := .int 1) (ty := tyX11 8) (C := RX11) (T := TX11) (N := 10) hx hb hts inW_X11 tyX11 tyX11_ok nmX11 hown hK hP hD hS 0 rfl rfl 8 (by decide) (hts _ wm307) (fun _ h9 => h9) rfl (by decide +kernel) rfl rfl (Nat.le_of_ble_eq_true rfl) dX11_layLeaf_48 (fun H locs hP hD hS => ?_)
  have hP : va_P (DG G) clP1 [(h0, .inr (10, [.ref t1, .ref f1, .ref s1, .ref d1, .ref y1, .ref g1, .ref m1, .ref n1, .int 1, .long 0])), (n1, .inl (cyA G 0, 250, .inl (f_1)))] H := hP
  have hD : va_D A [(h0, .inr (10, [.ref t1, .ref f1, .ref s1, .ref d1, .ref y1, .ref g1, .ref m1, .ref n1, .int 1, .long 0])), (n1, .inl (cyA G 0, 250, .inl (f_1)))] := hD
  refine lv_aload_n hx hb dX11_layLeaf_51 rfl (lv_at hl 0 rfl) ?_
  refine va_get (D := DG G) (ci := 10) (v := .int 1) (C := RX11) (T := TX11) (N := 10) hx hb hts inW_X11 hown hK hP 0 rfl rfl 8 (by decide) (hts _ wm307) (fun _ h9 => h9) rfl dX11_layLeaf_52 ?_
  refine lv_iconst (v := 1) hx hb dX11_layLeaf_55 (by decide) ?_
  refine lv_isub hx hb dX11_layLeaf_56 ?_
  refine lv_topi (fun z_3 ez_3 => ?_)
  obtain rfl : z_3 = 0 := ez_3.trans (by decide)
  have hP9 := hP.sub (ws' := []) [] rfl
  have hD9 := hD.sub (ws' := []) [] (by decide) rfl
  refine W.widen (k := 0) (n := 0) (Nat.le_of_ble_eq_true rfl) (Nat.le_of_ble_eq_true rfl) ?_
  exact W.iret (v := 0) hx hb hr (fun t ht hW => ⟨⟨0, (), rfl, rfl, ⟨by rw [ht]; exact hP9, hD9⟩⟩, hS.F ht⟩) hS.2.2 dX11_layLeaf_57 hlocks
set_option maxHeartbeats 4000000 in
set_option maxRecDepth 100000 in
theorem k_X9_leaf_1 (l : Launch) (hfl : l.stackTraces = false) (G : GC) (t1 : Nat) (p1 : Int32) (ta0 : Nat) (ta1 : Nat) (ta2 : Nat) (ta3 : Nat) (ta4 : Nat) (ta5 : Nat) (ta6 : Nat) (ta7 : Nat) (ta8 : Nat) (tf0 : Nat → Int32) (tf1 : Nat → Int32) (tf2 : Nat → Int32) (tf3 : Nat → Int32) (tf4 : Nat → Int32) (tf5 : Nat → Int32) (tf6 : Nat → Int32) (tf7 : Nat → Int32) (sz : Nat) : Met l yX9_leaf (Cond.code yX9_leaf cX9_leaf 4 (some .int) :: W0) ({ frames := 0, cells := 0, slots := 0, locals := 0 }) (va_Pc [.ref t1, .int 1, .int p1] (WD G [(t1, .inr (8, [.ref ta0, .ref ta1, .ref ta2, .ref ta3, .ref ta4, .ref ta5, .ref ta6, .ref ta7, .ref ta8, .int 0])), (ta0, .inl (cyA G 0, 32768, .inl (tf0))), (ta1, .inl (cyA G 0, 32768, .inl (tf1))), (ta2, .inl (cyA G 0, 32768, .inl (tf2))), (ta3, .inl (cyA G 0, 32768, .inl (tf3))), (ta4, .inl (cyA G 0, 32768, .inl (tf4))), (ta5, .inl (cyA G 0, 32768, .inl (tf5))), (ta6, .inl (cyA G 0, 32768, .inl (tf6))), (ta7, .inl (cyA G 1, 32768, .inl (tf7)))] sz)) (va_Qi (fun (r : Int32) (_ : Unit) => r = 0) (fun _ t => PW G (va_A [(t1, .inr (8, [.ref ta0, .ref ta1, .ref ta2, .ref ta3, .ref ta4, .ref ta5, .ref ta6, .ref ta7, .ref ta8, .int 0])), (ta0, .inl (cyA G 0, 32768, .inl (tf0))), (ta1, .inl (cyA G 0, 32768, .inl (tf1))), (ta2, .inl (cyA G 0, 32768, .inl (tf2))), (ta3, .inl (cyA G 0, 32768, .inl (tf3))), (ta4, .inl (cyA G 0, 32768, .inl (tf4))), (ta5, .inl (cyA G 0, 32768, .inl (tf5))), (ta6, .inl (cyA G 0, 32768, .inl (tf6))), (ta7, .inl (cyA G 1, 32768, .inl (tf7)))] sz) [] t) (va_A [(t1, .inr (8, [.ref ta0, .ref ta1, .ref ta2, .ref ta3, .ref ta4, .ref ta5, .ref ta6, .ref ta7, .ref ta8, .int 0])), (ta0, .inl (cyA G 0, 32768, .inl (tf0))), (ta1, .inl (cyA G 0, 32768, .inl (tf1))), (ta2, .inl (cyA G 0, 32768, .inl (tf2))), (ta3, .inl (cyA G 0, 32768, .inl (tf3))), (ta4, .inl (cyA G 0, 32768, .inl (tf4))), (ta5, .inl (cyA G 0, 32768, .inl (tf5))), (ta6, .inl (cyA G 0, 32768, .inl (tf6))), (ta7, .inl (cyA G 1, 32768, .inl (tf7)))] sz)) 0 0 (va_A [(t1, .inr (8, [.ref ta0, .ref ta1, .ref ta2, .ref ta3, .ref ta4, .ref ta5, .ref ta6, .ref ta7, .ref ta8, .int 0])), (ta0, .inl (cyA G 0, 32768, .inl (tf0))), (ta1, .inl (cyA G 0, 32768, .inl (tf1))), (ta2, .inl (cyA G 0, 32768, .inl (tf2))), (ta3, .inl (cyA G 0, 32768, .inl (tf3))), (ta4, .inl (cyA G 0, 32768, .inl (tf4))), (ta5, .inl (cyA G 0, 32768, .inl (tf5))), (ta6, .inl (cyA G 0, 32768, .inl (tf6))), (ta7, .inl (cyA G 1, 32768, .inl (tf7)))] sz) := by
  refine Met.ofW (cc := cX9_leaf) (maxL := 4) (ret := (some .int)) (by decide) rfl ?_
  intro p e s m args below meth c s₁ B hml hv
  obtain ⟨rfl, hsz, hP, hK, hD0, hE⟩ := hv
  have hx := B.exec
  have hb := B.bytes
  have hr := B.returns
  have hts := w0_tail B.pre
  have hown : s.vm.findClass RX9 = some m.cls := findClass_of_methodNamed B.named
  have hlocks := B.notSynchronized
  subst hsz
  have hD := hD0.self (sz := s.heap.size)
  generalize hAe : va_A [(t1, .inr (8, [.ref ta0, .ref ta1, .ref ta2, .ref ta3, .ref ta4, .ref ta5, .ref ta6, .ref ta7, .ref ta8, .int 0])), (ta0, .inl (cyA G 0, 32768, .inl (tf0))), (ta1, .inl (cyA G 0, 32768, .inl (tf1))), (ta2, .inl (cyA G 0, 32768, .inl (tf2))), (ta3, .inl (cyA G 0, 32768, .inl (tf3))), (ta4, .inl (cyA G 0, 32768, .inl (tf4))), (ta5, .inl (cyA G 0, 32768, .inl (tf5))), (ta6, .inl (cyA G 0, 32768, .inl (tf6))), (ta7, .inl (cyA G 1, 32768, .inl (tf7)))] s.heap.size = A at hD hE ⊢
  have hA : ∀ q : Nat, s.heap.size ≤ q → A q := fun q h => by rw [← hAe]; exact Or.inr h
  have hS : va_S A s.heap s.heap [] := va_S.rf
  obtain ⟨H, hHe⟩ : ∃ H : Heap, H = s.heap := ⟨_, rfl⟩
  have hP : va_P (DG G) clP1 [(t1, .inr (8, [.ref ta0, .ref ta1, .ref ta2, .ref ta3, .ref ta4, .ref ta5, .ref ta6, .ref ta7, .ref ta8, .int 0])), (ta0, .inl (cyA G 0, 32768, .inl (tf0))), (ta1, .inl (cyA G 0, 32768, .inl (tf1))), (ta2, .inl (cyA G 0, 32768, .inl (tf2))), (ta3, .inl (cyA G 0, 32768, .inl (tf3))), (ta4, .inl (cyA G 0, 32768, .inl (tf4))), (ta5, .inl (cyA G 0, 32768, .inl (tf5))), (ta6, .inl (cyA G 0, 32768, .inl (tf6))), (ta7, .inl (cyA G 1, 32768, .inl (tf7)))] H := by rw [hHe]; exact hP
  have hS : va_S A s.heap H [] := by rw [hHe]; exact hS
  have hl := lv_entry ([.ref t1, .int 1, .int p1]) (n := 4) (Nat.le_of_ble_eq_true rfl)
  rw [lg_entry_eq, ← hHe]
  generalize (lg_sl ([.ref t1, .int 1, .int p1]) ++ List.replicate (4 - (lg_sl ([.ref t1, .int 1, .int p1])).length) Slot.unset).toArray = ls at hl ⊢
  have hl : lv_has ls 4 [(0, .ref t1), (1, .int 1), (2, .int p1)] := hl
  refine lv_iload_n hx hb dX9_leaf_0 rfl (lv_at hl 1 rfl) ?_
  refine lv_if_lt (tgt := 18) hx hb dX9_leaf_1 (by decide) (fun c => absurd c (by decide)) (fun _ => ?_)
  refine lv_iload_n hx hb dX9_leaf_4 rfl (lv_at hl 1 rfl) ?_
  refine lv_iconst (v := 4) hx hb dX9_leaf_5 (by decide) ?_
  refine lv_icmp_gt (tgt := 18) hx hb dX9_leaf_6 (by decide) (fun c => absurd c (by decide)) (fun _ => ?_)
  refine lv_aload_n hx hb dX9_leaf_9 rfl (lv_at hl 0 rfl) ?_
  refine va_get (D := DG G) (ci := 8) (v := .int 0) (C := RX9) (T := TX9) (N := 10) hx hb hts inW_X9 hown hK hP 0 rfl rfl 9 (by decide) (hts _ wm64) (fun _ h9 => h9) rfl dX9_leaf_10 ?_
  refine lv_ldc (v := 32768) hx hb hown (hts _ wm54) dX9_leaf_13 ?_
  refine lv_icmp_lt (tgt := 20) hx hb dX9_leaf_15 (by decide) (fun _ => ?_) (fun c => absurd (by decide) c)
  refine lv_aload_n hx hb dX9_leaf_20 rfl (lv_at hl 0 rfl) ?_
  refine va_get (D := DG G) (ci := 8) (v := .int 0) (C := RX9) (T := TX9) (N := 10) hx hb hts inW_X9 hown hK hP 0 rfl rfl 9 (by decide) (hts _ wm64) (fun _ h9 => h9) rfl dX9_leaf_21 ?_
  refine lv_istore_n (lv' := [(3, .int 0), (0, .ref t1), (1, .int 1), (2, .int p1)]) hx hb dX9_leaf_24 rfl hl (by decide) rfl (fun ls hl => ?_)
  refine lv_aload_n hx hb dX9_leaf_25 rfl (lv_at hl 1 rfl) ?_
  refine lv_dup hx hb dX9_leaf_26 rfl ?_
  refine va_get (D := DG G) (ci := 8) (v := .int 0) (C := RX9) (T := TX9) (N := 10) hx hb hts inW_X9 hown hK hP 0 rfl rfl 9 (by decide) (hts _ wm64) (fun _ h9 => h9) rfl dX9_leaf_27 ?_
  refine lv_iconst (v := 1) hx hb dX9_leaf_30 (by decide) ?_
  refine lv_iadd hx hb dX9_leaf_31 ?_
  refine lv_topi (fun z_1 ez_1 => ?_)
  obtain rfl : z_1 = 1 := ez_1.trans (by decide)
  refine va_put (D := DG G) (ci := 8) (v := .int 1) (ty := tyX9 9) (C := RX9) (T := TX9) (N := 10) hx hb hts inW_X9 tyX9 tyX9_ok nmX9 hown hK hP hD hS 0 rfl rfl 9 (by decide) (hts _ wm64) (fun _ h9 => h9) rfl (by decide +kernel) rfl rfl (Nat.le_of_ble_eq_true rfl) dX9_leaf_32 (fun H locs hP hD hS => ?_)
  have hP : va_P (DG G) clP1 [(t1, .inr (8, [.ref ta0, .ref ta1, .ref ta2, .ref ta3, .ref ta4, .ref ta5, .ref ta6, .ref ta7, .ref ta8, .int 1])), (ta0, .inl (cyA G 0, 32768, .inl (tf0))), (ta1, .inl (cyA G 0, 32768, .inl (tf1))), (ta2, .inl (cyA G 0, 32768, .inl (tf2))), (ta3, .inl (cyA G 0, 32768, .inl (tf3))), (ta4, .inl (cyA G 0, 32768, .inl (tf4))), (ta5, .inl (cyA G 0, 32768, .inl (tf5))), (ta6, .inl (cyA G 0, 32768, .inl (tf6))), (ta7, .inl (cyA G 1, 32768, .inl (tf7)))] H := hP
  have hD : va_D A [(t1, .inr (8, [.ref ta0, .ref ta1, .ref ta2, .ref ta3, .ref ta4, .ref ta5, .ref ta6, .ref ta7, .ref ta8, .int 1])), (ta0, .inl (cyA G 0, 32768, .inl (tf0))), (ta1, .inl (cyA G 0, 32768, .inl (tf1))), (ta2, .inl (cyA G 0, 32768, .inl (tf2))), (ta3, .inl (cyA G 0, 32768, .inl (tf3))), (ta4, .inl (cyA G 0, 32768, .inl (tf4))), (ta5, .inl (cyA G 0, 32768, .inl (tf5))), (ta6, .inl (cyA G 0, 32768, .inl (tf6))), (ta7, .inl (cyA G 1, 32768, .inl (tf7)))] := hD
  refine lv_aload_n hx hb dX9_leaf_35 rfl (lv_at hl 1 rfl) ?_
  refine va_get (D := DG G) (ci := 8) (v := .ref ta0) (C := RX9) (T := TX9) (N := 10) hx hb hts inW_X9 hown hK hP 0 rfl rfl 0 (by decide) (hts _ wm55) (fun _ h9 => h9) rfl dX9_leaf_36 ?_
  refine lv_iload_n hx hb dX9_leaf_39 rfl (lv_at hl 0 rfl) ?_
  refine lv_iload_n hx hb dX9_leaf_40 rfl (lv_at hl 2 rfl) ?_
  refine va_iast hx hb hK hP hD hS 1 0 rfl rfl (show ¬ ((0 : Int32) < 0 ∨ 32768 ≤ Int32.toNatClampNeg 0) from by decide) dX9_leaf_41 (fun H locs hP hD hS => ?_)
  obtain ⟨f_2, hP, hD⟩ : ∃ f_2 : Nat → Int32, va_P (DG G) clP1 [(t1, .inr (8, [.ref ta0, .ref ta1, .ref ta2, .ref ta3, .ref ta4, .ref ta5, .ref ta6, .ref ta7, .ref ta8, .int 1])), (ta0, .inl (cyA G 0, 32768, .inl (f_2))), (ta1, .inl (cyA G 0, 32768, .inl (tf1))), (ta2, .inl (cyA G 0, 32768, .inl (tf2))), (ta3, .inl (cyA G 0, 32768, .inl (tf3))), (ta4, .inl (cyA G 0, 32768, .inl (tf4))), (ta5, .inl (cyA G 0, 32768, .inl (tf5))), (ta6, .inl (cyA G 0, 32768, .inl (tf6))), (ta7, .inl (cyA G 1, 32768, .inl (tf7)))] H ∧ va_D A [(t1, .inr (8, [.ref ta0, .ref ta1, .ref ta2, .ref ta3, .ref ta4, .ref ta5, .ref ta6, .ref ta7, .ref ta8, .int 1])), (ta0, .inl (cyA G 0, 32768, .inl (f_2))), (ta1, .inl (cyA G 0, 32768, .inl (tf1))), (ta2, .inl (cyA G 0, 32768, .inl (tf2))), (ta3, .inl (cyA G 0, 32768, .inl (tf3))), (ta4, .inl (cyA G 0, 32768, .inl (tf4))), (ta5, .inl (cyA G 0, 32768, .inl (tf5))), (ta6, .inl (cyA G 0, 32768, .inl (tf6))), (ta7, .inl (cyA G 1, 32768, .inl (tf7)))] := ⟨_, hP, hD⟩
  refine lv_aload_n hx hb dX9_leaf_42 rfl (lv_at hl 1 rfl) ?_
  refine va_get (D := DG G) (ci := 8) (v := .ref ta1) (C := RX9) (T := TX9) (N := 10) hx hb hts inW_X9 hown hK hP 0 rfl rfl 1 (by decide) (hts _ wm56) (fun _ h9 => h9) rfl dX9_leaf_43 ?_
  refine lv_iload_n hx hb dX9_leaf_46 rfl (lv_at hl 0 rfl) ?_
  refine lv_iload_n hx hb dX9_leaf_47 rfl (lv_at hl 3 rfl) ?_
  refine va_iast hx hb hK hP hD hS 2 0 rfl rfl (show ¬ ((0 : Int32) < 0 ∨ 32768 ≤ Int32.toNatClampNeg 0) from by decide) dX9_leaf_48 (fun H locs hP hD hS => ?_)
  obtain ⟨f_3, hP, hD⟩ : ∃ f_3 : Nat → Int32, va_P (DG G) clP1 [(t1, .inr (8, [.ref ta0, .ref ta1, .ref ta2, .ref ta3, .ref ta4, .ref ta5, .ref ta6, .ref ta7, .ref ta8, .int 1])), (ta0, .inl (cyA G 0, 32768, .inl (f_2))), (ta1, .inl (cyA G 0, 32768, .inl (f_3))), (ta2, .inl (cyA G 0, 32768, .inl (tf2))), (ta3, .inl (cyA G 0, 32768, .inl (tf3))), (ta4, .inl (cyA G 0, 32768, .inl (tf4))), (ta5, .inl (cyA G 0, 32768, .inl (tf5))), (ta6, .inl (cyA G 0, 32768, .inl (tf6))), (ta7, .inl (cyA G 1, 32768, .inl (tf7)))] H ∧ va_D A [(t1, .inr (8, [.ref ta0, .ref ta1, .ref ta2, .ref ta3, .ref ta4, .ref ta5, .ref ta6, .ref ta7, .ref ta8, .int 1])), (ta0, .inl (cyA G 0, 32768, .inl (f_2))), (ta1, .inl (cyA G 0, 32768, .inl (f_3))), (ta2, .inl (cyA G 0, 32768, .inl (tf2))), (ta3, .inl (cyA G 0, 32768, .inl (tf3))), (ta4, .inl (cyA G 0, 32768, .inl (tf4))), (ta5, .inl (cyA G 0, 32768, .inl (tf5))), (ta6, .inl (cyA G 0, 32768, .inl (tf6))), (ta7, .inl (cyA G 1, 32768, .inl (tf7)))] := ⟨_, hP, hD⟩
  refine lv_aload_n hx hb dX9_leaf_49 rfl (lv_at hl 1 rfl) ?_
  refine va_get (D := DG G) (ci := 8) (v := .ref ta2) (C := RX9) (T := TX9) (N := 10) hx hb hts inW_X9 hown hK hP 0 rfl rfl 2 (by decide) (hts _ wm57) (fun _ h9 => h9) rfl dX9_leaf_50 ?_
  refine lv_iload_n hx hb dX9_leaf_53 rfl (lv_at hl 0 rfl) ?_
  refine lv_iconst (v := (-1)) hx hb dX9_leaf_54 (by decide) ?_
  refine va_iast hx hb hK hP hD hS 3 0 rfl rfl (show ¬ ((0 : Int32) < 0 ∨ 32768 ≤ Int32.toNatClampNeg 0) from by decide) dX9_leaf_55 (fun H locs hP hD hS => ?_)
  obtain ⟨f_4, hP, hD⟩ : ∃ f_4 : Nat → Int32, va_P (DG G) clP1 [(t1, .inr (8, [.ref ta0, .ref ta1, .ref ta2, .ref ta3, .ref ta4, .ref ta5, .ref ta6, .ref ta7, .ref ta8, .int 1])), (ta0, .inl (cyA G 0, 32768, .inl (f_2))), (ta1, .inl (cyA G 0, 32768, .inl (f_3))), (ta2, .inl (cyA G 0, 32768, .inl (f_4))), (ta3, .inl (cyA G 0, 32768, .inl (tf3))), (ta4, .inl (cyA G 0, 32768, .inl (tf4))), (ta5, .inl (cyA G 0, 32768, .inl (tf5))), (ta6, .inl (cyA G 0, 32768, .inl (tf6))), (ta7, .inl (cyA G 1, 32768, .inl (tf7)))] H ∧ va_D A [(t1, .inr (8, [.ref ta0, .ref ta1, .ref ta2, .ref ta3, .ref ta4, .ref ta5, .ref ta6, .ref ta7, .ref ta8, .int 1])), (ta0, .inl (cyA G 0, 32768, .inl (f_2))), (ta1, .inl (cyA G 0, 32768, .inl (f_3))), (ta2, .inl (cyA G 0, 32768, .inl (f_4))), (ta3, .inl (cyA G 0, 32768, .inl (tf3))), (ta4, .inl (cyA G 0, 32768, .inl (tf4))), (ta5, .inl (cyA G 0, 32768, .inl (tf5))), (ta6, .inl (cyA G 0, 32768, .inl (tf6))), (ta7, .inl (cyA G 1, 32768, .inl (tf7)))] := ⟨_, hP, hD⟩
  refine lv_aload_n hx hb dX9_leaf_56 rfl (lv_at hl 1 rfl) ?_
  refine va_get (D := DG G) (ci := 8) (v := .ref ta3) (C := RX9) (T := TX9) (N := 10) hx hb hts inW_X9 hown hK hP 0 rfl rfl 3 (by decide) (hts _ wm58) (fun _ h9 => h9) rfl dX9_leaf_57 ?_
  refine lv_iload_n hx hb dX9_leaf_60 rfl (lv_at hl 0 rfl) ?_
  refine lv_iconst (v := 1) hx hb dX9_leaf_61 (by decide) ?_
  refine va_iast hx hb hK hP hD hS 4 0 rfl rfl (show ¬ ((0 : Int32) < 0 ∨ 32768 ≤ Int32.toNatClampNeg 0) from by decide) dX9_leaf_62 (fun H locs hP hD hS => ?_)
  obtain ⟨f_5, hP, hD⟩ : ∃ f_5 : Nat → Int32, va_P (DG G) clP1 [(t1, .inr (8, [.ref ta0, .ref ta1, .ref ta2, .ref ta3, .ref ta4, .ref ta5, .ref ta6, .ref ta7, .ref ta8, .int 1])), (ta0, .inl (cyA G 0, 32768, .inl (f_2))), (ta1, .inl (cyA G 0, 32768, .inl (f_3))), (ta2, .inl (cyA G 0, 32768, .inl (f_4))), (ta3, .inl (cyA G 0, 32768, .inl (f_5))), (ta4, .inl (cyA G 0, 32768, .inl (tf4))), (ta5, .inl (cyA G 0, 32768, .inl (tf5))), (ta6, .inl (cyA G 0, 32768, .inl (tf6))), (ta7, .inl (cyA G 1, 32768, .inl (tf7)))] H ∧ va_D A [(t1, .inr (8, [.ref ta0, .ref ta1, .ref ta2, .ref ta3, .ref ta4, .ref ta5, .ref ta6, .ref ta7, .ref ta8, .int 1])), (ta0, .inl (cyA G 0, 32768, .inl (f_2))), (ta1, .inl (cyA G 0, 32768, .inl (f_3))), (ta2, .inl (cyA G 0, 32768, .inl (f_4))), (ta3, .inl (cyA G 0, 32768, .inl (f_5))), (ta4, .inl (cyA G 0, 32768, .inl (tf4))), (ta5, .inl (cyA G 0, 32768, .inl (tf5))), (ta6, .inl (cyA G 0, 32768, .inl (tf6))), (ta7, .inl (cyA G 1, 32768, .inl (tf7)))] := ⟨_, hP, hD⟩
  refine lv_aload_n hx hb dX9_leaf_63 rfl (lv_at hl 1 rfl) ?_
  refine va_get (D := DG G) (ci := 8) (v := .ref ta4) (C := RX9) (T := TX9) (N := 10) hx hb hts inW_X9 hown hK hP 0 rfl rfl 4 (by decide) (hts _ wm59) (fun _ h9 => h9) rfl dX9_leaf_64 ?_
  refine lv_iload_n hx hb dX9_leaf_67 rfl (lv_at hl 0 rfl) ?_
  obtain ⟨nl, gl, hZl, hTl⟩ := EV.leaf hE
  refine va_getsN (v := .ref nl) hx hb hZl hS hown (va_Nw.use rfl (hE.1 _ nw373)) (fun _ h9 => h9) dX9_leaf_68 ?_
  refine lv_iload_n hx hb dX9_leaf_71 rfl (lv_at hl 2 rfl) ?_
  refine va_ti (v := .int (gl (Int32.toNatClampNeg 1))) hx hb hTl hS (show ¬ ((1 : Int32) < 0 ∨ 5 ≤ Int32.toNatClampNeg 1) from by decide) rfl dX9_leaf_72 ?_
  refine lv_topi (fun z_6 _ => ?_)
  refine lv_iload_n hx hb dX9_leaf_73 rfl (lv_at hl 3 rfl) ?_
  refine lv_iadd hx hb dX9_leaf_74 ?_
  refine lv_topi (fun z_7 ez_7 => ?_)
  refine va_iast hx hb hK hP hD hS 5 0 rfl rfl (show ¬ ((0 : Int32) < 0 ∨ 32768 ≤ Int32.toNatClampNeg 0) from by decide) dX9_leaf_75 (fun H locs hP hD hS => ?_)
  obtain ⟨f_8, hP, hD⟩ : ∃ f_8 : Nat → Int32, va_P (DG G) clP1 [(t1, .inr (8, [.ref ta0, .ref ta1, .ref ta2, .ref ta3, .ref ta4, .ref ta5, .ref ta6, .ref ta7, .ref ta8, .int 1])), (ta0, .inl (cyA G 0, 32768, .inl (f_2))), (ta1, .inl (cyA G 0, 32768, .inl (f_3))), (ta2, .inl (cyA G 0, 32768, .inl (f_4))), (ta3, .inl (cyA G 0, 32768, .inl (f_5))), (ta4, .inl (cyA G 0, 32768, .inl (f_8))), (ta5, .inl (cyA G 0, 32768, .inl (tf5))), (ta6, .inl (cyA G 0, 32768, .inl (tf6))), (ta7, .inl (cyA G 1, 32768, .inl (tf7)))] H ∧ va_D A [(t1, .inr (8, [.ref ta0, .ref ta1, .ref ta2, .ref ta3, .ref ta4, .ref ta5, .ref ta6, .ref ta7, .ref ta8, .int 1])), (ta0, .inl (cyA G 0, 32768, .inl (f_2))), (ta1, .inl (cyA G 0, 32768, .inl (f_3))), (ta2, .inl (cyA G 0, 32768, .inl (f_4))), (ta3, .inl (cyA G 0, 32768, .inl (f_5))), (ta4, .inl (cyA G 0, 32768, .inl (f_8))), (ta5, .inl (cyA G 0, 32768, .inl (tf5))), (ta6, .inl (cyA G 0, 32768, .inl (tf6))), (ta7, .inl (cyA G 1, 32768, .inl (tf7)))] := ⟨_, hP, hD⟩
  refine lv_aload_n hx hb dX9_leaf_76 rfl (lv_at hl 1 rfl) ?_
  refine va_get (D := DG G) (ci := 8) (v := .ref ta5) (C := RX9) (T := TX9) (N := 10) hx hb hts inW_X9 hown hK hP 0 rfl rfl 5 (by decide) (hts _ wm60) (fun _ h9 => h9) rfl dX9_leaf_77 ?_
  refine lv_iload_n hx hb dX9_leaf_80 rfl (lv_at hl 0 rfl) ?_
  refine lv_iload_n hx hb dX9_leaf_81 rfl (lv_at hl 2 rfl) ?_
  refine lv_iconst (v := 1) hx hb dX9_leaf_82 (by decide) ?_
  refine lv_icmp_ne (tgt := 92) hx hb dX9_leaf_83 (by decide) (fun c => absurd (by decide) c) (fun _ => ?_)
  refine lv_iload_n hx hb dX9_leaf_86 rfl (lv_at hl 3 rfl) ?_
  refine lv_iconst (v := 1) hx hb dX9_leaf_87 (by decide) ?_
  refine lv_iadd hx hb dX9_leaf_88 ?_
  refine lv_topi (fun z_9 ez_9 => ?_)
  refine lv_goto (tgt := 93) hx hb dX9_leaf_89 (by decide) ?_
  refine va_iast hx hb hK hP hD hS 6 0 rfl rfl (show ¬ ((0 : Int32) < 0 ∨ 32768 ≤ Int32.toNatClampNeg 0) from by decide) dX9_leaf_93 (fun H locs hP hD hS => ?_)
  obtain ⟨f_10, hP, hD⟩ : ∃ f_10 : Nat → Int32, va_P (DG G) clP1 [(t1, .inr (8, [.ref ta0, .ref ta1, .ref ta2, .ref ta3, .ref ta4, .ref ta5, .ref ta6, .ref ta7, .ref ta8, .int 1])), (ta0, .inl (cyA G 0, 32768, .inl (f_2))), (ta1, .inl (cyA G 0, 32768, .inl (f_3))), (ta2, .inl (cyA G 0, 32768, .inl (f_4))), (ta3, .inl (cyA G 0, 32768, .inl (f_5))), (ta4, .inl (cyA G 0, 32768, .inl (f_8))), (ta5, .inl (cyA G 0, 32768, .inl (f_10))), (ta6, .inl (cyA G 0, 32768, .inl (tf6))), (ta7, .inl (cyA G 1, 32768, .inl (tf7)))] H ∧ va_D A [(t1, .inr (8, [.ref ta0, .ref ta1, .ref ta2, .ref ta3, .ref ta4, .ref ta5, .ref ta6, .ref ta7, .ref ta8, .int 1])), (ta0, .inl (cyA G 0, 32768, .inl (f_2))), (ta1, .inl (cyA G 0, 32768, .inl (f_3))), (ta2, .inl (cyA G 0, 32768, .inl (f_4))), (ta3, .inl (cyA G 0, 32768, .inl (f_5))), (ta4, .inl (cyA G 0, 32768, .inl (f_8))), (ta5, .inl (cyA G 0, 32768, .inl (f_10))), (ta6, .inl (cyA G 0, 32768, .inl (tf6))), (ta7, .inl (cyA G 1, 32768, .inl (tf7)))] := ⟨_, hP, hD⟩
  refine lv_aload_n hx hb dX9_leaf_94 rfl (lv_at hl 1 rfl) ?_
  refine va_get (D := DG G) (ci := 8) (v := .ref ta6) (C := RX9) (T := TX9) (N := 10) hx hb hts inW_X9 hown hK hP 0 rfl rfl 6 (by decide) (hts _ wm61) (fun _ h9 => h9) rfl dX9_leaf_95 ?_
  refine lv_iload_n hx hb dX9_leaf_98 rfl (lv_at hl 0 rfl) ?_
  refine lv_iload_n hx hb dX9_leaf_99 rfl (lv_at hl 2 rfl) ?_
  refine lv_iconst (v := 4) hx hb dX9_leaf_100 (by decide) ?_
  refine lv_icmp_ne (tgt := 110) hx hb dX9_leaf_101 (by decide) (fun _ => ?_) (fun c => absurd c (by decide))
  refine lv_iconst (v := 0) hx hb dX9_leaf_110 (by decide) ?_
  refine va_iast hx hb hK hP hD hS 7 0 rfl rfl (show ¬ ((0 : Int32) < 0 ∨ 32768 ≤ Int32.toNatClampNeg 0) from by decide) dX9_leaf_111 (fun H locs hP hD hS => ?_)
  obtain ⟨f_11, hP, hD⟩ : ∃ f_11 : Nat → Int32, va_P (DG G) clP1 [(t1, .inr (8, [.ref ta0, .ref ta1, .ref ta2, .ref ta3, .ref ta4, .ref ta5, .ref ta6, .ref ta7, .ref ta8, .int 1])), (ta0, .inl (cyA G 0, 32768, .inl (f_2))), (ta1, .inl (cyA G 0, 32768, .inl (f_3))), (ta2, .inl (cyA G 0, 32768, .inl (f_4))), (ta3, .inl (cyA G 0, 32768, .inl (f_5))), (ta4, .inl (cyA G 0, 32768, .inl (f_8))), (ta5, .inl (cyA G 0, 32768, .inl (f_10))), (ta6, .inl (cyA G 0, 32768, .inl (f_11))), (ta7, .inl (cyA G 1, 32768, .inl (tf7)))] H ∧ va_D A [(t1, .inr (8, [.ref ta0, .ref ta1, .ref ta2, .ref ta3, .ref ta4, .ref ta5, .ref ta6, .ref ta7, .ref ta8, .int 1])), (ta0, .inl (cyA G 0, 32768, .inl (f_2))), (ta1, .inl (cyA G 0, 32768, .inl (f_3))), (ta2, .inl (cyA G 0, 32768, .inl (f_4))), (ta3, .inl (cyA G 0, 32768, .inl (f_5))), (ta4, .inl (cyA G 0, 32768, .inl (f_8))), (ta5, .inl (cyA G 0, 32768, .inl (f_10))), (ta6, .inl (cyA G 0, 32768, .inl (f_11))), (ta7, .inl (cyA G 1, 32768, .inl (tf7)))] := ⟨_, hP, hD⟩
  refine lv_aload_n hx hb dX9_leaf_112 rfl (lv_at hl 1 rfl) ?_
  refine va_get (D := DG G) (ci := 8) (v := .ref ta7) (C := RX9) (T := TX9) (N := 10) hx hb hts inW_X9 hown hK hP 0 rfl rfl 7 (by decide) (hts _ wm62) (fun _ h9 => h9) rfl dX9_leaf_113 ?_
  refine lv_iload_n hx hb dX9_leaf_116 rfl (lv_at hl 0 rfl) ?_
  refine lv_iconst (v := 0) hx hb dX9_leaf_117 (by decide) ?_
  refine va_zast hx hb hK hP hD hS 8 1 rfl rfl (show ¬ ((0 : Int32) < 0 ∨ 32768 ≤ Int32.toNatClampNeg 0) from by decide) dX9_leaf_118 (fun H locs hP hD hS => ?_)
  obtain ⟨f_12, hP, hD⟩ : ∃ f_12 : Nat → Int32, va_P (DG G) clP1 [(t1, .inr (8, [.ref ta0, .ref ta1, .ref ta2, .ref ta3, .ref ta4, .ref ta5, .ref ta6, .ref ta7, .ref ta8, .int 1])), (ta0, .inl (cyA G 0, 32768, .inl (f_2))), (ta1, .inl (cyA G 0, 32768, .inl (f_3))), (ta2, .inl (cyA G 0, 32768, .inl (f_4))), (ta3, .inl (cyA G 0, 32768, .inl (f_5))), (ta4, .inl (cyA G 0, 32768, .inl (f_8))), (ta5, .inl (cyA G 0, 32768, .inl (f_10))), (ta6, .inl (cyA G 0, 32768, .inl (f_11))), (ta7, .inl (cyA G 1, 32768, .inl (f_12)))] H ∧ va_D A [(t1, .inr (8, [.ref ta0, .ref ta1, .ref ta2, .ref ta3, .ref ta4, .ref ta5, .ref ta6, .ref ta7, .ref ta8, .int 1])), (ta0, .inl (cyA G 0, 32768, .inl (f_2))), (ta1, .inl (cyA G 0, 32768, .inl (f_3))), (ta2, .inl (cyA G 0, 32768, .inl (f_4))), (ta3, .inl (cyA G 0, 32768, .inl (f_5))), (ta4, .inl (cyA G 0, 32768, .inl (f_8))), (ta5, .inl (cyA G 0, 32768, .inl (f_10))), (ta6, .inl (cyA G 0, 32768, .inl (f_11))), (ta7, .inl (cyA G 1, 32768, .inl (f_12)))] := ⟨_, hP, hD⟩
  refine lv_iload_n hx hb dX9_leaf_119 rfl (lv_at hl 0 rfl) ?_
  have hP9 := hP.sub (ws' := []) [] rfl
  have hD9 := hD.sub (ws' := []) [] (by decide) rfl
  refine W.widen (k := 0) (n := 0) (Nat.le_of_ble_eq_true rfl) (Nat.le_of_ble_eq_true rfl) ?_
  exact W.iret (v := 0) hx hb hr (fun t ht hW => ⟨⟨0, (), rfl, rfl, ⟨by rw [ht]; exact hP9, hD9⟩⟩, hS.F ht⟩) hS.2.2 dX9_leaf_120 hlocks
set_option maxHeartbeats 4000000 in
set_option maxRecDepth 100000 in
theorem k_X11_layLeaf_1 (l : Launch) (hfl : l.stackTraces = false) (G : GC) (h0 : Nat) (p1 : Int32) (t1 : Nat) (f1 : Nat) (s1 : Nat) (d1 : Nat) (y1 : Nat) (g1 : Nat) (m1 : Nat) (n1 : Nat) (ta0 : Nat) (ta1 : Nat) (ta2 : Nat) (ta3 : Nat) (ta4 : Nat) (ta5 : Nat) (ta6 : Nat) (ta7 : Nat) (ta8 : Nat) (tf0 : Nat → Int32) (tf1 : Nat → Int32) (tf2 : Nat → Int32) (tf3 : Nat → Int32) (tf4 : Nat → Int32) (tf5 : Nat → Int32) (tf6 : Nat → Int32) (tf7 : Nat → Int32) (nf : Nat → Int32) (sz : Nat) : Met l yX11_layLeaf (Cond.code yX11_layLeaf cX11_layLeaf 3 (some .int) :: W0) ({ frames := 1, cells := 0, slots := 0, locals := 23 }) (va_Pc [.ref h0, .int 1, .int p1] (WD G [(h0, .inr (10, [.ref t1, .ref f1, .ref s1, .ref d1, .ref y1, .ref g1, .ref m1, .ref n1, .int 0, .long 0])), (t1, .inr (8, [.ref ta0, .ref ta1, .ref ta2, .ref ta3, .ref ta4, .ref ta5, .ref ta6, .ref ta7, .ref ta8, .int 0])), (ta0, .inl (cyA G 0, 32768, .inl (tf0))), (ta1, .inl (cyA G 0, 32768, .inl (tf1))), (ta2, .inl (cyA G 0, 32768, .inl (tf2))), (ta3, .inl (cyA G 0, 32768, .inl (tf3))), (ta4, .inl (cyA G 0, 32768, .inl (tf4))), (ta5, .inl (cyA G 0, 32768, .inl (tf5))), (ta6, .inl (cyA G 0, 32768, .inl (tf6))), (ta7, .inl (cyA G 1, 32768, .inl (tf7))), (n1, .inl (cyA G 0, 250, .inl (nf)))] sz)) (va_Qi (fun (r : Int32) (_ : Unit) => r = 0) (fun _ t => PW G (va_A [(h0, .inr (10, [.ref t1, .ref f1, .ref s1, .ref d1, .ref y1, .ref g1, .ref m1, .ref n1, .int 0, .long 0])), (t1, .inr (8, [.ref ta0, .ref ta1, .ref ta2, .ref ta3, .ref ta4, .ref ta5, .ref ta6, .ref ta7, .ref ta8, .int 0])), (ta0, .inl (cyA G 0, 32768, .inl (tf0))), (ta1, .inl (cyA G 0, 32768, .inl (tf1))), (ta2, .inl (cyA G 0, 32768, .inl (tf2))), (ta3, .inl (cyA G 0, 32768, .inl (tf3))), (ta4, .inl (cyA G 0, 32768, .inl (tf4))), (ta5, .inl (cyA G 0, 32768, .inl (tf5))), (ta6, .inl (cyA G 0, 32768, .inl (tf6))), (ta7, .inl (cyA G 1, 32768, .inl (tf7))), (n1, .inl (cyA G 0, 250, .inl (nf)))] sz) [] t) (va_A [(h0, .inr (10, [.ref t1, .ref f1, .ref s1, .ref d1, .ref y1, .ref g1, .ref m1, .ref n1, .int 0, .long 0])), (t1, .inr (8, [.ref ta0, .ref ta1, .ref ta2, .ref ta3, .ref ta4, .ref ta5, .ref ta6, .ref ta7, .ref ta8, .int 0])), (ta0, .inl (cyA G 0, 32768, .inl (tf0))), (ta1, .inl (cyA G 0, 32768, .inl (tf1))), (ta2, .inl (cyA G 0, 32768, .inl (tf2))), (ta3, .inl (cyA G 0, 32768, .inl (tf3))), (ta4, .inl (cyA G 0, 32768, .inl (tf4))), (ta5, .inl (cyA G 0, 32768, .inl (tf5))), (ta6, .inl (cyA G 0, 32768, .inl (tf6))), (ta7, .inl (cyA G 1, 32768, .inl (tf7))), (n1, .inl (cyA G 0, 250, .inl (nf)))] sz)) 0 0 (va_A [(h0, .inr (10, [.ref t1, .ref f1, .ref s1, .ref d1, .ref y1, .ref g1, .ref m1, .ref n1, .int 0, .long 0])), (t1, .inr (8, [.ref ta0, .ref ta1, .ref ta2, .ref ta3, .ref ta4, .ref ta5, .ref ta6, .ref ta7, .ref ta8, .int 0])), (ta0, .inl (cyA G 0, 32768, .inl (tf0))), (ta1, .inl (cyA G 0, 32768, .inl (tf1))), (ta2, .inl (cyA G 0, 32768, .inl (tf2))), (ta3, .inl (cyA G 0, 32768, .inl (tf3))), (ta4, .inl (cyA G 0, 32768, .inl (tf4))), (ta5, .inl (cyA G 0, 32768, .inl (tf5))), (ta6, .inl (cyA G 0, 32768, .inl (tf6))), (ta7, .inl (cyA G 1, 32768, .inl (tf7))), (n1, .inl (cyA G 0, 250, .inl (nf)))] sz) := by
  refine Met.ofW (cc := cX11_layLeaf) (maxL := 3) (ret := (some .int)) (by decide) rfl ?_
  intro p e s m args below meth c s₁ B hml hv
  obtain ⟨rfl, hsz, hP, hK, hD0, hE⟩ := hv
  have hx := B.exec
  have hb := B.bytes
  have hr := B.returns
  have hts := w0_tail B.pre
  have hown : s.vm.findClass RX11 = some m.cls := findClass_of_methodNamed B.named
  have hlocks := B.notSynchronized
  subst hsz
  have hD := hD0.self (sz := s.heap.size)
  generalize hAe : va_A [(h0, .inr (10, [.ref t1, .ref f1, .ref s1, .ref d1, .ref y1, .ref g1, .ref m1, .ref n1, .int 0, .long 0])), (t1, .inr (8, [.ref ta0, .ref ta1, .ref ta2, .ref ta3, .ref ta4, .ref ta5, .ref ta6, .ref ta7, .ref ta8, .int 0])), (ta0, .inl (cyA G 0, 32768, .inl (tf0))), (ta1, .inl (cyA G 0, 32768, .inl (tf1))), (ta2, .inl (cyA G 0, 32768, .inl (tf2))), (ta3, .inl (cyA G 0, 32768, .inl (tf3))), (ta4, .inl (cyA G 0, 32768, .inl (tf4))), (ta5, .inl (cyA G 0, 32768, .inl (tf5))), (ta6, .inl (cyA G 0, 32768, .inl (tf6))), (ta7, .inl (cyA G 1, 32768, .inl (tf7))), (n1, .inl (cyA G 0, 250, .inl (nf)))] s.heap.size = A at hD hE ⊢
  have hA : ∀ q : Nat, s.heap.size ≤ q → A q := fun q h => by rw [← hAe]; exact Or.inr h
  have hS : va_S A s.heap s.heap [] := va_S.rf
  obtain ⟨H, hHe⟩ : ∃ H : Heap, H = s.heap := ⟨_, rfl⟩
  have hP : va_P (DG G) clP1 [(h0, .inr (10, [.ref t1, .ref f1, .ref s1, .ref d1, .ref y1, .ref g1, .ref m1, .ref n1, .int 0, .long 0])), (t1, .inr (8, [.ref ta0, .ref ta1, .ref ta2, .ref ta3, .ref ta4, .ref ta5, .ref ta6, .ref ta7, .ref ta8, .int 0])), (ta0, .inl (cyA G 0, 32768, .inl (tf0))), (ta1, .inl (cyA G 0, 32768, .inl (tf1))), (ta2, .inl (cyA G 0, 32768, .inl (tf2))), (ta3, .inl (cyA G 0, 32768, .inl (tf3))), (ta4, .inl (cyA G 0, 32768, .inl (tf4))), (ta5, .inl (cyA G 0, 32768, .inl (tf5))), (ta6, .inl (cyA G 0, 32768, .inl (tf6))), (ta7, .inl (cyA G 1, 32768, .inl (tf7))), (n1, .inl (cyA G 0, 250, .inl (nf)))] H := by rw [hHe]; exact hP
  have hS : va_S A s.heap H [] := by rw [hHe]; exact hS
  have hl := lv_entry ([.ref h0, .int 1, .int p1]) (n := 3) (Nat.le_of_ble_eq_true rfl)
  rw [lg_entry_eq, ← hHe]
  generalize (lg_sl ([.ref h0, .int 1, .int p1]) ++ List.replicate (3 - (lg_sl ([.ref h0, .int 1, .int p1])).length) Slot.unset).toArray = ls at hl ⊢
  have hl : lv_has ls 3 [(0, .ref h0), (1, .int 1), (2, .int p1)] := hl
  refine lv_aload_n hx hb dX11_layLeaf_0 rfl (lv_at hl 0 rfl) ?_
  refine va_get (D := DG G) (ci := 10) (v := .int 0) (C := RX11) (T := TX11) (N := 10) hx hb hts inW_X11 hown hK hP 0 rfl rfl 8 (by decide) (hts _ wm307) (fun _ h9 => h9) rfl dX11_layLeaf_1 ?_
  refine lv_aload_n hx hb dX11_layLeaf_4 rfl (lv_at hl 0 rfl) ?_
  refine va_get (D := DG G) (ci := 10) (v := .ref n1) (C := RX11) (T := TX11) (N := 10) hx hb hts inW_X11 hown hK hP 0 rfl rfl 7 (by decide) (hts _ wm306) (fun _ h9 => h9) rfl dX11_layLeaf_5 ?_
  refine va_alen (v := 250) hx hb hK hP 10 0 rfl rfl (show Int32.ofNat 250 = 250 from by decide) dX11_layLeaf_8 ?_
  refine lv_icmp_lt (tgt := 23) hx hb dX11_layLeaf_9 (by decide) (fun _ => ?_) (fun c => absurd (by decide) c)
  refine lv_aload_n hx hb dX11_layLeaf_23 rfl (lv_at hl 0 rfl) ?_
  refine va_get (D := DG G) (ci := 10) (v := .ref n1) (C := RX11) (T := TX11) (N := 10) hx hb hts inW_X11 hown hK hP 0 rfl rfl 7 (by decide) (hts _ wm306) (fun _ h9 => h9) rfl dX11_layLeaf_24 ?_
  refine lv_aload_n hx hb dX11_layLeaf_27 rfl (lv_at hl 0 rfl) ?_
  refine va_get (D := DG G) (ci := 10) (v := .int 0) (C := RX11) (T := TX11) (N := 10) hx hb hts inW_X11 hown hK hP 0 rfl rfl 8 (by decide) (hts _ wm307) (fun _ h9 => h9) rfl dX11_layLeaf_28 ?_
  refine lv_aload_n hx hb dX11_layLeaf_31 rfl (lv_at hl 0 rfl) ?_
  refine va_get (D := DG G) (ci := 10) (v := .ref t1) (C := RX11) (T := TX11) (N := 10) hx hb hts inW_X11 hown hK hP 0 rfl rfl 0 (by decide) (hts _ wm299) (fun _ h9 => h9) rfl dX11_layLeaf_32 ?_
  refine lv_iload_n hx hb dX11_layLeaf_35 rfl (lv_at hl 1 rfl) ?_
  refine lv_iload_n hx hb dX11_layLeaf_36 rfl (lv_at hl 2 rfl) ?_
  have hFc := va_free (wc := [(t1, .inr (8, [.ref ta0, .ref ta1, .ref ta2, .ref ta3, .ref ta4, .ref ta5, .ref ta6, .ref ta7, .ref ta8, .int 0])), (ta0, .inl (cyA G 0, 32768, .inl (tf0))), (ta1, .inl (cyA G 0, 32768, .inl (tf1))), (ta2, .inl (cyA G 0, 32768, .inl (tf2))), (ta3, .inl (cyA G 0, 32768, .inl (tf3))), (ta4, .inl (cyA G 0, 32768, .inl (tf4))), (ta5, .inl (cyA G 0, 32768, .inl (tf5))), (ta6, .inl (cyA G 0, 32768, .inl (tf6))), (ta7, .inl (cyA G 1, 32768, .inl (tf7)))]) hD hS hA [1, 2, 3, 4, 5, 6, 7, 8, 9] rfl
  refine va_calli (va_runV (As := [.int 1, .int p1]) (rest := [.int 0, .ref n1]) ⟨hx, hb, hml, hown, hts⟩ (k_X9_leaf_1 l hfl G t1 p1 ta0 ta1 ta2 ta3 ta4 ta5 ta6 ta7 ta8 tf0 tf1 tf2 tf3 tf4 tf5 tf6 tf7 H.size) (cwV 2 hts (gV wm626 wm370 wm371 wm2 wm372) rfl rfl rfl (by decide +kernel) ⟨Nat.le_of_ble_eq_true rfl, Nat.le_of_ble_eq_true rfl⟩) (pre_v (pre_s hK hP hD hS hE [1, 2, 3, 4, 5, 6, 7, 8, 9] rfl rfl (by decide) hFc) (va_recv hK hP (ci := 8) (q0 := 1) rfl rfl)) rfl rfl hl.1 rfl (lv_room (Nat.le_of_ble_eq_true rfl)) dX11_layLeaf_37 ⟨Nat.le_of_ble_eq_true rfl, Nat.le_of_ble_eq_true rfl⟩) hS (fun q _ h => hFc q h) hFc (fun r u t H locs ht hvm hw hB hz1 hk1 hS => ?_)
  obtain rfl : r = 0 := hw
  obtain ⟨hP1, hD1⟩ := hB
  rw [ht] at hP1
  obtain ⟨hP, hD⟩ := va_join (wr := [(h0, .inr (10, [.ref t1, .ref f1, .ref s1, .ref d1, .ref y1, .ref g1, .ref m1, .ref n1, .int 0, .long 0])), (n1, .inl (cyA G 0, 250, .inl (nf)))]) (w1 := []) hP hD [1, 2, 3, 4, 5, 6, 7, 8, 9] [0, 10] rfl rfl (by decide) (by decide) hk1 hFc hP1 hD1
  have hP : va_P (DG G) clP1 [(h0, .inr (10, [.ref t1, .ref f1, .ref s1, .ref d1, .ref y1, .ref g1, .ref m1, .ref n1, .int 0, .long 0])), (n1, .inl (cyA G 0, 250, .inl (nf)))] H := hP
  have hD : va_D A [(h0, .inr (10, [.ref t1, .ref f1, .ref s1, .ref d1, .ref y1, .ref g1, .ref m1, .ref n1, .int 0, .long 0])), (n1, .inl (cyA G 0, 250, .inl (nf)))] := hD
  refine W.widen (k := 0) (n := 0) (Nat.le_of_ble_eq_true rfl) (Nat.le_of_ble_eq_true rfl) ?_
  refine va_iast hx hb hK hP hD hS 1 0 rfl rfl (show ¬ ((0 : Int32) < 0 ∨ 250 ≤ Int32.toNatClampNeg 0) from by decide) dX11_layLeaf_40 (fun H locs hP hD hS => ?_)
  obtain ⟨f_1, hP, hD⟩ : ∃ f_1 : Nat → Int32, va_P (DG G) clP1 [(h0, .inr (10, [.ref t1, .ref f1, .ref s1, .ref d1, .ref y1, .ref g1, .ref m1, .ref n1, .int 0, .long 0])), (n1, .inl (cyA G 0, 250, .inl (f_1)))] H ∧ va_D A [(h0, .inr (10, [.ref t1, .ref f1, .ref s1, .ref d1, .ref y1, .ref g1, .ref m1, .ref n1, .int 0, .long 0])), (n1, .inl (cyA G 0, 250, .inl (f_1)))] := ⟨_, hP, hD⟩
  refine lv_aload_n hx hb dX11_layLeaf_41 rfl (lv_at hl 0 rfl) ?_
  refine lv_dup hx hb dX11_layLeaf_42 rfl ?_
  refine va_get (D := DG G) (ci := 10) (v := .int 0) (C := RX11) (T := TX11) (N := 10) hx hb hts inW_X11 hown hK hP 0 rfl rfl 8 (by decide) (hts _ wm307) (fun _ h9 => h9) rfl dX11_layLeaf_43 ?_
  refine lv_iconst (v := 1) hx hb dX11_layLeaf_46 (by decide) ?_
  refine lv_iadd hx hb dX11_layLeaf_47 ?_
  refine lv_topi (fun z_2 ez_2 => ?_)
  obtain rfl : z_2 = 1 := ez_2.trans (by decide)
  refine va_put (D := DG G) (ci := 10) (v := .int 1) (ty := tyX11 8) (C := RX11) (T := TX11) (N := 10) hx hb hts inW_X11 tyX11 tyX11_ok nmX11 hown hK hP hD hS 0 rfl rfl 8 (by decide) (hts _ wm307) (fun _ h9 => h9) rfl (by decide +kernel) rfl rfl (Nat.le_of_ble_eq_true rfl) dX11_layLeaf_48 (fun H locs hP hD hS => ?_)
  have hP : va_P (DG G) clP1 [(h0, .inr (10, [.ref t1, .ref f1, .ref s1, .ref d1, .ref y1, .ref g1, .ref m1, .ref n1, .int 1, .long 0])), (n1, .inl (cyA G 0, 250, .inl (f_1)))] H := hP
  have hD : va_D A [(h0, .inr (10, [.ref t1, .ref f1, .ref s1, .ref d1, .ref y1, .ref g1, .ref m1, .ref n1, .int 1, .long 0])), (n1, .inl (cyA G 0, 250, .inl (f_1)))] := hD
  refine lv_aload_n hx hb dX11_layLeaf_51 rfl (lv_at hl 0 rfl) ?_
  refine va_get (D := DG G) (ci := 10) (v := .int 1) (C := RX11) (T := TX11) (N := 10) hx hb hts inW_X11 hown hK hP 0 rfl rfl 8 (by decide) (hts _ wm307) (fun _ h9 => h9) rfl dX11_layLeaf_52 ?_
  refine lv_iconst (v := 1) hx hb dX11_layLeaf_55 (by decide) ?_
  refine lv_isub hx hb dX11_layLeaf_56 ?_
  refine lv_topi (fun z_3 ez_3 => ?_)
  obtain rfl : z_3 = 0 := ez_3.trans (by decide)
  have hP9 := hP.sub (ws' := []) [] rfl
  have hD9 := hD.sub (ws' := []) [] (by decide) rfl
  refine W.widen (k := 0) (n := 0) (Nat.le_of_ble_eq_true rfl) (Nat.le_of_ble_eq_true rfl) ?_
  exact W.iret (v := 0) hx hb hr (fun t ht hW => ⟨⟨0, (), rfl, rfl, ⟨by rw [ht]; exact hP9, hD9⟩⟩, hS.F ht⟩) hS.2.2 dX11_layLeaf_57 hlocks
set_option maxHeartbeats 4000000 in
set_option maxRecDepth 100000 in
theorem k_X11_universe (l : Launch) (hfl : l.stackTraces = false) (G : GC) (h0 : Nat) (p0 : Int32) (t1 : Nat) (f1 : Nat) (s1 : Nat) (d1 : Nat) (y1 : Nat) (g1 : Nat) (m1 : Nat) (n1 : Nat) (ta0 : Nat) (ta1 : Nat) (ta2 : Nat) (ta3 : Nat) (ta4 : Nat) (ta5 : Nat) (ta6 : Nat) (ta7 : Nat) (ta8 : Nat) (tf0 : Nat → Int32) (tf1 : Nat → Int32) (tf2 : Nat → Int32) (tf3 : Nat → Int32) (tf4 : Nat → Int32) (tf5 : Nat → Int32) (tf6 : Nat → Int32) (tf7 : Nat → Int32) (nf : Nat → Int32) (sz : Nat) : vx_Met l yX11_universe (Cond.code yX11_universe cX11_universe 2 (some .int) :: W0) ({ frames := 6, cells := 1, slots := 6, locals := 82 }) (va_Pc [.ref h0, .int p0] (WD G [(h0, .inr (10, [.ref t1, .ref f1, .ref s1, .ref d1, .ref y1, .ref g1, .ref m1, .ref n1, .int 0, .long 0])), (t1, .inr (8, [.ref ta0, .ref ta1, .ref ta2, .ref ta3, .ref ta4, .ref ta5, .ref ta6, .ref ta7, .ref ta8, .int 0])), (ta0, .inl (cyA G 0, 32768, .inl (tf0))), (ta1, .inl (cyA G 0, 32768, .inl (tf1))), (ta2, .inl (cyA G 0, 32768, .inl (tf2))), (ta3, .inl (cyA G 0, 32768, .inl (tf3))), (ta4, .inl (cyA G 0, 32768, .inl (tf4))), (ta5, .inl (cyA G 0, 32768, .inl (tf5))), (ta6, .inl (cyA G 0, 32768, .inl (tf6))), (ta7, .inl (cyA G 1, 32768, .inl (tf7))), (n1, .inl (cyA G 0, 250, .inl (nf)))] sz)) (va_Qi (fun (r : Int32) (u : Nat) => (u = 0 ∧ r = 0 ∧ ((0 ≤ p0.toInt ∧ p0.toInt ≤ 3)))) (fun (u : Nat) t => (u = 0 → PW G (va_A [(h0, .inr (10, [.ref t1, .ref f1, .ref s1, .ref d1, .ref y1, .ref g1, .ref m1, .ref n1, .int 0, .long 0])), (t1, .inr (8, [.ref ta0, .ref ta1, .ref ta2, .ref ta3, .ref ta4, .ref ta5, .ref ta6, .ref ta7, .ref ta8, .int 0])), (ta0, .inl (cyA G 0, 32768, .inl (tf0))), (ta1, .inl (cyA G 0, 32768, .inl (tf1))), (ta2, .inl (cyA G 0, 32768, .inl (tf2))), (ta3, .inl (cyA G 0, 32768, .inl (tf3))), (ta4, .inl (cyA G 0, 32768, .inl (tf4))), (ta5, .inl (cyA G 0, 32768, .inl (tf5))), (ta6, .inl (cyA G 0, 32768, .inl (tf6))), (ta7, .inl (cyA G 1, 32768, .inl (tf7))), (n1, .inl (cyA G 0, 250, .inl (nf)))] sz) [] t)) (va_A [(h0, .inr (10, [.ref t1, .ref f1, .ref s1, .ref d1, .ref y1, .ref g1, .ref m1, .ref n1, .int 0, .long 0])), (t1, .inr (8, [.ref ta0, .ref ta1, .ref ta2, .ref ta3, .ref ta4, .ref ta5, .ref ta6, .ref ta7, .ref ta8, .int 0])), (ta0, .inl (cyA G 0, 32768, .inl (tf0))), (ta1, .inl (cyA G 0, 32768, .inl (tf1))), (ta2, .inl (cyA G 0, 32768, .inl (tf2))), (ta3, .inl (cyA G 0, 32768, .inl (tf3))), (ta4, .inl (cyA G 0, 32768, .inl (tf4))), (ta5, .inl (cyA G 0, 32768, .inl (tf5))), (ta6, .inl (cyA G 0, 32768, .inl (tf6))), (ta7, .inl (cyA G 1, 32768, .inl (tf7))), (n1, .inl (cyA G 0, 250, .inl (nf)))] sz)) (vx_X (fun _ : Unit => True) (fun (E : String) (_ : Unit) (_ : State) => E = "java/lang/IllegalArgumentException" ∧ (p0.toInt ≤ (-1) ∨ 4 ≤ p0.toInt)) (va_A [(h0, .inr (10, [.ref t1, .ref f1, .ref s1, .ref d1, .ref y1, .ref g1, .ref m1, .ref n1, .int 0, .long 0])), (t1, .inr (8, [.ref ta0, .ref ta1, .ref ta2, .ref ta3, .ref ta4, .ref ta5, .ref ta6, .ref ta7, .ref ta8, .int 0])), (ta0, .inl (cyA G 0, 32768, .inl (tf0))), (ta1, .inl (cyA G 0, 32768, .inl (tf1))), (ta2, .inl (cyA G 0, 32768, .inl (tf2))), (ta3, .inl (cyA G 0, 32768, .inl (tf3))), (ta4, .inl (cyA G 0, 32768, .inl (tf4))), (ta5, .inl (cyA G 0, 32768, .inl (tf5))), (ta6, .inl (cyA G 0, 32768, .inl (tf6))), (ta7, .inl (cyA G 1, 32768, .inl (tf7))), (n1, .inl (cyA G 0, 250, .inl (nf)))] sz)) 1 6 (va_A [(h0, .inr (10, [.ref t1, .ref f1, .ref s1, .ref d1, .ref y1, .ref g1, .ref m1, .ref n1, .int 0, .long 0])), (t1, .inr (8, [.ref ta0, .ref ta1, .ref ta2, .ref ta3, .ref ta4, .ref ta5, .ref ta6, .ref ta7, .ref ta8, .int 0])), (ta0, .inl (cyA G 0, 32768, .inl (tf0))), (ta1, .inl (cyA G 0, 32768, .inl (tf1))), (ta2, .inl (cyA G 0, 32768, .inl (tf2))), (ta3, .inl (cyA G 0, 32768, .inl (tf3))), (ta4, .inl (cyA G 0, 32768, .inl (tf4))), (ta5, .inl (cyA G 0, 32768, .inl (tf5))), (ta6, .inl (cyA G 0, 32768, .inl (tf6))), (ta7, .inl (cyA G 1, 32768, .inl (tf7))), (n1, .inl (cyA G 0, 250, .inl (nf)))] sz) := by
  refine vx_ofW (cc := cX11_universe) (maxL := 2) (ret := (some .int)) (by decide) rfl ?_
  intro p e s m args below meth c s₁ B hml hout0 hv
  obtain ⟨rfl, hsz, hP, hK, hD0, hE⟩ := hv
  have hx := B.exec
  have hb := B.bytes
  have hr := B.returns
  have hts := w0_tail B.pre
  have hown : s.vm.findClass RX11 = some m.cls := findClass_of_methodNamed B.named
  have hlocks := B.notSynchronized
  subst hsz
  have hD := hD0.self (sz := s.heap.size)
  generalize hAe : va_A [(h0, .inr (10, [.ref t1, .ref f1, .ref s1, .ref d1, .ref y1, .ref g1, .ref m1, .ref n1, .int 0, .long 0])), (t1, .inr (8, [.ref ta0, .ref ta1, .ref ta2, .ref ta3, .ref ta4, .ref ta5, .ref ta6, .ref ta7, .ref ta8, .int 0])), (ta0, .inl (cyA G 0, 32768, .inl (tf0))), (ta1, .inl (cyA G 0, 32768, .inl (tf1))), (ta2, .inl (cyA G 0, 32768, .inl (tf2))), (ta3, .inl (cyA G 0, 32768, .inl (tf3))), (ta4, .inl (cyA G 0, 32768, .inl (tf4))), (ta5, .inl (cyA G 0, 32768, .inl (tf5))), (ta6, .inl (cyA G 0, 32768, .inl (tf6))), (ta7, .inl (cyA G 1, 32768, .inl (tf7))), (n1, .inl (cyA G 0, 250, .inl (nf)))] s.heap.size = A at hD hE ⊢
  have hA : ∀ q : Nat, s.heap.size ≤ q → A q := fun q h => by rw [← hAe]; exact Or.inr h
  have hS : va_S A s.heap s.heap [] := va_S.rf
  obtain ⟨H, hHe⟩ : ∃ H : Heap, H = s.heap := ⟨_, rfl⟩
  have hP : va_P (DG G) clP1 [(h0, .inr (10, [.ref t1, .ref f1, .ref s1, .ref d1, .ref y1, .ref g1, .ref m1, .ref n1, .int 0, .long 0])), (t1, .inr (8, [.ref ta0, .ref ta1, .ref ta2, .ref ta3, .ref ta4, .ref ta5, .ref ta6, .ref ta7, .ref ta8, .int 0])), (ta0, .inl (cyA G 0, 32768, .inl (tf0))), (ta1, .inl (cyA G 0, 32768, .inl (tf1))), (ta2, .inl (cyA G 0, 32768, .inl (tf2))), (ta3, .inl (cyA G 0, 32768, .inl (tf3))), (ta4, .inl (cyA G 0, 32768, .inl (tf4))), (ta5, .inl (cyA G 0, 32768, .inl (tf5))), (ta6, .inl (cyA G 0, 32768, .inl (tf6))), (ta7, .inl (cyA G 1, 32768, .inl (tf7))), (n1, .inl (cyA G 0, 250, .inl (nf)))] H := by rw [hHe]; exact hP
  have hS : va_S A s.heap H [] := by rw [hHe]; exact hS
  have hl := lv_entry ([.ref h0, .int p0]) (n := 2) (Nat.le_of_ble_eq_true rfl)
  rw [lg_entry_eq, ← hHe]
  generalize (lg_sl ([.ref h0, .int p0]) ++ List.replicate (2 - (lg_sl ([.ref h0, .int p0])).length) Slot.unset).toArray = ls at hl ⊢
  have hl : lv_has ls 2 [(0, .ref h0), (1, .int p0)] := hl
  refine lv_iload_n hx hb dX11_universe_0 rfl (lv_at hl 1 rfl) ?_
  refine lv_if_lt (tgt := 9) hx hb dX11_universe_1 (by decide) (fun c_1 => ?_) (fun c_1 => ?_)
  · have t_2 := i_lt c_1
    have kk_3 : ((0 : Int32)).toInt = 0 := by decide
    obtain ⟨sa, hsa⟩ := hE.2.1 _ stm0
    exact vx_throwS (names := ["java/lang/RuntimeException", "java/lang/Exception"]) (A := A) (free := A) hx hb hfl hown (by decide +kernel) (by decide +kernel) (hts _ wm534) (hts _ wm18) hsa (xX11_74_hat hts hE) xX11_74_good (EV.un hE) (EV.su hE) hS (hl.1.trans hml.symm) dX11_universe_9 dX11_universe_12 dX11_universe_13 dX11_universe_15 dX11_universe_18 (fun x hx => (hout0 x hx).elim) (Nat.le_of_ble_eq_true rfl) (Nat.le_of_ble_eq_true rfl) (Nat.le_of_ble_eq_true rfl) (Nat.le_of_ble_eq_true rfl) hlocks (fun t ha hz hk => ⟨(), trivial, ⟨rfl, by omega⟩, xF hS hz hk⟩) hS.2.2 (Nat.le_of_ble_eq_true rfl) (Nat.le_of_ble_eq_true rfl)
  · have t_4 := i_nlt c_1
    have kk_5 : ((0 : Int32)).toInt = 0 := by decide
    refine lv_iload_n hx hb dX11_universe_4 rfl (lv_at hl 1 rfl) ?_
    refine lv_iconst (v := 3) hx hb dX11_universe_5 (by decide) ?_
    refine lv_icmp_le (tgt := 19) hx hb dX11_universe_6 (by decide) (fun c_6 => ?_) (fun c_6 => ?_)
    · have t_7 := i_le c_6
      have kk_8 : ((3 : Int32)).toInt = 3 := by decide
      refine lv_aload_n hx hb dX11_universe_19 rfl (lv_at hl 0 rfl) ?_
      refine lv_iconst (v := 0) hx hb dX11_universe_20 (by decide) ?_
      refine lv_iload_n hx hb dX11_universe_21 rfl (lv_at hl 1 rfl) ?_
      have hFc := va_free (wc := [(h0, .inr (10, [.ref t1, .ref f1, .ref s1, .ref d1, .ref y1, .ref g1, .ref m1, .ref n1, .int 0, .long 0])), (t1, .inr (8, [.ref ta0, .ref ta1, .ref ta2, .ref ta3, .ref ta4, .ref ta5, .ref ta6, .ref ta7, .ref ta8, .int 0])), (ta0, .inl (cyA G 0, 32768, .inl (tf0))), (ta1, .inl (cyA G 0, 32768, .inl (tf1))), (ta2, .inl (cyA G 0, 32768, .inl (tf2))), (ta3, .inl (cyA G 0, 32768, .inl (tf3))), (ta4, .inl (cyA G 0, 32768, .inl (tf4))), (ta5, .inl (cyA G 0, 32768, .inl (tf5))), (ta6, .inl (cyA G 0, 32768, .inl (tf6))), (ta7, .inl (cyA G 1, 32768, .inl (tf7))), (n1, .inl (cyA G 0, 250, .inl (nf)))]) hD hS hA [0, 1, 2, 3, 4, 5, 6, 7, 8, 9, 10] rfl
      refine va_calli (va_runV (As := [.int 0, .int p0]) (rest := []) ⟨hx, hb, hml, hown, hts⟩ (k_X11_layLeaf_0 l hfl G h0 p0 t1 f1 s1 d1 y1 g1 m1 n1 ta0 ta1 ta2 ta3 ta4 ta5 ta6 ta7 ta8 tf0 tf1 tf2 tf3 tf4 tf5 tf6 tf7 nf H.size) (cwV 2 hts (gV wm606 wm608 ws_p7 wm1 wm609) rfl rfl rfl (by decide +kernel) ⟨Nat.le_of_ble_eq_true rfl, Nat.le_of_ble_eq_true rfl⟩) (pre_v (pre_s hK hP hD hS hE [0, 1, 2, 3, 4, 5, 6, 7, 8, 9, 10] rfl rfl (by decide) hFc) (va_recv hK hP (ci := 10) (q0 := 0) rfl rfl)) rfl rfl hl.1 rfl (lv_room (Nat.le_of_ble_eq_true rfl)) dX11_universe_22 ⟨Nat.le_of_ble_eq_true rfl, Nat.le_of_ble_eq_true rfl⟩) hS (fun q _ h => hFc q h) hFc (fun r u t H locs ht hvm hw hB hz1 hk1 hS => ?_)
      obtain rfl : r = 0 := hw
      obtain ⟨hP1, hD1⟩ := hB
      rw [ht] at hP1
      obtain ⟨hP, hD⟩ := va_join (wr := []) (w1 := []) hP hD [0, 1, 2, 3, 4, 5, 6, 7, 8, 9, 10] [] rfl rfl (by decide) (by decide) hk1 hFc hP1 hD1
      have hP : va_P (DG G) clP1 [] H := hP
      have hD : va_D A [] := hD
      refine W.widen (k := 0) (n := 0) (Nat.le_of_ble_eq_true rfl) (Nat.le_of_ble_eq_true rfl) ?_
      have hP9 := hP.sub (ws' := []) [] rfl
      have hD9 := hD.sub (ws' := []) [] (by decide) rfl
      refine W.widen (k := 1) (n := 6) (Nat.le_of_ble_eq_true rfl) (Nat.le_of_ble_eq_true rfl) ?_
      exact vx_ret (W.iret (v := 0) hx hb hr (fun t ht hW => ⟨⟨0, 0, rfl, ⟨rfl, rfl, by omega⟩, fun _ => ⟨by rw [ht]; exact hP9, hD9⟩⟩, hS.F ht⟩) hS.2.2 dX11_universe_25 hlocks)
    · have t_9 := i_nle c_6
      have kk_10 : ((3 : Int32)).toInt = 3 := by decide
      obtain ⟨sa, hsa⟩ := hE.2.1 _ stm0
      exact vx_throwS (names := ["java/lang/RuntimeException", "java/lang/Exception"]) (A := A) (free := A) hx hb hfl hown (by decide +kernel) (by decide +kernel) (hts _ wm534) (hts _ wm18) hsa (xX11_74_hat hts hE) xX11_74_good (EV.un hE) (EV.su hE) hS (hl.1.trans hml.symm) dX11_universe_9 dX11_universe_12 dX11_universe_13 dX11_universe_15 dX11_universe_18 (fun x hx => (hout0 x hx).elim) (Nat.le_of_ble_eq_true rfl) (Nat.le_of_ble_eq_true rfl) (Nat.le_of_ble_eq_true rfl) (Nat.le_of_ble_eq_true rfl) hlocks (fun t ha hz hk => ⟨(), trivial, ⟨rfl, by omega⟩, xF hS hz hk⟩) hS.2.2 (Nat.le_of_ble_eq_true rfl) (Nat.le_of_ble_eq_true rfl)
set_option maxHeartbeats 4000000 in
set_option maxRecDepth 100000 in
theorem k_X11_variable (l : Launch) (hfl : l.stackTraces = false) (G : GC) (h0 : Nat) (p0 : Int32) (t1 : Nat) (f1 : Nat) (s1 : Nat) (d1 : Nat) (y1 : Nat) (g1 : Nat) (m1 : Nat) (n1 : Nat) (ta0 : Nat) (ta1 : Nat) (ta2 : Nat) (ta3 : Nat) (ta4 : Nat) (ta5 : Nat) (ta6 : Nat) (ta7 : Nat) (ta8 : Nat) (tf0 : Nat → Int32) (tf1 : Nat → Int32) (tf2 : Nat → Int32) (tf3 : Nat → Int32) (tf4 : Nat → Int32) (tf5 : Nat → Int32) (tf6 : Nat → Int32) (tf7 : Nat → Int32) (nf : Nat → Int32) (sz : Nat) : vx_Met l yX11_variable (Cond.code yX11_variable cX11_variable 2 (some .int) :: W0) ({ frames := 6, cells := 1, slots := 6, locals := 82 }) (va_Pc [.ref h0, .int p0] (WD G [(h0, .inr (10, [.ref t1, .ref f1, .ref s1, .ref d1, .ref y1, .ref g1, .ref m1, .ref n1, .int 0, .long 0])), (t1, .inr (8, [.ref ta0, .ref ta1, .ref ta2, .ref ta3, .ref ta4, .ref ta5, .ref ta6, .ref ta7, .ref ta8, .int 0])), (ta0, .inl (cyA G 0, 32768, .inl (tf0))), (ta1, .inl (cyA G 0, 32768, .inl (tf1))), (ta2, .inl (cyA G 0, 32768, .inl (tf2))), (ta3, .inl (cyA G 0, 32768, .inl (tf3))), (ta4, .inl (cyA G 0, 32768, .inl (tf4))), (ta5, .inl (cyA G 0, 32768, .inl (tf5))), (ta6, .inl (cyA G 0, 32768, .inl (tf6))), (ta7, .inl (cyA G 1, 32768, .inl (tf7))), (n1, .inl (cyA G 0, 250, .inl (nf)))] sz)) (va_Qi (fun (r : Int32) (u : Nat) => (u = 0 ∧ r = 0 ∧ ((0 ≤ p0.toInt ∧ p0.toInt ≤ 15)))) (fun (u : Nat) t => (u = 0 → PW G (va_A [(h0, .inr (10, [.ref t1, .ref f1, .ref s1, .ref d1, .ref y1, .ref g1, .ref m1, .ref n1, .int 0, .long 0])), (t1, .inr (8, [.ref ta0, .ref ta1, .ref ta2, .ref ta3, .ref ta4, .ref ta5, .ref ta6, .ref ta7, .ref ta8, .int 0])), (ta0, .inl (cyA G 0, 32768, .inl (tf0))), (ta1, .inl (cyA G 0, 32768, .inl (tf1))), (ta2, .inl (cyA G 0, 32768, .inl (tf2))), (ta3, .inl (cyA G 0, 32768, .inl (tf3))), (ta4, .inl (cyA G 0, 32768, .inl (tf4))), (ta5, .inl (cyA G 0, 32768, .inl (tf5))), (ta6, .inl (cyA G 0, 32768, .inl (tf6))), (ta7, .inl (cyA G 1, 32768, .inl (tf7))), (n1, .inl (cyA G 0, 250, .inl (nf)))] sz) [] t)) (va_A [(h0, .inr (10, [.ref t1, .ref f1, .ref s1, .ref d1, .ref y1, .ref g1, .ref m1, .ref n1, .int 0, .long 0])), (t1, .inr (8, [.ref ta0, .ref ta1, .ref ta2, .ref ta3, .ref ta4, .ref ta5, .ref ta6, .ref ta7, .ref ta8, .int 0])), (ta0, .inl (cyA G 0, 32768, .inl (tf0))), (ta1, .inl (cyA G 0, 32768, .inl (tf1))), (ta2, .inl (cyA G 0, 32768, .inl (tf2))), (ta3, .inl (cyA G 0, 32768, .inl (tf3))), (ta4, .inl (cyA G 0, 32768, .inl (tf4))), (ta5, .inl (cyA G 0, 32768, .inl (tf5))), (ta6, .inl (cyA G 0, 32768, .inl (tf6))), (ta7, .inl (cyA G 1, 32768, .inl (tf7))), (n1, .inl (cyA G 0, 250, .inl (nf)))] sz)) (vx_X (fun _ : Unit => True) (fun (E : String) (_ : Unit) (_ : State) => E = "java/lang/IllegalArgumentException" ∧ (p0.toInt ≤ (-1) ∨ 16 ≤ p0.toInt)) (va_A [(h0, .inr (10, [.ref t1, .ref f1, .ref s1, .ref d1, .ref y1, .ref g1, .ref m1, .ref n1, .int 0, .long 0])), (t1, .inr (8, [.ref ta0, .ref ta1, .ref ta2, .ref ta3, .ref ta4, .ref ta5, .ref ta6, .ref ta7, .ref ta8, .int 0])), (ta0, .inl (cyA G 0, 32768, .inl (tf0))), (ta1, .inl (cyA G 0, 32768, .inl (tf1))), (ta2, .inl (cyA G 0, 32768, .inl (tf2))), (ta3, .inl (cyA G 0, 32768, .inl (tf3))), (ta4, .inl (cyA G 0, 32768, .inl (tf4))), (ta5, .inl (cyA G 0, 32768, .inl (tf5))), (ta6, .inl (cyA G 0, 32768, .inl (tf6))), (ta7, .inl (cyA G 1, 32768, .inl (tf7))), (n1, .inl (cyA G 0, 250, .inl (nf)))] sz)) 1 6 (va_A [(h0, .inr (10, [.ref t1, .ref f1, .ref s1, .ref d1, .ref y1, .ref g1, .ref m1, .ref n1, .int 0, .long 0])), (t1, .inr (8, [.ref ta0, .ref ta1, .ref ta2, .ref ta3, .ref ta4, .ref ta5, .ref ta6, .ref ta7, .ref ta8, .int 0])), (ta0, .inl (cyA G 0, 32768, .inl (tf0))), (ta1, .inl (cyA G 0, 32768, .inl (tf1))), (ta2, .inl (cyA G 0, 32768, .inl (tf2))), (ta3, .inl (cyA G 0, 32768, .inl (tf3))), (ta4, .inl (cyA G 0, 32768, .inl (tf4))), (ta5, .inl (cyA G 0, 32768, .inl (tf5))), (ta6, .inl (cyA G 0, 32768, .inl (tf6))), (ta7, .inl (cyA G 1, 32768, .inl (tf7))), (n1, .inl (cyA G 0, 250, .inl (nf)))] sz) := by
  refine vx_ofW (cc := cX11_variable) (maxL := 2) (ret := (some .int)) (by decide) rfl ?_
  intro p e s m args below meth c s₁ B hml hout0 hv
  obtain ⟨rfl, hsz, hP, hK, hD0, hE⟩ := hv
  have hx := B.exec
  have hb := B.bytes
  have hr := B.returns
  have hts := w0_tail B.pre
  have hown : s.vm.findClass RX11 = some m.cls := findClass_of_methodNamed B.named
  have hlocks := B.notSynchronized
  subst hsz
  have hD := hD0.self (sz := s.heap.size)
  generalize hAe : va_A [(h0, .inr (10, [.ref t1, .ref f1, .ref s1, .ref d1, .ref y1, .ref g1, .ref m1, .ref n1, .int 0, .long 0])), (t1, .inr (8, [.ref ta0, .ref ta1, .ref ta2, .ref ta3, .ref ta4, .ref ta5, .ref ta6, .ref ta7, .ref ta8, .int 0])), (ta0, .inl (cyA G 0, 32768, .inl (tf0))), (ta1, .inl (cyA G 0, 32768, .inl (tf1))), (ta2, .inl (cyA G 0, 32768, .inl (tf2))), (ta3, .inl (cyA G 0, 32768, .inl (tf3))), (ta4, .inl (cyA G 0, 32768, .inl (tf4))), (ta5, .inl (cyA G 0, 32768, .inl (tf5))), (ta6, .inl (cyA G 0, 32768, .inl (tf6))), (ta7, .inl (cyA G 1, 32768, .inl (tf7))), (n1, .inl (cyA G 0, 250, .inl (nf)))] s.heap.size = A at hD hE ⊢
  have hA : ∀ q : Nat, s.heap.size ≤ q → A q := fun q h => by rw [← hAe]; exact Or.inr h
  have hS : va_S A s.heap s.heap [] := va_S.rf
  obtain ⟨H, hHe⟩ : ∃ H : Heap, H = s.heap := ⟨_, rfl⟩
  have hP : va_P (DG G) clP1 [(h0, .inr (10, [.ref t1, .ref f1, .ref s1, .ref d1, .ref y1, .ref g1, .ref m1, .ref n1, .int 0, .long 0])), (t1, .inr (8, [.ref ta0, .ref ta1, .ref ta2, .ref ta3, .ref ta4, .ref ta5, .ref ta6, .ref ta7, .ref ta8, .int 0])), (ta0, .inl (cyA G 0, 32768, .inl (tf0))), (ta1, .inl (cyA G 0, 32768, .inl (tf1))), (ta2, .inl (cyA G 0, 32768, .inl (tf2))), (ta3, .inl (cyA G 0, 32768, .inl (tf3))), (ta4, .inl (cyA G 0, 32768, .inl (tf4))), (ta5, .inl (cyA G 0, 32768, .inl (tf5))), (ta6, .inl (cyA G 0, 32768, .inl (tf6))), (ta7, .inl (cyA G 1, 32768, .inl (tf7))), (n1, .inl (cyA G 0, 250, .inl (nf)))] H := by rw [hHe]; exact hP
  have hS : va_S A s.heap H [] := by rw [hHe]; exact hS
  have hl := lv_entry ([.ref h0, .int p0]) (n := 2) (Nat.le_of_ble_eq_true rfl)
  rw [lg_entry_eq, ← hHe]
  generalize (lg_sl ([.ref h0, .int p0]) ++ List.replicate (2 - (lg_sl ([.ref h0, .int p0])).length) Slot.unset).toArray = ls at hl ⊢
  have hl : lv_has ls 2 [(0, .ref h0), (1, .int p0)] := hl
  refine lv_iload_n hx hb dX11_variable_0 rfl (lv_at hl 1 rfl) ?_
  refine lv_if_lt (tgt := 10) hx hb dX11_variable_1 (by decide) (fun c_1 => ?_) (fun c_1 => ?_)
  · have t_2 := i_lt c_1
    have kk_3 : ((0 : Int32)).toInt = 0 := by decide
    obtain ⟨sa, hsa⟩ := hE.2.1 _ stm1
    exact vx_throwS (names := ["java/lang/RuntimeException", "java/lang/Exception"]) (A := A) (free := A) hx hb hfl hown (by decide +kernel) (by decide +kernel) (hts _ wm534) (hts _ wm18) hsa (xX11_74_hat hts hE) xX11_74_good (EV.un hE) (EV.su hE) hS (hl.1.trans hml.symm) dX11_variable_10 dX11_variable_13 dX11_variable_14 dX11_variable_16 dX11_variable_19 (fun x hx => (hout0 x hx).elim) (Nat.le_of_ble_eq_true rfl) (Nat.le_of_ble_eq_true rfl) (Nat.le_of_ble_eq_true rfl) (Nat.le_of_ble_eq_true rfl) hlocks (fun t ha hz hk => ⟨(), trivial, ⟨rfl, by omega⟩, xF hS hz hk⟩) hS.2.2 (Nat.le_of_ble_eq_true rfl) (Nat.le_of_ble_eq_true rfl)
  · have t_4 := i_nlt c_1
    have kk_5 : ((0 : Int32)).toInt = 0 := by decide
    refine lv_iload_n hx hb dX11_variable_4 rfl (lv_at hl 1 rfl) ?_
    refine lv_bipush (v := 15) hx hb dX11_variable_5 (by decide) ?_
    refine lv_icmp_le (tgt := 20) hx hb dX11_variable_7 (by decide) (fun c_6 => ?_) (fun c_6 => ?_)
    · have t_7 := i_le c_6
      have kk_8 : ((15 : Int32)).toInt = 15 := by decide
      refine lv_aload_n hx hb dX11_variable_20 rfl (lv_at hl 0 rfl) ?_
      refine lv_iconst (v := 1) hx hb dX11_variable_21 (by decide) ?_
      refine lv_iload_n hx hb dX11_variable_22 rfl (lv_at hl 1 rfl) ?_
      have hFc := va_free (wc := [(h0, .inr (10, [.ref t1, .ref f1, .ref s1, .ref d1, .ref y1, .ref g1, .ref m1, .ref n1, .int 0, .long 0])), (t1, .inr (8, [.ref ta0, .ref ta1, .ref ta2, .ref ta3, .ref ta4, .ref ta5, .ref ta6, .ref ta7, .ref ta8, .int 0])), (ta0, .inl (cyA G 0, 32768, .inl (tf0))), (ta1, .inl (cyA G 0, 32768, .inl (tf1))), (ta2, .inl (cyA G 0, 32768, .inl (tf2))), (ta3, .inl (cyA G 0, 32768, .inl (tf3))), (ta4, .inl (cyA G 0, 32768, .inl (tf4))), (ta5, .inl (cyA G 0, 32768, .inl (tf5))), (ta6, .inl (cyA G 0, 32768, .inl (tf6))), (ta7, .inl (cyA G 1, 32768, .inl (tf7))), (n1, .inl (cyA G 0, 250, .inl (nf)))]) hD hS hA [0, 1, 2, 3, 4, 5, 6, 7, 8, 9, 10] rfl
      refine va_calli (va_runV (As := [.int 1, .int p0]) (rest := []) ⟨hx, hb, hml, hown, hts⟩ (k_X11_layLeaf_1 l hfl G h0 p0 t1 f1 s1 d1 y1 g1 m1 n1 ta0 ta1 ta2 ta3 ta4 ta5 ta6 ta7 ta8 tf0 tf1 tf2 tf3 tf4 tf5 tf6 tf7 nf H.size) (cwV 2 hts (gV wm606 wm608 ws_p7 wm1 wm609) rfl rfl rfl (by decide +kernel) ⟨Nat.le_of_ble_eq_true rfl, Nat.le_of_ble_eq_true rfl⟩) (pre_v (pre_s hK hP hD hS hE [0, 1, 2, 3, 4, 5, 6, 7, 8, 9, 10] rfl rfl (by decide) hFc) (va_recv hK hP (ci := 10) (q0 := 0) rfl rfl)) rfl rfl hl.1 rfl (lv_room (Nat.le_of_ble_eq_true rfl)) dX11_variable_23 ⟨Nat.le_of_ble_eq_true rfl, Nat.le_of_ble_eq_true rfl⟩) hS (fun q _ h => hFc q h) hFc (fun r u t H locs ht hvm hw hB hz1 hk1 hS => ?_)
      obtain rfl : r = 0 := hw
      obtain ⟨hP1, hD1⟩ := hB
      rw [ht] at hP1
      obtain ⟨hP, hD⟩ := va_join (wr := []) (w1 := []) hP hD [0, 1, 2, 3, 4, 5, 6, 7, 8, 9, 10] [] rfl rfl (by decide) (by decide) hk1 hFc hP1 hD1
      have hP : va_P (DG G) clP1 [] H := hP
      have hD : va_D A [] := hD
      refine W.widen (k := 0) (n := 0) (Nat.le_of_ble_eq_true rfl) (Nat.le_of_ble_eq_true rfl) ?_
      have hP9 := hP.sub (ws' := []) [] rfl
      have hD9 := hD.sub (ws' := []) [] (by decide) rfl
      refine W.widen (k := 1) (n := 6) (Nat.le_of_ble_eq_true rfl) (Nat.le_of_ble_eq_true rfl) ?_
      exact vx_ret (W.iret (v := 0) hx hb hr (fun t ht hW => ⟨⟨0, 0, rfl, ⟨rfl, rfl, by omega⟩, fun _ => ⟨by rw [ht]; exact hP9, hD9⟩⟩, hS.F ht⟩) hS.2.2 dX11_variable_26 hlocks)
    · have t_9 := i_nle c_6
      have kk_10 : ((15 : Int32)).toInt = 15 := by decide
      obtain ⟨sa, hsa⟩ := hE.2.1 _ stm1
      exact vx_throwS (names := ["java/lang/RuntimeException", "java/lang/Exception"]) (A := A) (free := A) hx hb hfl hown (by decide +kernel) (by decide +kernel) (hts _ wm534) (hts _ wm18) hsa (xX11_74_hat hts hE) xX11_74_good (EV.un hE) (EV.su hE) hS (hl.1.trans hml.symm) dX11_variable_10 dX11_variable_13 dX11_variable_14 dX11_variable_16 dX11_variable_19 (fun x hx => (hout0 x hx).elim) (Nat.le_of_ble_eq_true rfl) (Nat.le_of_ble_eq_true rfl) (Nat.le_of_ble_eq_true rfl) (Nat.le_of_ble_eq_true rfl) hlocks (fun t ha hz hk => ⟨(), trivial, ⟨rfl, by omega⟩, xF hS hz hk⟩) hS.2.2 (Nat.le_of_ble_eq_true rfl) (Nat.le_of_ble_eq_true rfl)
set_option maxHeartbeats 4000000 in
set_option maxRecDepth 100000 in
theorem k_X11_termAt (l : Launch) (hfl : l.stackTraces = false) (G : GC) (h0 : Nat) (p0 : Int32) (t1 : Nat) (f1 : Nat) (s1 : Nat) (d1 : Nat) (y1 : Nat) (g1 : Nat) (m1 : Nat) (n1 : Nat) (sz : Nat) : vx_Met l yX11_termAt (Cond.code yX11_termAt cX11_termAt 2 (some .int) :: W0) ({ frames := 6, cells := 1, slots := 6, locals := 82 }) (va_Pc [.ref h0, .int p0] (WD G [(h0, .inr (10, [.ref t1, .ref f1, .ref s1, .ref d1, .ref y1, .ref g1, .ref m1, .ref n1, .int 0, .long 0]))] sz)) (va_Qi (S := Unit) (fun _ _ => False) (fun _ _ => True) (va_A [(h0, .inr (10, [.ref t1, .ref f1, .ref s1, .ref d1, .ref y1, .ref g1, .ref m1, .ref n1, .int 0, .long 0]))] sz)) (vx_X (fun _ : Unit => True) (fun (E : String) (_ : Unit) (_ : State) => E = "java/lang/IndexOutOfBoundsException") (va_A [(h0, .inr (10, [.ref t1, .ref f1, .ref s1, .ref d1, .ref y1, .ref g1, .ref m1, .ref n1, .int 0, .long 0]))] sz)) 1 6 (va_A [(h0, .inr (10, [.ref t1, .ref f1, .ref s1, .ref d1, .ref y1, .ref g1, .ref m1, .ref n1, .int 0, .long 0]))] sz) := by
  refine vx_ofW (cc := cX11_termAt) (maxL := 2) (ret := (some .int)) (by decide) rfl ?_
  intro p e s m args below meth c s₁ B hml hout0 hv
  obtain ⟨rfl, hsz, hP, hK, hD0, hE⟩ := hv
  have hx := B.exec
  have hb := B.bytes
  have hr := B.returns
  have hts := w0_tail B.pre
  have hown : s.vm.findClass RX11 = some m.cls := findClass_of_methodNamed B.named
  have hlocks := B.notSynchronized
  subst hsz
  have hD := hD0.self (sz := s.heap.size)
  generalize hAe : va_A [(h0, .inr (10, [.ref t1, .ref f1, .ref s1, .ref d1, .ref y1, .ref g1, .ref m1, .ref n1, .int 0, .long 0]))] s.heap.size = A at hD hE ⊢
  have hA : ∀ q : Nat, s.heap.size ≤ q → A q := fun q h => by rw [← hAe]; exact Or.inr h
  have hS : va_S A s.heap s.heap [] := va_S.rf
  obtain ⟨H, hHe⟩ : ∃ H : Heap, H = s.heap := ⟨_, rfl⟩
  have hP : va_P (DG G) clP1 [(h0, .inr (10, [.ref t1, .ref f1, .ref s1, .ref d1, .ref y1, .ref g1, .ref m1, .ref n1, .int 0, .long 0]))] H := by rw [hHe]; exact hP
  have hS : va_S A s.heap H [] := by rw [hHe]; exact hS
  have hl := lv_entry ([.ref h0, .int p0]) (n := 2) (Nat.le_of_ble_eq_true rfl)
  rw [lg_entry_eq, ← hHe]
  generalize (lg_sl ([.ref h0, .int p0]) ++ List.replicate (2 - (lg_sl ([.ref h0, .int p0])).length) Slot.unset).toArray = ls at hl ⊢
  have hl : lv_has ls 2 [(0, .ref h0), (1, .int p0)] := hl
  refine lv_iload_n hx hb dX11_termAt_0 rfl (lv_at hl 1 rfl) ?_
  refine lv_if_lt (tgt := 12) hx hb dX11_termAt_1 (by decide) (fun c_1 => ?_) (fun c_1 => ?_)
  · have t_2 := i_lt c_1
    have kk_3 : ((0 : Int32)).toInt = 0 := by decide
    obtain ⟨sa, hsa⟩ := hE.2.1 _ stm2
    exact vx_throwSW (names := ["java/lang/RuntimeException", "java/lang/Exception"]) (A := A) (free := A) hx hb hfl hown (by decide +kernel) (by decide +kernel) (hts _ wm674) (hts _ wm24) hsa (xX11_344_hat hts hE) xX11_344_good (EV.un hE) (EV.su hE) hS (hl.1.trans hml.symm) dX11_termAt_12 dX11_termAt_15 dX11_termAt_16 dX11_termAt_19 dX11_termAt_22 (fun x hx => (hout0 x hx).elim) (Nat.le_of_ble_eq_true rfl) (Nat.le_of_ble_eq_true rfl) (Nat.le_of_ble_eq_true rfl) (Nat.le_of_ble_eq_true rfl) hlocks (fun t ha hz hk => ⟨(), trivial, rfl, xF hS hz hk⟩) hS.2.2 (Nat.le_of_ble_eq_true rfl) (Nat.le_of_ble_eq_true rfl)
  · have t_4 := i_nlt c_1
    have kk_5 : ((0 : Int32)).toInt = 0 := by decide
    refine lv_iload_n hx hb dX11_termAt_4 rfl (lv_at hl 1 rfl) ?_
    refine lv_aload_n hx hb dX11_termAt_5 rfl (lv_at hl 0 rfl) ?_
    refine va_get (D := DG G) (ci := 10) (v := .int 0) (C := RX11) (T := TX11) (N := 10) hx hb hts inW_X11 hown hK hP 0 rfl rfl 8 (by decide) (hts _ wm307) (fun _ h9 => h9) rfl dX11_termAt_6 ?_
    refine lv_icmp_lt (tgt := 23) hx hb dX11_termAt_9 (by decide) (fun c_6 => ?_) (fun c_6 => ?_)
    · have t_7 := i_lt c_6
      have kk_8 : ((0 : Int32)).toInt = 0 := by decide
      exfalso; omega
    · have t_9 := i_nlt c_6
      have kk_10 : ((0 : Int32)).toInt = 0 := by decide
      obtain ⟨sa, hsa⟩ := hE.2.1 _ stm2
      exact vx_throwSW (names := ["java/lang/RuntimeException", "java/lang/Exception"]) (A := A) (free := A) hx hb hfl hown (by decide +kernel) (by decide +kernel) (hts _ wm674) (hts _ wm24) hsa (xX11_344_hat hts hE) xX11_344_good (EV.un hE) (EV.su hE) hS (hl.1.trans hml.symm) dX11_termAt_12 dX11_termAt_15 dX11_termAt_16 dX11_termAt_19 dX11_termAt_22 (fun x hx => (hout0 x hx).elim) (Nat.le_of_ble_eq_true rfl) (Nat.le_of_ble_eq_true rfl) (Nat.le_of_ble_eq_true rfl) (Nat.le_of_ble_eq_true rfl) hlocks (fun t ha hz hk => ⟨(), trivial, rfl, xF hS hz hk⟩) hS.2.2 (Nat.le_of_ble_eq_true rfl) (Nat.le_of_ble_eq_true rfl)
set_option maxHeartbeats 4000000 in
set_option maxRecDepth 100000 in
theorem k_X11_layPair (l : Launch) (hfl : l.stackTraces = false) (G : GC) (h0 : Nat) (p0 : Int32) (p1 : Int32) (p2 : Int32) (t1 : Nat) (f1 : Nat) (s1 : Nat) (d1 : Nat) (y1 : Nat) (g1 : Nat) (m1 : Nat) (n1 : Nat) (sz : Nat) : vx_Met l yX11_layPair (Cond.code yX11_layPair cX11_layPair 6 (some .int) :: W0) ({ frames := 7, cells := 1, slots := 6, locals := 103 }) (va_Pc [.ref h0, .int p0, .int p1, .int p2] (WD G [(h0, .inr (10, [.ref t1, .ref f1, .ref s1, .ref d1, .ref y1, .ref g1, .ref m1, .ref n1, .int 0, .long 0]))] sz)) (va_Qi (S := Unit) (fun _ _ => False) (fun _ _ => True) (va_A [(h0, .inr (10, [.ref t1, .ref f1, .ref s1, .ref d1, .ref y1, .ref g1, .ref m1, .ref n1, .int 0, .long 0]))] sz)) (vx_X (fun _ : Unit => True) (fun (E : String) (_ : Unit) (_ : State) => E = "java/lang/IndexOutOfBoundsException") (va_A [(h0, .inr (10, [.ref t1, .ref f1, .ref s1, .ref d1, .ref y1, .ref g1, .ref m1, .ref n1, .int 0, .long 0]))] sz)) 1 6 (va_A [(h0, .inr (10, [.ref t1, .ref f1, .ref s1, .ref d1, .ref y1, .ref g1, .ref m1, .ref n1, .int 0, .long 0]))] sz) := by
  refine vx_ofW (cc := cX11_layPair) (maxL := 6) (ret := (some .int)) (by decide) rfl ?_
  intro p e s m args below meth c s₁ B hml hout0 hv
  obtain ⟨rfl, hsz, hP, hK, hD0, hE⟩ := hv
  have hx := B.exec
  have hb := B.bytes
  have hr := B.returns
  have hts := w0_tail B.pre
  have hown : s.vm.findClass RX11 = some m.cls := findClass_of_methodNamed B.named
  have hlocks := B.notSynchronized
  subst hsz
  have hD := hD0.self (sz := s.heap.size)
  generalize hAe : va_A [(h0, .inr (10, [.ref t1, .ref f1, .ref s1, .ref d1, .ref y1, .ref g1, .ref m1, .ref n1, .int 0, .long 0]))] s.heap.size = A at hD hE ⊢
  have hA : ∀ q : Nat, s.heap.size ≤ q → A q := fun q h => by rw [← hAe]; exact Or.inr h
  have hS : va_S A s.heap s.heap [] := va_S.rf
  obtain ⟨H, hHe⟩ : ∃ H : Heap, H = s.heap := ⟨_, rfl⟩
  have hP : va_P (DG G) clP1 [(h0, .inr (10, [.ref t1, .ref f1, .ref s1, .ref d1, .ref y1, .ref g1, .ref m1, .ref n1, .int 0, .long 0]))] H := by rw [hHe]; exact hP
  have hS : va_S A s.heap H [] := by rw [hHe]; exact hS
  have hl := lv_entry ([.ref h0, .int p0, .int p1, .int p2]) (n := 6) (Nat.le_of_ble_eq_true rfl)
  rw [lg_entry_eq, ← hHe]
  generalize (lg_sl ([.ref h0, .int p0, .int p1, .int p2]) ++ List.replicate (6 - (lg_sl ([.ref h0, .int p0, .int p1, .int p2])).length) Slot.unset).toArray = ls at hl ⊢
  have hl : lv_has ls 6 [(0, .ref h0), (1, .int p0), (2, .int p1), (3, .int p2)] := hl
  refine lv_aload_n hx hb dX11_layPair_0 rfl (lv_at hl 0 rfl) ?_
  refine lv_iload_n hx hb dX11_layPair_1 rfl (lv_at hl 2 rfl) ?_
  have hFc := va_free (wc := [(h0, .inr (10, [.ref t1, .ref f1, .ref s1, .ref d1, .ref y1, .ref g1, .ref m1, .ref n1, .int 0, .long 0]))]) hD hS hA [0] rfl
  refine vx_calli (vx_runV (As := [.int p1]) (rest := []) ⟨hx, hb, hml, hown, hts⟩ (k_X11_termAt l hfl G h0 p1 t1 f1 s1 d1 y1 g1 m1 n1 H.size) (cwV 1 hts (gV wm670 wm672 ws_p9 wm1 wm673) rfl rfl rfl (by decide +kernel) ⟨Nat.le_of_ble_eq_true rfl, Nat.le_of_ble_eq_true rfl⟩) (pre_v (pre_s hK hP hD hS hE [0] rfl rfl (by decide) hFc) (va_recv hK hP (ci := 10) (q0 := 0) rfl rfl)) rfl rfl hl.1 rfl (lv_room (Nat.le_of_ble_eq_true rfl)) dX11_layPair_2 ⟨Nat.le_of_ble_eq_true rfl, Nat.le_of_ble_eq_true rfl⟩) hS (fun q _ h => hFc q h) hFc (fun q _ h => hFc q h) (fun E ce q9 u t H locs ht hvm hpx hBX hz1 hk1 hS hce hv9 hcl => ?_) (fun r u t H locs ht hvm hw hB hz1 hk1 hS => ?_)
  · have hBX : E = "java/lang/IndexOutOfBoundsException" := hBX
    subst hBX
    exact vx_out (fun x hx => (hout0 x hx).elim) hlocks hce hv9 hcl (fun t2 ht2 _ => ⟨(), trivial, rfl, hS.F ht2⟩) hS.2.2 (Nat.le_of_ble_eq_true rfl) (Nat.le_of_ble_eq_true rfl)
  · exact hw.elim
set_option maxHeartbeats 4000000 in
set_option maxRecDepth 100000 in
theorem k_X11_functions (l : Launch) (hfl : l.stackTraces = false) (G : GC) (h0 : Nat) (p0 : Int32) (p1 : Int32) (t1 : Nat) (f1 : Nat) (s1 : Nat) (d1 : Nat) (y1 : Nat) (g1 : Nat) (m1 : Nat) (n1 : Nat) (sz : Nat) : vx_Met l yX11_functions (Cond.code yX11_functions cX11_functions 3 (some .int) :: W0) ({ frames := 8, cells := 1, slots := 6, locals := 128 }) (va_Pc [.ref h0, .int p0, .int p1] (WD G [(h0, .inr (10, [.ref t1, .ref f1, .ref s1, .ref d1, .ref y1, .ref g1, .ref m1, .ref n1, .int 0, .long 0]))] sz)) (va_Qi (S := Unit) (fun _ _ => False) (fun _ _ => True) (va_A [(h0, .inr (10, [.ref t1, .ref f1, .ref s1, .ref d1, .ref y1, .ref g1, .ref m1, .ref n1, .int 0, .long 0]))] sz)) (vx_X (fun _ : Unit => True) (fun (E : String) (_ : Unit) (_ : State) => E = "java/lang/IndexOutOfBoundsException") (va_A [(h0, .inr (10, [.ref t1, .ref f1, .ref s1, .ref d1, .ref y1, .ref g1, .ref m1, .ref n1, .int 0, .long 0]))] sz)) 1 6 (va_A [(h0, .inr (10, [.ref t1, .ref f1, .ref s1, .ref d1, .ref y1, .ref g1, .ref m1, .ref n1, .int 0, .long 0]))] sz) := by
  refine vx_ofW (cc := cX11_functions) (maxL := 3) (ret := (some .int)) (by decide) rfl ?_
  intro p e s m args below meth c s₁ B hml hout0 hv
  obtain ⟨rfl, hsz, hP, hK, hD0, hE⟩ := hv
  have hx := B.exec
  have hb := B.bytes
  have hr := B.returns
  have hts := w0_tail B.pre
  have hown : s.vm.findClass RX11 = some m.cls := findClass_of_methodNamed B.named
  have hlocks := B.notSynchronized
  subst hsz
  have hD := hD0.self (sz := s.heap.size)
  generalize hAe : va_A [(h0, .inr (10, [.ref t1, .ref f1, .ref s1, .ref d1, .ref y1, .ref g1, .ref m1, .ref n1, .int 0, .long 0]))] s.heap.size = A at hD hE ⊢
  have hA : ∀ q : Nat, s.heap.size ≤ q → A q := fun q h => by rw [← hAe]; exact Or.inr h
  have hS : va_S A s.heap s.heap [] := va_S.rf
  obtain ⟨H, hHe⟩ : ∃ H : Heap, H = s.heap := ⟨_, rfl⟩
  have hP : va_P (DG G) clP1 [(h0, .inr (10, [.ref t1, .ref f1, .ref s1, .ref d1, .ref y1, .ref g1, .ref m1, .ref n1, .int 0, .long 0]))] H := by rw [hHe]; exact hP
  have hS : va_S A s.heap H [] := by rw [hHe]; exact hS
  have hl := lv_entry ([.ref h0, .int p0, .int p1]) (n := 3) (Nat.le_of_ble_eq_true rfl)
  rw [lg_entry_eq, ← hHe]
  generalize (lg_sl ([.ref h0, .int p0, .int p1]) ++ List.replicate (3 - (lg_sl ([.ref h0, .int p0, .int p1])).length) Slot.unset).toArray = ls at hl ⊢
  have hl : lv_has ls 3 [(0, .ref h0), (1, .int p0), (2, .int p1)] := hl
  refine lv_aload_n hx hb dX11_functions_0 rfl (lv_at hl 0 rfl) ?_
  refine lv_iconst (v := 5) hx hb dX11_functions_1 (by decide) ?_
  refine lv_iload_n hx hb dX11_functions_2 rfl (lv_at hl 1 rfl) ?_
  refine lv_iload_n hx hb dX11_functions_3 rfl (lv_at hl 2 rfl) ?_
  have hFc := va_free (wc := [(h0, .inr (10, [.ref t1, .ref f1, .ref s1, .ref d1, .ref y1, .ref g1, .ref m1, .ref n1, .int 0, .long 0]))]) hD hS hA [0] rfl
  refine vx_calli (vx_runV (As := [.int 5, .int p0, .int p1]) (rest := []) ⟨hx, hb, hml, hown, hts⟩ (k_X11_layPair l hfl G h0 5 p0 p1 t1 f1 s1 d1 y1 g1 m1 n1 H.size) (cwV 3 hts (gV wm666 wm668 ws_p8 wm1 wm669) rfl rfl rfl (by decide +kernel) ⟨Nat.le_of_ble_eq_true rfl, Nat.le_of_ble_eq_true rfl⟩) (pre_v (pre_s hK hP hD hS hE [0] rfl rfl (by decide) hFc) (va_recv hK hP (ci := 10) (q0 := 0) rfl rfl)) rfl rfl hl.1 rfl (lv_room (Nat.le_of_ble_eq_true rfl)) dX11_functions_4 ⟨Nat.le_of_ble_eq_true rfl, Nat.le_of_ble_eq_true rfl⟩) hS (fun q _ h => hFc q h) hFc (fun q _ h => hFc q h) (fun E ce q9 u t H locs ht hvm hpx hBX hz1 hk1 hS hce hv9 hcl => ?_) (fun r u t H locs ht hvm hw hB hz1 hk1 hS => ?_)
  · have hBX : E = "java/lang/IndexOutOfBoundsException" := hBX
    subst hBX
    exact vx_out (fun x hx => (hout0 x hx).elim) hlocks hce hv9 hcl (fun t2 ht2 _ => ⟨(), trivial, rfl, hS.F ht2⟩) hS.2.2 (Nat.le_of_ble_eq_true rfl) (Nat.le_of_ble_eq_true rfl)
  · exact hw.elim
set_option maxHeartbeats 4000000 in
set_option maxRecDepth 100000 in
theorem k_X11_lambda (l : Launch) (hfl : l.stackTraces = false) (G : GC) (h0 : Nat) (p0 : Int32) (p1 : Int32) (t1 : Nat) (f1 : Nat) (s1 : Nat) (d1 : Nat) (y1 : Nat) (g1 : Nat) (m1 : Nat) (n1 : Nat) (sz : Nat) : vx_Met l yX11_lambda (Cond.code yX11_lambda cX11_lambda 3 (some .int) :: W0) ({ frames := 8, cells := 1, slots := 6, locals := 128 }) (va_Pc [.ref h0, .int p0, .int p1] (WD G [(h0, .inr (10, [.ref t1, .ref f1, .ref s1, .ref d1, .ref y1, .ref g1, .ref m1, .ref n1, .int 0, .long 0]))] sz)) (va_Qi (S := Unit) (fun _ _ => False) (fun _ _ => True) (va_A [(h0, .inr (10, [.ref t1, .ref f1, .ref s1, .ref d1, .ref y1, .ref g1, .ref m1, .ref n1, .int 0, .long 0]))] sz)) (vx_X (fun _ : Unit => True) (fun (E : String) (_ : Unit) (_ : State) => E = "java/lang/IndexOutOfBoundsException") (va_A [(h0, .inr (10, [.ref t1, .ref f1, .ref s1, .ref d1, .ref y1, .ref g1, .ref m1, .ref n1, .int 0, .long 0]))] sz)) 1 6 (va_A [(h0, .inr (10, [.ref t1, .ref f1, .ref s1, .ref d1, .ref y1, .ref g1, .ref m1, .ref n1, .int 0, .long 0]))] sz) := by
  refine vx_ofW (cc := cX11_lambda) (maxL := 3) (ret := (some .int)) (by decide) rfl ?_
  intro p e s m args below meth c s₁ B hml hout0 hv
  obtain ⟨rfl, hsz, hP, hK, hD0, hE⟩ := hv
  have hx := B.exec
  have hb := B.bytes
  have hr := B.returns
  have hts := w0_tail B.pre
  have hown : s.vm.findClass RX11 = some m.cls := findClass_of_methodNamed B.named
  have hlocks := B.notSynchronized
  subst hsz
  have hD := hD0.self (sz := s.heap.size)
  generalize hAe : va_A [(h0, .inr (10, [.ref t1, .ref f1, .ref s1, .ref d1, .ref y1, .ref g1, .ref m1, .ref n1, .int 0, .long 0]))] s.heap.size = A at hD hE ⊢
  have hA : ∀ q : Nat, s.heap.size ≤ q → A q := fun q h => by rw [← hAe]; exact Or.inr h
  have hS : va_S A s.heap s.heap [] := va_S.rf
  obtain ⟨H, hHe⟩ : ∃ H : Heap, H = s.heap := ⟨_, rfl⟩
  have hP : va_P (DG G) clP1 [(h0, .inr (10, [.ref t1, .ref f1, .ref s1, .ref d1, .ref y1, .ref g1, .ref m1, .ref n1, .int 0, .long 0]))] H := by rw [hHe]; exact hP
  have hS : va_S A s.heap H [] := by rw [hHe]; exact hS
  have hl := lv_entry ([.ref h0, .int p0, .int p1]) (n := 3) (Nat.le_of_ble_eq_true rfl)
  rw [lg_entry_eq, ← hHe]
  generalize (lg_sl ([.ref h0, .int p0, .int p1]) ++ List.replicate (3 - (lg_sl ([.ref h0, .int p0, .int p1])).length) Slot.unset).toArray = ls at hl ⊢
  have hl : lv_has ls 3 [(0, .ref h0), (1, .int p0), (2, .int p1)] := hl
  refine lv_aload_n hx hb dX11_lambda_0 rfl (lv_at hl 0 rfl) ?_
  refine lv_bipush (v := 6) hx hb dX11_lambda_1 (by decide) ?_
  refine lv_iload_n hx hb dX11_lambda_3 rfl (lv_at hl 1 rfl) ?_
  refine lv_iload_n hx hb dX11_lambda_4 rfl (lv_at hl 2 rfl) ?_
  have hFc := va_free (wc := [(h0, .inr (10, [.ref t1, .ref f1, .ref s1, .ref d1, .ref y1, .ref g1, .ref m1, .ref n1, .int 0, .long 0]))]) hD hS hA [0] rfl
  refine vx_calli (vx_runV (As := [.int 6, .int p0, .int p1]) (rest := []) ⟨hx, hb, hml, hown, hts⟩ (k_X11_layPair l hfl G h0 6 p0 p1 t1 f1 s1 d1 y1 g1 m1 n1 H.size) (cwV 3 hts (gV wm666 wm668 ws_p8 wm1 wm669) rfl rfl rfl (by decide +kernel) ⟨Nat.le_of_ble_eq_true rfl, Nat.le_of_ble_eq_true rfl⟩) (pre_v (pre_s hK hP hD hS hE [0] rfl rfl (by decide) hFc) (va_recv hK hP (ci := 10) (q0 := 0) rfl rfl)) rfl rfl hl.1 rfl (lv_room (Nat.le_of_ble_eq_true rfl)) dX11_lambda_5 ⟨Nat.le_of_ble_eq_true rfl, Nat.le_of_ble_eq_true rfl⟩) hS (fun q _ h => hFc q h) hFc (fun q _ h => hFc q h) (fun E ce q9 u t H locs ht hvm hpx hBX hz1 hk1 hS hce hv9 hcl => ?_) (fun r u t H locs ht hvm hw hB hz1 hk1 hS => ?_)
  · have hBX : E = "java/lang/IndexOutOfBoundsException" := hBX
    subst hBX
    exact vx_out (fun x hx => (hout0 x hx).elim) hlocks hce hv9 hcl (fun t2 ht2 _ => ⟨(), trivial, rfl, hS.F ht2⟩) hS.2.2 (Nat.le_of_ble_eq_true rfl) (Nat.le_of_ble_eq_true rfl)
  · exact hw.elim
set_option maxHeartbeats 4000000 in
set_option maxRecDepth 100000 in
theorem k_X11_apply (l : Launch) (hfl : l.stackTraces = false) (G : GC) (h0 : Nat) (p0 : Int32) (p1 : Int32) (t1 : Nat) (f1 : Nat) (s1 : Nat) (d1 : Nat) (y1 : Nat) (g1 : Nat) (m1 : Nat) (n1 : Nat) (sz : Nat) : vx_Met l yX11_apply (Cond.code yX11_apply cX11_apply 3 (some .int) :: W0) ({ frames := 8, cells := 1, slots := 6, locals := 128 }) (va_Pc [.ref h0, .int p0, .int p1] (WD G [(h0, .inr (10, [.ref t1, .ref f1, .ref s1, .ref d1, .ref y1, .ref g1, .ref m1, .ref n1, .int 0, .long 0]))] sz)) (va_Qi (S := Unit) (fun _ _ => False) (fun _ _ => True) (va_A [(h0, .inr (10, [.ref t1, .ref f1, .ref s1, .ref d1, .ref y1, .ref g1, .ref m1, .ref n1, .int 0, .long 0]))] sz)) (vx_X (fun _ : Unit => True) (fun (E : String) (_ : Unit) (_ : State) => E = "java/lang/IndexOutOfBoundsException") (va_A [(h0, .inr (10, [.ref t1, .ref f1, .ref s1, .ref d1, .ref y1, .ref g1, .ref m1, .ref n1, .int 0, .long 0]))] sz)) 1 6 (va_A [(h0, .inr (10, [.ref t1, .ref f1, .ref s1, .ref d1, .ref y1, .ref g1, .ref m1, .ref n1, .int 0, .long 0]))] sz) := by
  refine vx_ofW (cc := cX11_apply) (maxL := 3) (ret := (some .int)) (by decide) rfl ?_
  intro p e s m args below meth c s₁ B hml hout0 hv
  obtain ⟨rfl, hsz, hP, hK, hD0, hE⟩ := hv
  have hx := B.exec
  have hb := B.bytes
  have hr := B.returns
  have hts := w0_tail B.pre
  have hown : s.vm.findClass RX11 = some m.cls := findClass_of_methodNamed B.named
  have hlocks := B.notSynchronized
  subst hsz
  have hD := hD0.self (sz := s.heap.size)
  generalize hAe : va_A [(h0, .inr (10, [.ref t1, .ref f1, .ref s1, .ref d1, .ref y1, .ref g1, .ref m1, .ref n1, .int 0, .long 0]))] s.heap.size = A at hD hE ⊢
  have hA : ∀ q : Nat, s.heap.size ≤ q → A q := fun q h => by rw [← hAe]; exact Or.inr h
  have hS : va_S A s.heap s.heap [] := va_S.rf
  obtain ⟨H, hHe⟩ : ∃ H : Heap, H = s.heap := ⟨_, rfl⟩
  have hP : va_P (DG G) clP1 [(h0, .inr (10, [.ref t1, .ref f1, .ref s1, .ref d1, .ref y1, .ref g1, .ref m1, .ref n1, .int 0, .long 0]))] H := by rw [hHe]; exact hP
  have hS : va_S A s.heap H [] := by rw [hHe]; exact hS
  have hl := lv_entry ([.ref h0, .int p0, .int p1]) (n := 3) (Nat.le_of_ble_eq_true rfl)
  rw [lg_entry_eq, ← hHe]
  generalize (lg_sl ([.ref h0, .int p0, .int p1]) ++ List.replicate (3 - (lg_sl ([.ref h0, .int p0, .int p1])).length) Slot.unset).toArray = ls at hl ⊢
  have hl : lv_has ls 3 [(0, .ref h0), (1, .int p0), (2, .int p1)] := hl
  refine lv_aload_n hx hb dX11_apply_0 rfl (lv_at hl 0 rfl) ?_
  refine lv_bipush (v := 7) hx hb dX11_apply_1 (by decide) ?_
  refine lv_iload_n hx hb dX11_apply_3 rfl (lv_at hl 1 rfl) ?_
  refine lv_iload_n hx hb dX11_apply_4 rfl (lv_at hl 2 rfl) ?_
  have hFc := va_free (wc := [(h0, .inr (10, [.ref t1, .ref f1, .ref s1, .ref d1, .ref y1, .ref g1, .ref m1, .ref n1, .int 0, .long 0]))]) hD hS hA [0] rfl
  refine vx_calli (vx_runV (As := [.int 7, .int p0, .int p1]) (rest := []) ⟨hx, hb, hml, hown, hts⟩ (k_X11_layPair l hfl G h0 7 p0 p1 t1 f1 s1 d1 y1 g1 m1 n1 H.size) (cwV 3 hts (gV wm666 wm668 ws_p8 wm1 wm669) rfl rfl rfl (by decide +kernel) ⟨Nat.le_of_ble_eq_true rfl, Nat.le_of_ble_eq_true rfl⟩) (pre_v (pre_s hK hP hD hS hE [0] rfl rfl (by decide) hFc) (va_recv hK hP (ci := 10) (q0 := 0) rfl rfl)) rfl rfl hl.1 rfl (lv_room (Nat.le_of_ble_eq_true rfl)) dX11_apply_5 ⟨Nat.le_of_ble_eq_true rfl, Nat.le_of_ble_eq_true rfl⟩) hS (fun q _ h => hFc q h) hFc (fun q _ h => hFc q h) (fun E ce q9 u t H locs ht hvm hpx hBX hz1 hk1 hS hce hv9 hcl => ?_) (fun r u t H locs ht hvm hw hB hz1 hk1 hS => ?_)
  · have hBX : E = "java/lang/IndexOutOfBoundsException" := hBX
    subst hBX
    exact vx_out (fun x hx => (hout0 x hx).elim) hlocks hce hv9 hcl (fun t2 ht2 _ => ⟨(), trivial, rfl, hS.F ht2⟩) hS.2.2 (Nat.le_of_ble_eq_true rfl) (Nat.le_of_ble_eq_true rfl)
  · exact hw.elim
set_option maxHeartbeats 4000000 in
set_option maxRecDepth 100000 in
theorem k_X7_hasData (l : Launch) (hfl : l.stackTraces = false) (G : GC) (s1 : Nat) (p0 : Int32) (sf0 : Nat) (sf1 : Nat) (sf2 : Nat) (sf3 : Nat) (sf4 : Nat) (sf5 : Nat) (sf6 : Nat) (sf7 : Nat) (sz : Nat) : Met l yX7_hasData (Cond.code yX7_hasData cX7_hasData 2 (some .boolean) :: W0) ({ frames := 0, cells := 0, slots := 0, locals := 0 }) (va_Pc [.ref s1, .int p0] (WD G [(s1, .inr (6, [.ref sf0, .ref sf1, .ref sf2, .ref sf3, .ref sf4, .ref sf5, .ref sf6, .ref sf7, .int 0, .int 0]))] sz)) (va_Qi (fun (r : Int32) (_ : Unit) => r = 0) (fun _ t => PW G (va_A [(s1, .inr (6, [.ref sf0, .ref sf1, .ref sf2, .ref sf3, .ref sf4, .ref sf5, .ref sf6, .ref sf7, .int 0, .int 0]))] sz) [(s1, .inr (6, [.ref sf0, .ref sf1, .ref sf2, .ref sf3, .ref sf4, .ref sf5, .ref sf6, .ref sf7, .int 0, .int 0]))] t) (va_A [(s1, .inr (6, [.ref sf0, .ref sf1, .ref sf2, .ref sf3, .ref sf4, .ref sf5, .ref sf6, .ref sf7, .int 0, .int 0]))] sz)) 0 0 (va_A [(s1, .inr (6, [.ref sf0, .ref sf1, .ref sf2, .ref sf3, .ref sf4, .ref sf5, .ref sf6, .ref sf7, .int 0, .int 0]))] sz) := by
  refine Met.ofW (cc := cX7_hasData) (maxL := 2) (ret := (some .boolean)) (by decide) rfl ?_
  intro p e s m args below meth c s₁ B hml hv
  obtain ⟨rfl, hsz, hP, hK, hD0, hE⟩ := hv
  have hx := B.exec
  have hb := B.bytes
  have hr := B.returns
  have hts := w0_tail B.pre
  have hown : s.vm.findClass RX7 = some m.cls := findClass_of_methodNamed B.named
  have hlocks := B.notSynchronized
  subst hsz
  have hD := hD0.self (sz := s.heap.size)
  generalize hAe : va_A [(s1, .inr (6, [.ref sf0, .ref sf1, .ref sf2, .ref sf3, .ref sf4, .ref sf5, .ref sf6, .ref sf7, .int 0, .int 0]))] s.heap.size = A at hD hE ⊢
  have hA : ∀ q : Nat, s.heap.size ≤ q → A q := fun q h => by rw [← hAe]; exact Or.inr h
  have hS : va_S A s.heap s.heap [] := va_S.rf
  obtain ⟨H, hHe⟩ : ∃ H : Heap, H = s.heap := ⟨_, rfl⟩
  have hP : va_P (DG G) clP1 [(s1, .inr (6, [.ref sf0, .ref sf1, .ref sf2, .ref sf3, .ref sf4, .ref sf5, .ref sf6, .ref sf7, .int 0, .int 0]))] H := by rw [hHe]; exact hP
  have hS : va_S A s.heap H [] := by rw [hHe]; exact hS
  have hl := lv_entry ([.ref s1, .int p0]) (n := 2) (Nat.le_of_ble_eq_true rfl)
  rw [lg_entry_eq, ← hHe]
  generalize (lg_sl ([.ref s1, .int p0]) ++ List.replicate (2 - (lg_sl ([.ref s1, .int p0])).length) Slot.unset).toArray = ls at hl ⊢
  have hl : lv_has ls 2 [(0, .ref s1), (1, .int p0)] := hl
  refine lv_iload_n hx hb dX7_hasData_0 rfl (lv_at hl 1 rfl) ?_
  refine lv_if_lt (tgt := 16) hx hb dX7_hasData_1 (by decide) (fun c_1 => ?_) (fun c_1 => ?_)
  · have t_2 := i_lt c_1
    have kk_3 : ((0 : Int32)).toInt = 0 := by decide
    refine lv_iconst (v := 0) hx hb dX7_hasData_16 (by decide) ?_
    have hP9 := hP.sub (ws' := [(s1, .inr (6, [.ref sf0, .ref sf1, .ref sf2, .ref sf3, .ref sf4, .ref sf5, .ref sf6, .ref sf7, .int 0, .int 0]))]) [0] rfl
    have hD9 := hD.sub (ws' := [(s1, .inr (6, [.ref sf0, .ref sf1, .ref sf2, .ref sf3, .ref sf4, .ref sf5, .ref sf6, .ref sf7, .int 0, .int 0]))]) [0] (by decide) rfl
    refine W.widen (k := 0) (n := 0) (Nat.le_of_ble_eq_true rfl) (Nat.le_of_ble_eq_true rfl) ?_
    exact W.zret (v := 0) (ty := .boolean) hx hb hr (by decide) (fun t ht hW => ⟨⟨0, (), rfl, rfl, ⟨by rw [ht]; exact hP9, hD9⟩⟩, hS.F ht⟩) hS.2.2 dX7_hasData_17 hlocks
  · have t_4 := i_nlt c_1
    have kk_5 : ((0 : Int32)).toInt = 0 := by decide
    refine lv_iload_n hx hb dX7_hasData_4 rfl (lv_at hl 1 rfl) ?_
    refine lv_aload_n hx hb dX7_hasData_5 rfl (lv_at hl 0 rfl) ?_
    refine va_get (D := DG G) (ci := 6) (v := .int 0) (C := RX7) (T := TX7) (N := 10) hx hb hts inW_X7 hown hK hP 0 rfl rfl 8 (by decide) (hts _ wm118) (fun _ h9 => h9) rfl dX7_hasData_6 ?_
    refine lv_icmp_ge (tgt := 16) hx hb dX7_hasData_9 (by decide) (fun c_6 => ?_) (fun c_6 => ?_)
    · have t_7 := i_le c_6
      have kk_8 : ((0 : Int32)).toInt = 0 := by decide
      refine lv_iconst (v := 0) hx hb dX7_hasData_16 (by decide) ?_
      have hP9 := hP.sub (ws' := [(s1, .inr (6, [.ref sf0, .ref sf1, .ref sf2, .ref sf3, .ref sf4, .ref sf5, .ref sf6, .ref sf7, .int 0, .int 0]))]) [0] rfl
      have hD9 := hD.sub (ws' := [(s1, .inr (6, [.ref sf0, .ref sf1, .ref sf2, .ref sf3, .ref sf4, .ref sf5, .ref sf6, .ref sf7, .int 0, .int 0]))]) [0] (by decide) rfl
      refine W.widen (k := 0) (n := 0) (Nat.le_of_ble_eq_true rfl) (Nat.le_of_ble_eq_true rfl) ?_
      exact W.zret (v := 0) (ty := .boolean) hx hb hr (by decide) (fun t ht hW => ⟨⟨0, (), rfl, rfl, ⟨by rw [ht]; exact hP9, hD9⟩⟩, hS.F ht⟩) hS.2.2 dX7_hasData_17 hlocks
    · have t_9 := i_nle c_6
      have kk_10 : ((0 : Int32)).toInt = 0 := by decide
      exfalso; omega
set_option maxHeartbeats 4000000 in
set_option maxRecDepth 100000 in
theorem k_X7_hasConstructor (l : Launch) (hfl : l.stackTraces = false) (G : GC) (s1 : Nat) (p0 : Int32) (sf0 : Nat) (sf1 : Nat) (sf2 : Nat) (sf3 : Nat) (sf4 : Nat) (sf5 : Nat) (sf6 : Nat) (sf7 : Nat) (sz : Nat) : Met l yX7_hasConstructor (Cond.code yX7_hasConstructor cX7_hasConstructor 2 (some .boolean) :: W0) ({ frames := 0, cells := 0, slots := 0, locals := 0 }) (va_Pc [.ref s1, .int p0] (WD G [(s1, .inr (6, [.ref sf0, .ref sf1, .ref sf2, .ref sf3, .ref sf4, .ref sf5, .ref sf6, .ref sf7, .int 0, .int 0]))] sz)) (va_Qi (fun (r : Int32) (_ : Unit) => r = 0) (fun _ t => PW G (va_A [(s1, .inr (6, [.ref sf0, .ref sf1, .ref sf2, .ref sf3, .ref sf4, .ref sf5, .ref sf6, .ref sf7, .int 0, .int 0]))] sz) [(s1, .inr (6, [.ref sf0, .ref sf1, .ref sf2, .ref sf3, .ref sf4, .ref sf5, .ref sf6, .ref sf7, .int 0, .int 0]))] t) (va_A [(s1, .inr (6, [.ref sf0, .ref sf1, .ref sf2, .ref sf3, .ref sf4, .ref sf5, .ref sf6, .ref sf7, .int 0, .int 0]))] sz)) 0 0 (va_A [(s1, .inr (6, [.ref sf0, .ref sf1, .ref sf2, .ref sf3, .ref sf4, .ref sf5, .ref sf6, .ref sf7, .int 0, .int 0]))] sz) := by
  refine Met.ofW (cc := cX7_hasConstructor) (maxL := 2) (ret := (some .boolean)) (by decide) rfl ?_
  intro p e s m args below meth c s₁ B hml hv
  obtain ⟨rfl, hsz, hP, hK, hD0, hE⟩ := hv
  have hx := B.exec
  have hb := B.bytes
  have hr := B.returns
  have hts := w0_tail B.pre
  have hown : s.vm.findClass RX7 = some m.cls := findClass_of_methodNamed B.named
  have hlocks := B.notSynchronized
  subst hsz
  have hD := hD0.self (sz := s.heap.size)
  generalize hAe : va_A [(s1, .inr (6, [.ref sf0, .ref sf1, .ref sf2, .ref sf3, .ref sf4, .ref sf5, .ref sf6, .ref sf7, .int 0, .int 0]))] s.heap.size = A at hD hE ⊢
  have hA : ∀ q : Nat, s.heap.size ≤ q → A q := fun q h => by rw [← hAe]; exact Or.inr h
  have hS : va_S A s.heap s.heap [] := va_S.rf
  obtain ⟨H, hHe⟩ : ∃ H : Heap, H = s.heap := ⟨_, rfl⟩
  have hP : va_P (DG G) clP1 [(s1, .inr (6, [.ref sf0, .ref sf1, .ref sf2, .ref sf3, .ref sf4, .ref sf5, .ref sf6, .ref sf7, .int 0, .int 0]))] H := by rw [hHe]; exact hP
  have hS : va_S A s.heap H [] := by rw [hHe]; exact hS
  have hl := lv_entry ([.ref s1, .int p0]) (n := 2) (Nat.le_of_ble_eq_true rfl)
  rw [lg_entry_eq, ← hHe]
  generalize (lg_sl ([.ref s1, .int p0]) ++ List.replicate (2 - (lg_sl ([.ref s1, .int p0])).length) Slot.unset).toArray = ls at hl ⊢
  have hl : lv_has ls 2 [(0, .ref s1), (1, .int p0)] := hl
  refine lv_iload_n hx hb dX7_hasConstructor_0 rfl (lv_at hl 1 rfl) ?_
  refine lv_if_lt (tgt := 16) hx hb dX7_hasConstructor_1 (by decide) (fun c_1 => ?_) (fun c_1 => ?_)
  · have t_2 := i_lt c_1
    have kk_3 : ((0 : Int32)).toInt = 0 := by decide
    refine lv_iconst (v := 0) hx hb dX7_hasConstructor_16 (by decide) ?_
    have hP9 := hP.sub (ws' := [(s1, .inr (6, [.ref sf0, .ref sf1, .ref sf2, .ref sf3, .ref sf4, .ref sf5, .ref sf6, .ref sf7, .int 0, .int 0]))]) [0] rfl
    have hD9 := hD.sub (ws' := [(s1, .inr (6, [.ref sf0, .ref sf1, .ref sf2, .ref sf3, .ref sf4, .ref sf5, .ref sf6, .ref sf7, .int 0, .int 0]))]) [0] (by decide) rfl
    refine W.widen (k := 0) (n := 0) (Nat.le_of_ble_eq_true rfl) (Nat.le_of_ble_eq_true rfl) ?_
    exact W.zret (v := 0) (ty := .boolean) hx hb hr (by decide) (fun t ht hW => ⟨⟨0, (), rfl, rfl, ⟨by rw [ht]; exact hP9, hD9⟩⟩, hS.F ht⟩) hS.2.2 dX7_hasConstructor_17 hlocks
  · have t_4 := i_nlt c_1
    have kk_5 : ((0 : Int32)).toInt = 0 := by decide
    refine lv_iload_n hx hb dX7_hasConstructor_4 rfl (lv_at hl 1 rfl) ?_
    refine lv_aload_n hx hb dX7_hasConstructor_5 rfl (lv_at hl 0 rfl) ?_
    refine va_get (D := DG G) (ci := 6) (v := .int 0) (C := RX7) (T := TX7) (N := 10) hx hb hts inW_X7 hown hK hP 0 rfl rfl 9 (by decide) (hts _ wm120) (fun _ h9 => h9) rfl dX7_hasConstructor_6 ?_
    refine lv_icmp_ge (tgt := 16) hx hb dX7_hasConstructor_9 (by decide) (fun c_6 => ?_) (fun c_6 => ?_)
    · have t_7 := i_le c_6
      have kk_8 : ((0 : Int32)).toInt = 0 := by decide
      refine lv_iconst (v := 0) hx hb dX7_hasConstructor_16 (by decide) ?_
      have hP9 := hP.sub (ws' := [(s1, .inr (6, [.ref sf0, .ref sf1, .ref sf2, .ref sf3, .ref sf4, .ref sf5, .ref sf6, .ref sf7, .int 0, .int 0]))]) [0] rfl
      have hD9 := hD.sub (ws' := [(s1, .inr (6, [.ref sf0, .ref sf1, .ref sf2, .ref sf3, .ref sf4, .ref sf5, .ref sf6, .ref sf7, .int 0, .int 0]))]) [0] (by decide) rfl
      refine W.widen (k := 0) (n := 0) (Nat.le_of_ble_eq_true rfl) (Nat.le_of_ble_eq_true rfl) ?_
      exact W.zret (v := 0) (ty := .boolean) hx hb hr (by decide) (fun t ht hW => ⟨⟨0, (), rfl, rfl, ⟨by rw [ht]; exact hP9, hD9⟩⟩, hS.F ht⟩) hS.2.2 dX7_hasConstructor_17 hlocks
    · have t_9 := i_nle c_6
      have kk_10 : ((0 : Int32)).toInt = 0 := by decide
      exfalso; omega
set_option maxHeartbeats 4000000 in
set_option maxRecDepth 100000 in
theorem k_X7_enterData (l : Launch) (hfl : l.stackTraces = false) (G : GC) (s1 : Nat) (sf0 : Nat) (sf1 : Nat) (sf2 : Nat) (sf3 : Nat) (sf4 : Nat) (sf5 : Nat) (sf6 : Nat) (sf7 : Nat) (sz : Nat) : Met l yX7_enterData (Cond.code yX7_enterData cX7_enterData 1 (some .int) :: W0) ({ frames := 0, cells := 0, slots := 0, locals := 0 }) (va_Pc [.ref s1] (WD G [(s1, .inr (6, [.ref sf0, .ref sf1, .ref sf2, .ref sf3, .ref sf4, .ref sf5, .ref sf6, .ref sf7, .int 0, .int 0]))] sz)) (va_Qi (fun (r : Int32) (_ : Unit) => r = 0) (fun _ t => PW G (va_A [(s1, .inr (6, [.ref sf0, .ref sf1, .ref sf2, .ref sf3, .ref sf4, .ref sf5, .ref sf6, .ref sf7, .int 0, .int 0]))] sz) [] t) (va_A [(s1, .inr (6, [.ref sf0, .ref sf1, .ref sf2, .ref sf3, .ref sf4, .ref sf5, .ref sf6, .ref sf7, .int 0, .int 0]))] sz)) 0 0 (va_A [(s1, .inr (6, [.ref sf0, .ref sf1, .ref sf2, .ref sf3, .ref sf4, .ref sf5, .ref sf6, .ref sf7, .int 0, .int 0]))] sz) := by
  refine Met.ofW (cc := cX7_enterData) (maxL := 1) (ret := (some .int)) (by decide) rfl ?_
  intro p e s m args below meth c s₁ B hml hv
  obtain ⟨rfl, hsz, hP, hK, hD0, hE⟩ := hv
  have hx := B.exec
  have hb := B.bytes
  have hr := B.returns
  have hts := w0_tail B.pre
  have hown : s.vm.findClass RX7 = some m.cls := findClass_of_methodNamed B.named
  have hlocks := B.notSynchronized
  subst hsz
  have hD := hD0.self (sz := s.heap.size)
  generalize hAe : va_A [(s1, .inr (6, [.ref sf0, .ref sf1, .ref sf2, .ref sf3, .ref sf4, .ref sf5, .ref sf6, .ref sf7, .int 0, .int 0]))] s.heap.size = A at hD hE ⊢
  have hA : ∀ q : Nat, s.heap.size ≤ q → A q := fun q h => by rw [← hAe]; exact Or.inr h
  have hS : va_S A s.heap s.heap [] := va_S.rf
  obtain ⟨H, hHe⟩ : ∃ H : Heap, H = s.heap := ⟨_, rfl⟩
  have hP : va_P (DG G) clP1 [(s1, .inr (6, [.ref sf0, .ref sf1, .ref sf2, .ref sf3, .ref sf4, .ref sf5, .ref sf6, .ref sf7, .int 0, .int 0]))] H := by rw [hHe]; exact hP
  have hS : va_S A s.heap H [] := by rw [hHe]; exact hS
  have hl := lv_entry ([.ref s1]) (n := 1) (Nat.le_of_ble_eq_true rfl)
  rw [lg_entry_eq, ← hHe]
  generalize (lg_sl ([.ref s1]) ++ List.replicate (1 - (lg_sl ([.ref s1])).length) Slot.unset).toArray = ls at hl ⊢
  have hl : lv_has ls 1 [(0, .ref s1)] := hl
  refine lv_aload_n hx hb dX7_enterData_0 rfl (lv_at hl 0 rfl) ?_
  refine lv_dup hx hb dX7_enterData_1 rfl ?_
  refine va_get (D := DG G) (ci := 6) (v := .int 0) (C := RX7) (T := TX7) (N := 10) hx hb hts inW_X7 hown hK hP 0 rfl rfl 8 (by decide) (hts _ wm118) (fun _ h9 => h9) rfl dX7_enterData_2 ?_
  refine lv_iconst (v := 1) hx hb dX7_enterData_5 (by decide) ?_
  refine lv_iadd hx hb dX7_enterData_6 ?_
  refine lv_topi (fun z_1 ez_1 => ?_)
  obtain rfl : z_1 = 1 := ez_1.trans (by decide)
  refine va_put (D := DG G) (ci := 6) (v := .int 1) (ty := tyX7 8) (C := RX7) (T := TX7) (N := 10) hx hb hts inW_X7 tyX7 tyX7_ok nmX7 hown hK hP hD hS 0 rfl rfl 8 (by decide) (hts _ wm118) (fun _ h9 => h9) rfl (by decide +kernel) rfl rfl (Nat.le_of_ble_eq_true rfl) dX7_enterData_7 (fun H locs hP hD hS => ?_)
  have hP : va_P (DG G) clP1 [(s1, .inr (6, [.ref sf0, .ref sf1, .ref sf2, .ref sf3, .ref sf4, .ref sf5, .ref sf6, .ref sf7, .int 1, .int 0]))] H := hP
  have hD : va_D A [(s1, .inr (6, [.ref sf0, .ref sf1, .ref sf2, .ref sf3, .ref sf4, .ref sf5, .ref sf6, .ref sf7, .int 1, .int 0]))] := hD
  refine lv_aload_n hx hb dX7_enterData_10 rfl (lv_at hl 0 rfl) ?_
  refine va_get (D := DG G) (ci := 6) (v := .int 1) (C := RX7) (T := TX7) (N := 10) hx hb hts inW_X7 hown hK hP 0 rfl rfl 8 (by decide) (hts _ wm118) (fun _ h9 => h9) rfl dX7_enterData_11 ?_
  refine lv_iconst (v := 1) hx hb dX7_enterData_14 (by decide) ?_
  refine lv_isub hx hb dX7_enterData_15 ?_
  refine lv_topi (fun z_2 ez_2 => ?_)
  obtain rfl : z_2 = 0 := ez_2.trans (by decide)
  have hP9 := hP.sub (ws' := []) [] rfl
  have hD9 := hD.sub (ws' := []) [] (by decide) rfl
  refine W.widen (k := 0) (n := 0) (Nat.le_of_ble_eq_true rfl) (Nat.le_of_ble_eq_true rfl) ?_
  exact W.iret (v := 0) hx hb hr (fun t ht hW => ⟨⟨0, (), rfl, rfl, ⟨by rw [ht]; exact hP9, hD9⟩⟩, hS.F ht⟩) hS.2.2 dX7_enterData_16 hlocks
set_option maxHeartbeats 4000000 in
set_option maxRecDepth 100000 in
theorem k_X11_dataNode (l : Launch) (hfl : l.stackTraces = false) (G : GC) (h0 : Nat) (p0 : Int32) (t1 : Nat) (f1 : Nat) (s1 : Nat) (d1 : Nat) (y1 : Nat) (g1 : Nat) (m1 : Nat) (n1 : Nat) (sf0 : Nat) (sf1 : Nat) (sf2 : Nat) (sf3 : Nat) (sf4 : Nat) (sf5 : Nat) (sf6 : Nat) (sf7 : Nat) (sz : Nat) : vx_Met l yX11_dataNode (Cond.code yX11_dataNode cX11_dataNode 2 (some .int) :: W0) ({ frames := 6, cells := 1, slots := 6, locals := 82 }) (va_Pc [.ref h0, .int p0] (WD G [(h0, .inr (10, [.ref t1, .ref f1, .ref s1, .ref d1, .ref y1, .ref g1, .ref m1, .ref n1, .int 0, .long 0])), (s1, .inr (6, [.ref sf0, .ref sf1, .ref sf2, .ref sf3, .ref sf4, .ref sf5, .ref sf6, .ref sf7, .int 0, .int 0]))] sz)) (va_Qi (S := Unit) (fun _ _ => False) (fun _ _ => True) (va_A [(h0, .inr (10, [.ref t1, .ref f1, .ref s1, .ref d1, .ref y1, .ref g1, .ref m1, .ref n1, .int 0, .long 0])), (s1, .inr (6, [.ref sf0, .ref sf1, .ref sf2, .ref sf3, .ref sf4, .ref sf5, .ref sf6, .ref sf7, .int 0, .int 0]))] sz)) (vx_X (fun _ : Unit => True) (fun (E : String) (_ : Unit) (_ : State) => E = "java/util/NoSuchElementException") (va_A [(h0, .inr (10, [.ref t1, .ref f1, .ref s1, .ref d1, .ref y1, .ref g1, .ref m1, .ref n1, .int 0, .long 0])), (s1, .inr (6, [.ref sf0, .ref sf1, .ref sf2, .ref sf3, .ref sf4, .ref sf5, .ref sf6, .ref sf7, .int 0, .int 0]))] sz)) 1 6 (va_A [(h0, .inr (10, [.ref t1, .ref f1, .ref s1, .ref d1, .ref y1, .ref g1, .ref m1, .ref n1, .int 0, .long 0])), (s1, .inr (6, [.ref sf0, .ref sf1, .ref sf2, .ref sf3, .ref sf4, .ref sf5, .ref sf6, .ref sf7, .int 0, .int 0]))] sz) := by
  refine vx_ofW (cc := cX11_dataNode) (maxL := 2) (ret := (some .int)) (by decide) rfl ?_
  intro p e s m args below meth c s₁ B hml hout0 hv
  obtain ⟨rfl, hsz, hP, hK, hD0, hE⟩ := hv
  have hx := B.exec
  have hb := B.bytes
  have hr := B.returns
  have hts := w0_tail B.pre
  have hown : s.vm.findClass RX11 = some m.cls := findClass_of_methodNamed B.named
  have hlocks := B.notSynchronized
  subst hsz
  have hD := hD0.self (sz := s.heap.size)
  generalize hAe : va_A [(h0, .inr (10, [.ref t1, .ref f1, .ref s1, .ref d1, .ref y1, .ref g1, .ref m1, .ref n1, .int 0, .long 0])), (s1, .inr (6, [.ref sf0, .ref sf1, .ref sf2, .ref sf3, .ref sf4, .ref sf5, .ref sf6, .ref sf7, .int 0, .int 0]))] s.heap.size = A at hD hE ⊢
  have hA : ∀ q : Nat, s.heap.size ≤ q → A q := fun q h => by rw [← hAe]; exact Or.inr h
  have hS : va_S A s.heap s.heap [] := va_S.rf
  obtain ⟨H, hHe⟩ : ∃ H : Heap, H = s.heap := ⟨_, rfl⟩
  have hP : va_P (DG G) clP1 [(h0, .inr (10, [.ref t1, .ref f1, .ref s1, .ref d1, .ref y1, .ref g1, .ref m1, .ref n1, .int 0, .long 0])), (s1, .inr (6, [.ref sf0, .ref sf1, .ref sf2, .ref sf3, .ref sf4, .ref sf5, .ref sf6, .ref sf7, .int 0, .int 0]))] H := by rw [hHe]; exact hP
  have hS : va_S A s.heap H [] := by rw [hHe]; exact hS
  have hl := lv_entry ([.ref h0, .int p0]) (n := 2) (Nat.le_of_ble_eq_true rfl)
  rw [lg_entry_eq, ← hHe]
  generalize (lg_sl ([.ref h0, .int p0]) ++ List.replicate (2 - (lg_sl ([.ref h0, .int p0])).length) Slot.unset).toArray = ls at hl ⊢
  have hl : lv_has ls 2 [(0, .ref h0), (1, .int p0)] := hl
  refine lv_aload_n hx hb dX11_dataNode_0 rfl (lv_at hl 0 rfl) ?_
  refine va_get (D := DG G) (ci := 10) (v := .ref s1) (C := RX11) (T := TX11) (N := 10) hx hb hts inW_X11 hown hK hP 0 rfl rfl 2 (by decide) (hts _ wm301) (fun _ h9 => h9) rfl dX11_dataNode_1 ?_
  refine lv_iload_n hx hb dX11_dataNode_4 rfl (lv_at hl 1 rfl) ?_
  have hFc := va_free (wc := [(s1, .inr (6, [.ref sf0, .ref sf1, .ref sf2, .ref sf3, .ref sf4, .ref sf5, .ref sf6, .ref sf7, .int 0, .int 0]))]) hD hS hA [1] rfl
  refine va_calli (va_runV (As := [.int p0]) (rest := []) ⟨hx, hb, hml, hown, hts⟩ (k_X7_hasData l hfl G s1 p0 sf0 sf1 sf2 sf3 sf4 sf5 sf6 sf7 H.size) (cwV 1 hts (gV wm712 wm713 wm714 wm4 wm715) rfl rfl rfl (by decide +kernel) ⟨Nat.le_of_ble_eq_true rfl, Nat.le_of_ble_eq_true rfl⟩) (pre_v (pre_s hK hP hD hS hE [1] rfl rfl (by decide) hFc) (va_recv hK hP (ci := 6) (q0 := 1) rfl rfl)) rfl rfl hl.1 rfl (lv_room (Nat.le_of_ble_eq_true rfl)) dX11_dataNode_5 ⟨Nat.le_of_ble_eq_true rfl, Nat.le_of_ble_eq_true rfl⟩) hS (fun q _ h => hFc q h) hFc (fun r u t H locs ht hvm hw hB hz1 hk1 hS => ?_)
  obtain rfl : r = 0 := hw
  obtain ⟨hP1, hD1⟩ := hB
  rw [ht] at hP1
  obtain ⟨hP, hD⟩ := va_join (wr := [(h0, .inr (10, [.ref t1, .ref f1, .ref s1, .ref d1, .ref y1, .ref g1, .ref m1, .ref n1, .int 0, .long 0]))]) (w1 := [(s1, .inr (6, [.ref sf0, .ref sf1, .ref sf2, .ref sf3, .ref sf4, .ref sf5, .ref sf6, .ref sf7, .int 0, .int 0]))]) hP hD [1] [0] rfl rfl (by decide) (by decide) hk1 hFc hP1 hD1
  have hP : va_P (DG G) clP1 [(h0, .inr (10, [.ref t1, .ref f1, .ref s1, .ref d1, .ref y1, .ref g1, .ref m1, .ref n1, .int 0, .long 0])), (s1, .inr (6, [.ref sf0, .ref sf1, .ref sf2, .ref sf3, .ref sf4, .ref sf5, .ref sf6, .ref sf7, .int 0, .int 0]))] H := hP
  have hD : va_D A [(h0, .inr (10, [.ref t1, .ref f1, .ref s1, .ref d1, .ref y1, .ref g1, .ref m1, .ref n1, .int 0, .long 0])), (s1, .inr (6, [.ref sf0, .ref sf1, .ref sf2, .ref sf3, .ref sf4, .ref sf5, .ref sf6, .ref sf7, .int 0, .int 0]))] := hD
  refine W.widen (k := 0) (n := 0) (Nat.le_of_ble_eq_true rfl) (Nat.le_of_ble_eq_true rfl) ?_
  refine lv_if_ne (tgt := 21) hx hb dX11_dataNode_8 (by decide) (fun c => absurd (by decide) c) (fun _ => ?_)
  obtain ⟨sa, hsa⟩ := hE.2.1 _ stm3
  exact tx_throwSW (Y1 := "java/lang/RuntimeException") (r := ["java/lang/Exception"]) (ix := 13) (rx := prog_43_method_4_code) (A := A) (free := A) hx hb hfl (by decide +kernel) (by decide +kernel) (by decide +kernel) (by decide +kernel) hown (by decide +kernel) (by decide +kernel) (by decide +kernel) (hts _ wm716) (hts _ wm29) hsa (xX11_95_hat hts hE) xX11_95_good (EV.un hE) (EV.su hE) hS (hl.1.trans hml.symm) dX11_dataNode_11 dX11_dataNode_14 dX11_dataNode_15 (Or.inl ⟨rfl, rfl⟩) dX11_dataNode_17 dX11_dataNode_20 (fun x hx => (hout0 x hx).elim) (Nat.le_of_ble_eq_true rfl) (Nat.le_of_ble_eq_true rfl) (Nat.le_of_ble_eq_true rfl) (Nat.le_of_ble_eq_true rfl) hlocks (fun t ha hz hk => ⟨(), trivial, rfl, xF hS hz hk⟩) hS.2.2 (Nat.le_of_ble_eq_true rfl) (Nat.le_of_ble_eq_true rfl)
set_option maxHeartbeats 4000000 in
set_option maxRecDepth 100000 in
theorem k_X11_constructorNode (l : Launch) (hfl : l.stackTraces = false) (G : GC) (h0 : Nat) (p0 : Int32) (t1 : Nat) (f1 : Nat) (s1 : Nat) (d1 : Nat) (y1 : Nat) (g1 : Nat) (m1 : Nat) (n1 : Nat) (sf0 : Nat) (sf1 : Nat) (sf2 : Nat) (sf3 : Nat) (sf4 : Nat) (sf5 : Nat) (sf6 : Nat) (sf7 : Nat) (sz : Nat) : vx_Met l yX11_constructorNode (Cond.code yX11_constructorNode cX11_constructorNode 2 (some .int) :: W0) ({ frames := 6, cells := 1, slots := 6, locals := 82 }) (va_Pc [.ref h0, .int p0] (WD G [(h0, .inr (10, [.ref t1, .ref f1, .ref s1, .ref d1, .ref y1, .ref g1, .ref m1, .ref n1, .int 0, .long 0])), (s1, .inr (6, [.ref sf0, .ref sf1, .ref sf2, .ref sf3, .ref sf4, .ref sf5, .ref sf6, .ref sf7, .int 0, .int 0]))] sz)) (va_Qi (S := Unit) (fun _ _ => False) (fun _ _ => True) (va_A [(h0, .inr (10, [.ref t1, .ref f1, .ref s1, .ref d1, .ref y1, .ref g1, .ref m1, .ref n1, .int 0, .long 0])), (s1, .inr (6, [.ref sf0, .ref sf1, .ref sf2, .ref sf3, .ref sf4, .ref sf5, .ref sf6, .ref sf7, .int 0, .int 0]))] sz)) (vx_X (fun _ : Unit => True) (fun (E : String) (_ : Unit) (_ : State) => E = "java/util/NoSuchElementException") (va_A [(h0, .inr (10, [.ref t1, .ref f1, .ref s1, .ref d1, .ref y1, .ref g1, .ref m1, .ref n1, .int 0, .long 0])), (s1, .inr (6, [.ref sf0, .ref sf1, .ref sf2, .ref sf3, .ref sf4, .ref sf5, .ref sf6, .ref sf7, .int 0, .int 0]))] sz)) 1 6 (va_A [(h0, .inr (10, [.ref t1, .ref f1, .ref s1, .ref d1, .ref y1, .ref g1, .ref m1, .ref n1, .int 0, .long 0])), (s1, .inr (6, [.ref sf0, .ref sf1, .ref sf2, .ref sf3, .ref sf4, .ref sf5, .ref sf6, .ref sf7, .int 0, .int 0]))] sz) := by
  refine vx_ofW (cc := cX11_constructorNode) (maxL := 2) (ret := (some .int)) (by decide) rfl ?_
  intro p e s m args below meth c s₁ B hml hout0 hv
  obtain ⟨rfl, hsz, hP, hK, hD0, hE⟩ := hv
  have hx := B.exec
  have hb := B.bytes
  have hr := B.returns
  have hts := w0_tail B.pre
  have hown : s.vm.findClass RX11 = some m.cls := findClass_of_methodNamed B.named
  have hlocks := B.notSynchronized
  subst hsz
  have hD := hD0.self (sz := s.heap.size)
  generalize hAe : va_A [(h0, .inr (10, [.ref t1, .ref f1, .ref s1, .ref d1, .ref y1, .ref g1, .ref m1, .ref n1, .int 0, .long 0])), (s1, .inr (6, [.ref sf0, .ref sf1, .ref sf2, .ref sf3, .ref sf4, .ref sf5, .ref sf6, .ref sf7, .int 0, .int 0]))] s.heap.size = A at hD hE ⊢
  have hA : ∀ q : Nat, s.heap.size ≤ q → A q := fun q h => by rw [← hAe]; exact Or.inr h
  have hS : va_S A s.heap s.heap [] := va_S.rf
  obtain ⟨H, hHe⟩ : ∃ H : Heap, H = s.heap := ⟨_, rfl⟩
  have hP : va_P (DG G) clP1 [(h0, .inr (10, [.ref t1, .ref f1, .ref s1, .ref d1, .ref y1, .ref g1, .ref m1, .ref n1, .int 0, .long 0])), (s1, .inr (6, [.ref sf0, .ref sf1, .ref sf2, .ref sf3, .ref sf4, .ref sf5, .ref sf6, .ref sf7, .int 0, .int 0]))] H := by rw [hHe]; exact hP
  have hS : va_S A s.heap H [] := by rw [hHe]; exact hS
  have hl := lv_entry ([.ref h0, .int p0]) (n := 2) (Nat.le_of_ble_eq_true rfl)
  rw [lg_entry_eq, ← hHe]
  generalize (lg_sl ([.ref h0, .int p0]) ++ List.replicate (2 - (lg_sl ([.ref h0, .int p0])).length) Slot.unset).toArray = ls at hl ⊢
  have hl : lv_has ls 2 [(0, .ref h0), (1, .int p0)] := hl
  refine lv_aload_n hx hb dX11_constructorNode_0 rfl (lv_at hl 0 rfl) ?_
  refine va_get (D := DG G) (ci := 10) (v := .ref s1) (C := RX11) (T := TX11) (N := 10) hx hb hts inW_X11 hown hK hP 0 rfl rfl 2 (by decide) (hts _ wm301) (fun _ h9 => h9) rfl dX11_constructorNode_1 ?_
  refine lv_iload_n hx hb dX11_constructorNode_4 rfl (lv_at hl 1 rfl) ?_
  have hFc := va_free (wc := [(s1, .inr (6, [.ref sf0, .ref sf1, .ref sf2, .ref sf3, .ref sf4, .ref sf5, .ref sf6, .ref sf7, .int 0, .int 0]))]) hD hS hA [1] rfl
  refine va_calli (va_runV (As := [.int p0]) (rest := []) ⟨hx, hb, hml, hown, hts⟩ (k_X7_hasConstructor l hfl G s1 p0 sf0 sf1 sf2 sf3 sf4 sf5 sf6 sf7 H.size) (cwV 1 hts (gV wm739 wm411 wm412 wm4 wm413) rfl rfl rfl (by decide +kernel) ⟨Nat.le_of_ble_eq_true rfl, Nat.le_of_ble_eq_true rfl⟩) (pre_v (pre_s hK hP hD hS hE [1] rfl rfl (by decide) hFc) (va_recv hK hP (ci := 6) (q0 := 1) rfl rfl)) rfl rfl hl.1 rfl (lv_room (Nat.le_of_ble_eq_true rfl)) dX11_constructorNode_5 ⟨Nat.le_of_ble_eq_true rfl, Nat.le_of_ble_eq_true rfl⟩) hS (fun q _ h => hFc q h) hFc (fun r u t H locs ht hvm hw hB hz1 hk1 hS => ?_)
  obtain rfl : r = 0 := hw
  obtain ⟨hP1, hD1⟩ := hB
  rw [ht] at hP1
  obtain ⟨hP, hD⟩ := va_join (wr := [(h0, .inr (10, [.ref t1, .ref f1, .ref s1, .ref d1, .ref y1, .ref g1, .ref m1, .ref n1, .int 0, .long 0]))]) (w1 := [(s1, .inr (6, [.ref sf0, .ref sf1, .ref sf2, .ref sf3, .ref sf4, .ref sf5, .ref sf6, .ref sf7, .int 0, .int 0]))]) hP hD [1] [0] rfl rfl (by decide) (by decide) hk1 hFc hP1 hD1
  have hP : va_P (DG G) clP1 [(h0, .inr (10, [.ref t1, .ref f1, .ref s1, .ref d1, .ref y1, .ref g1, .ref m1, .ref n1, .int 0, .long 0])), (s1, .inr (6, [.ref sf0, .ref sf1, .ref sf2, .ref sf3, .ref sf4, .ref sf5, .ref sf6, .ref sf7, .int 0, .int 0]))] H := hP
  have hD : va_D A [(h0, .inr (10, [.ref t1, .ref f1, .ref s1, .ref d1, .ref y1, .ref g1, .ref m1, .ref n1, .int 0, .long 0])), (s1, .inr (6, [.ref sf0, .ref sf1, .ref sf2, .ref sf3, .ref sf4, .ref sf5, .ref sf6, .ref sf7, .int 0, .int 0]))] := hD
  refine W.widen (k := 0) (n := 0) (Nat.le_of_ble_eq_true rfl) (Nat.le_of_ble_eq_true rfl) ?_
  refine lv_if_ne (tgt := 21) hx hb dX11_constructorNode_8 (by decide) (fun c => absurd (by decide) c) (fun _ => ?_)
  obtain ⟨sa, hsa⟩ := hE.2.1 _ stm4
  exact tx_throwSW (Y1 := "java/lang/RuntimeException") (r := ["java/lang/Exception"]) (ix := 13) (rx := prog_43_method_4_code) (A := A) (free := A) hx hb hfl (by decide +kernel) (by decide +kernel) (by decide +kernel) (by decide +kernel) hown (by decide +kernel) (by decide +kernel) (by decide +kernel) (hts _ wm716) (hts _ wm29) hsa (xX11_95_hat hts hE) xX11_95_good (EV.un hE) (EV.su hE) hS (hl.1.trans hml.symm) dX11_constructorNode_11 dX11_constructorNode_14 dX11_constructorNode_15 (Or.inl ⟨rfl, rfl⟩) dX11_constructorNode_17 dX11_constructorNode_20 (fun x hx => (hout0 x hx).elim) (Nat.le_of_ble_eq_true rfl) (Nat.le_of_ble_eq_true rfl) (Nat.le_of_ble_eq_true rfl) (Nat.le_of_ble_eq_true rfl) hlocks (fun t ha hz hk => ⟨(), trivial, rfl, xF hS hz hk⟩) hS.2.2 (Nat.le_of_ble_eq_true rfl) (Nat.le_of_ble_eq_true rfl)
set_option maxHeartbeats 4000000 in
set_option maxRecDepth 100000 in
theorem k_X0_function (l : Launch) (hfl : l.stackTraces = false) (G : GC) (d1 : Nat) (p0 : Int32) (df0 : Nat) (df1 : Nat) (df2 : Nat) (df3 : Nat) (df4 : Nat) (sz : Nat) : Met l yX0_function (Cond.code yX0_function cX0_function 2 (some (.object "TelescopeCourt$Function")) :: W0) ({ frames := 0, cells := 0, slots := 0, locals := 0 }) (va_Pc [.ref d1, .int p0] (WD G [(d1, .inr (2, [.ref df0, .ref df1, .ref df2, .ref df3, .ref df4, .int 0, .int 0, .int 0]))] sz)) (va_Qq (fun (r : Option Nat) (_ : Unit) => r = none) (fun _ t => PW G (va_A [(d1, .inr (2, [.ref df0, .ref df1, .ref df2, .ref df3, .ref df4, .int 0, .int 0, .int 0]))] sz) [(d1, .inr (2, [.ref df0, .ref df1, .ref df2, .ref df3, .ref df4, .int 0, .int 0, .int 0]))] t) (va_A [(d1, .inr (2, [.ref df0, .ref df1, .ref df2, .ref df3, .ref df4, .int 0, .int 0, .int 0]))] sz)) 0 0 (va_A [(d1, .inr (2, [.ref df0, .ref df1, .ref df2, .ref df3, .ref df4, .int 0, .int 0, .int 0]))] sz) := by
  refine Met.ofW (cc := cX0_function) (maxL := 2) (ret := (some (.object "TelescopeCourt$Function"))) (by decide) rfl ?_
  intro p e s m args below meth c s₁ B hml hv
  obtain ⟨rfl, hsz, hP, hK, hD0, hE⟩ := hv
  have hx := B.exec
  have hb := B.bytes
  have hr := B.returns
  have hts := w0_tail B.pre
  have hown : s.vm.findClass RX0 = some m.cls := findClass_of_methodNamed B.named
  have hlocks := B.notSynchronized
  subst hsz
  have hD := hD0.self (sz := s.heap.size)
  generalize hAe : va_A [(d1, .inr (2, [.ref df0, .ref df1, .ref df2, .ref df3, .ref df4, .int 0, .int 0, .int 0]))] s.heap.size = A at hD hE ⊢
  have hA : ∀ q : Nat, s.heap.size ≤ q → A q := fun q h => by rw [← hAe]; exact Or.inr h
  have hS : va_S A s.heap s.heap [] := va_S.rf
  obtain ⟨H, hHe⟩ : ∃ H : Heap, H = s.heap := ⟨_, rfl⟩
  have hP : va_P (DG G) clP1 [(d1, .inr (2, [.ref df0, .ref df1, .ref df2, .ref df3, .ref df4, .int 0, .int 0, .int 0]))] H := by rw [hHe]; exact hP
  have hS : va_S A s.heap H [] := by rw [hHe]; exact hS
  have hl := lv_entry ([.ref d1, .int p0]) (n := 2) (Nat.le_of_ble_eq_true rfl)
  rw [lg_entry_eq, ← hHe]
  generalize (lg_sl ([.ref d1, .int p0]) ++ List.replicate (2 - (lg_sl ([.ref d1, .int p0])).length) Slot.unset).toArray = ls at hl ⊢
  have hl : lv_has ls 2 [(0, .ref d1), (1, .int p0)] := hl
  refine lv_iload_n hx hb dX0_function_0 rfl (lv_at hl 1 rfl) ?_
  refine lv_if_lt (tgt := 21) hx hb dX0_function_1 (by decide) (fun c_1 => ?_) (fun c_1 => ?_)
  · have t_2 := i_lt c_1
    have kk_3 : ((0 : Int32)).toInt = 0 := by decide
    refine lv_null hx hb dX0_function_21 ?_
    have hP9 := hP.sub (ws' := [(d1, .inr (2, [.ref df0, .ref df1, .ref df2, .ref df3, .ref df4, .int 0, .int 0, .int 0]))]) [0] rfl
    have hD9 := hD.sub (ws' := [(d1, .inr (2, [.ref df0, .ref df1, .ref df2, .ref df3, .ref df4, .int 0, .int 0, .int 0]))]) [0] (by decide) rfl
    refine W.widen (k := 0) (n := 0) (Nat.le_of_ble_eq_true rfl) (Nat.le_of_ble_eq_true rfl) ?_
    exact W.aret (v := .null) hx hb hr (Or.inl ⟨_, rfl⟩) (Or.inl rfl) (fun t ht hW => ⟨⟨none, (), rfl, rfl, ⟨by rw [ht]; exact hP9, hD9⟩⟩, hS.F ht⟩) hS.2.2 dX0_function_22 hlocks
  · have t_4 := i_nlt c_1
    have kk_5 : ((0 : Int32)).toInt = 0 := by decide
    refine lv_iload_n hx hb dX0_function_4 rfl (lv_at hl 1 rfl) ?_
    refine lv_aload_n hx hb dX0_function_5 rfl (lv_at hl 0 rfl) ?_
    refine va_get (D := DG G) (ci := 2) (v := .int 0) (C := RX0) (T := TX0) (N := 8) hx hb hts inW_X0 hown hK hP 0 rfl rfl 5 (by decide) (hts _ wm159) (fun _ h9 => h9) rfl dX0_function_6 ?_
    refine lv_icmp_ge (tgt := 21) hx hb dX0_function_9 (by decide) (fun c_6 => ?_) (fun c_6 => ?_)
    · have t_7 := i_le c_6
      have kk_8 : ((0 : Int32)).toInt = 0 := by decide
      refine lv_null hx hb dX0_function_21 ?_
      have hP9 := hP.sub (ws' := [(d1, .inr (2, [.ref df0, .ref df1, .ref df2, .ref df3, .ref df4, .int 0, .int 0, .int 0]))]) [0] rfl
      have hD9 := hD.sub (ws' := [(d1, .inr (2, [.ref df0, .ref df1, .ref df2, .ref df3, .ref df4, .int 0, .int 0, .int 0]))]) [0] (by decide) rfl
      refine W.widen (k := 0) (n := 0) (Nat.le_of_ble_eq_true rfl) (Nat.le_of_ble_eq_true rfl) ?_
      exact W.aret (v := .null) hx hb hr (Or.inl ⟨_, rfl⟩) (Or.inl rfl) (fun t ht hW => ⟨⟨none, (), rfl, rfl, ⟨by rw [ht]; exact hP9, hD9⟩⟩, hS.F ht⟩) hS.2.2 dX0_function_22 hlocks
    · have t_9 := i_nle c_6
      have kk_10 : ((0 : Int32)).toInt = 0 := by decide
      exfalso; omega
set_option maxHeartbeats 4000000 in
set_option maxRecDepth 100000 in
theorem k_X0_goal (l : Launch) (hfl : l.stackTraces = false) (G : GC) (d1 : Nat) (p0 : Int32) (df0 : Nat) (df1 : Nat) (df2 : Nat) (df3 : Nat) (df4 : Nat) (sz : Nat) : Met l yX0_goal (Cond.code yX0_goal cX0_goal 2 (some (.object "TelescopeCourt$Goal")) :: W0) ({ frames := 0, cells := 0, slots := 0, locals := 0 }) (va_Pc [.ref d1, .int p0] (WD G [(d1, .inr (2, [.ref df0, .ref df1, .ref df2, .ref df3, .ref df4, .int 0, .int 0, .int 0]))] sz)) (va_Qq (fun (r : Option Nat) (_ : Unit) => r = none) (fun _ t => PW G (va_A [(d1, .inr (2, [.ref df0, .ref df1, .ref df2, .ref df3, .ref df4, .int 0, .int 0, .int 0]))] sz) [(d1, .inr (2, [.ref df0, .ref df1, .ref df2, .ref df3, .ref df4, .int 0, .int 0, .int 0]))] t) (va_A [(d1, .inr (2, [.ref df0, .ref df1, .ref df2, .ref df3, .ref df4, .int 0, .int 0, .int 0]))] sz)) 0 0 (va_A [(d1, .inr (2, [.ref df0, .ref df1, .ref df2, .ref df3, .ref df4, .int 0, .int 0, .int 0]))] sz) := by
  refine Met.ofW (cc := cX0_goal) (maxL := 2) (ret := (some (.object "TelescopeCourt$Goal"))) (by decide) rfl ?_
  intro p e s m args below meth c s₁ B hml hv
  obtain ⟨rfl, hsz, hP, hK, hD0, hE⟩ := hv
  have hx := B.exec
  have hb := B.bytes
  have hr := B.returns
  have hts := w0_tail B.pre
  have hown : s.vm.findClass RX0 = some m.cls := findClass_of_methodNamed B.named
  have hlocks := B.notSynchronized
  subst hsz
  have hD := hD0.self (sz := s.heap.size)
  generalize hAe : va_A [(d1, .inr (2, [.ref df0, .ref df1, .ref df2, .ref df3, .ref df4, .int 0, .int 0, .int 0]))] s.heap.size = A at hD hE ⊢
  have hA : ∀ q : Nat, s.heap.size ≤ q → A q := fun q h => by rw [← hAe]; exact Or.inr h
  have hS : va_S A s.heap s.heap [] := va_S.rf
  obtain ⟨H, hHe⟩ : ∃ H : Heap, H = s.heap := ⟨_, rfl⟩
  have hP : va_P (DG G) clP1 [(d1, .inr (2, [.ref df0, .ref df1, .ref df2, .ref df3, .ref df4, .int 0, .int 0, .int 0]))] H := by rw [hHe]; exact hP
  have hS : va_S A s.heap H [] := by rw [hHe]; exact hS
  have hl := lv_entry ([.ref d1, .int p0]) (n := 2) (Nat.le_of_ble_eq_true rfl)
  rw [lg_entry_eq, ← hHe]
  generalize (lg_sl ([.ref d1, .int p0]) ++ List.replicate (2 - (lg_sl ([.ref d1, .int p0])).length) Slot.unset).toArray = ls at hl ⊢
  have hl : lv_has ls 2 [(0, .ref d1), (1, .int p0)] := hl
  refine lv_iload_n hx hb dX0_goal_0 rfl (lv_at hl 1 rfl) ?_
  refine lv_if_lt (tgt := 21) hx hb dX0_goal_1 (by decide) (fun c_1 => ?_) (fun c_1 => ?_)
  · have t_2 := i_lt c_1
    have kk_3 : ((0 : Int32)).toInt = 0 := by decide
    refine lv_null hx hb dX0_goal_21 ?_
    have hP9 := hP.sub (ws' := [(d1, .inr (2, [.ref df0, .ref df1, .ref df2, .ref df3, .ref df4, .int 0, .int 0, .int 0]))]) [0] rfl
    have hD9 := hD.sub (ws' := [(d1, .inr (2, [.ref df0, .ref df1, .ref df2, .ref df3, .ref df4, .int 0, .int 0, .int 0]))]) [0] (by decide) rfl
    refine W.widen (k := 0) (n := 0) (Nat.le_of_ble_eq_true rfl) (Nat.le_of_ble_eq_true rfl) ?_
    exact W.aret (v := .null) hx hb hr (Or.inl ⟨_, rfl⟩) (Or.inl rfl) (fun t ht hW => ⟨⟨none, (), rfl, rfl, ⟨by rw [ht]; exact hP9, hD9⟩⟩, hS.F ht⟩) hS.2.2 dX0_goal_22 hlocks
  · have t_4 := i_nlt c_1
    have kk_5 : ((0 : Int32)).toInt = 0 := by decide
    refine lv_iload_n hx hb dX0_goal_4 rfl (lv_at hl 1 rfl) ?_
    refine lv_aload_n hx hb dX0_goal_5 rfl (lv_at hl 0 rfl) ?_
    refine va_get (D := DG G) (ci := 2) (v := .int 0) (C := RX0) (T := TX0) (N := 8) hx hb hts inW_X0 hown hK hP 0 rfl rfl 6 (by decide) (hts _ wm161) (fun _ h9 => h9) rfl dX0_goal_6 ?_
    refine lv_icmp_ge (tgt := 21) hx hb dX0_goal_9 (by decide) (fun c_6 => ?_) (fun c_6 => ?_)
    · have t_7 := i_le c_6
      have kk_8 : ((0 : Int32)).toInt = 0 := by decide
      refine lv_null hx hb dX0_goal_21 ?_
      have hP9 := hP.sub (ws' := [(d1, .inr (2, [.ref df0, .ref df1, .ref df2, .ref df3, .ref df4, .int 0, .int 0, .int 0]))]) [0] rfl
      have hD9 := hD.sub (ws' := [(d1, .inr (2, [.ref df0, .ref df1, .ref df2, .ref df3, .ref df4, .int 0, .int 0, .int 0]))]) [0] (by decide) rfl
      refine W.widen (k := 0) (n := 0) (Nat.le_of_ble_eq_true rfl) (Nat.le_of_ble_eq_true rfl) ?_
      exact W.aret (v := .null) hx hb hr (Or.inl ⟨_, rfl⟩) (Or.inl rfl) (fun t ht hW => ⟨⟨none, (), rfl, rfl, ⟨by rw [ht]; exact hP9, hD9⟩⟩, hS.F ht⟩) hS.2.2 dX0_goal_22 hlocks
    · have t_9 := i_nle c_6
      have kk_10 : ((0 : Int32)).toInt = 0 := by decide
      exfalso; omega
