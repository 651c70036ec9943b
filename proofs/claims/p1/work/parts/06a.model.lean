set_option maxHeartbeats 4000000 in
set_option maxRecDepth 100000 in
theorem k_J_absColl (l : Launch) (hfl : l.stackTraces = false) (G : GC) (h0 : Nat) (sz : Nat) : Met l yJxa1e45_init_da8c8 (Cond.code yJxa1e45_init_da8c8 cJxa1e45_init_da8c8 1 none :: W0) ({ frames := 1, cells := 0, slots := 0, locals := 12 }) (va_Pc [.ref h0] (WD G [(h0, .inr (1, [.int 0, .null, .int 0]))] sz)) (va_Qv (fun _ : Unit => True) (fun _ t => PW G (va_A [(h0, .inr (1, [.int 0, .null, .int 0]))] sz) [(h0, .inr (1, [.int 0, .null, .int 0]))] t) (va_A [(h0, .inr (1, [.int 0, .null, .int 0]))] sz)) 0 0 (va_A [(h0, .inr (1, [.int 0, .null, .int 0]))] sz) := by
  refine Met.ofW (cc := cJxa1e45_init_da8c8) (maxL := 1) (ret := none) (by decide) rfl ?_
  intro p e s m args below meth c s₁ B hml hv
  obtain ⟨rfl, hsz, hP, hK, hD0, hE⟩ := hv
  have hx := B.exec
  have hb := B.bytes
  have hr := B.returns
  have hts := w0_tail B.pre
  have hown : s.vm.findClass RJxa1e45 = some m.cls := findClass_of_methodNamed B.named
  have hlocks := B.notSynchronized
  have hin : meth.name = "<init>" := (name_of_methodNamed B.named B.method).1
  subst hsz
  have hD := hD0.self (sz := s.heap.size)
  generalize hAe : va_A [(h0, .inr (1, [.int 0, .null, .int 0]))] s.heap.size = A at hD hE ⊢
  have hA : ∀ q : Nat, s.heap.size ≤ q → A q := fun q h => by rw [← hAe]; exact Or.inr h
  have hS : va_S A s.heap s.heap [] := va_S.rf
  obtain ⟨H, hHe⟩ : ∃ H : Heap, H = s.heap := ⟨_, rfl⟩
  have hP : va_P (DG G) clP1 [(h0, .inr (1, [.int 0, .null, .int 0]))] H := by rw [hHe]; exact hP
  have hS : va_S A s.heap H [] := by rw [hHe]; exact hS
  have hl := lv_entry ([.ref h0]) (n := 1) (Nat.le_of_ble_eq_true rfl)
  rw [lg_entry_eq, ← hHe]
  generalize (lg_sl ([.ref h0]) ++ List.replicate (1 - (lg_sl ([.ref h0])).length) Slot.unset).toArray = ls at hl ⊢
  have hl : lv_has ls 1 [(0, .ref h0)] := hl
  refine lv_aload_n hx hb dJxa1e45_init_da8c8_0 rfl (lv_at hl 0 rfl) ?_
  refine W.objInit hx hb hown (hts _ wm1327) (hts _ wm46) (hts _ wm47) rfl (by rw [hml]; exact hl.1) rfl dJxa1e45_init_da8c8_1 (Nat.le_of_ble_eq_true rfl) (Nat.le_of_ble_eq_true rfl) ?_
  refine W.eq (g2 := F0 m 4 ls []) rfl ?_
  have hP9 := hP.sub (ws' := [(h0, .inr (1, [.int 0, .null, .int 0]))]) [0] rfl
  have hD9 := hD.sub (ws' := [(h0, .inr (1, [.int 0, .null, .int 0]))]) [0] (by decide) rfl
  refine W.widen (k := 0) (n := 0) (Nat.le_of_ble_eq_true rfl) (Nat.le_of_ble_eq_true rfl) ?_
  exact W.vret hx hb hr (fun t ht hW => ⟨⟨(), rfl, trivial, ⟨by rw [ht]; exact hP9, hD9⟩⟩, hS.F ht⟩) hS.2.2 dJxa1e45_init_da8c8_4 hlocks
set_option maxHeartbeats 4000000 in
set_option maxRecDepth 100000 in
theorem k_J_absList (l : Launch) (hfl : l.stackTraces = false) (G : GC) (h0 : Nat) (sz : Nat) : Met l yJxc12de_init_da8c8 (Cond.code yJxc12de_init_da8c8 cJxc12de_init_da8c8 1 none :: W0) ({ frames := 2, cells := 0, slots := 0, locals := 32 }) (va_Pc [.ref h0] (WD G [(h0, .inr (1, [.int 0, .null, .int 0]))] sz)) (va_Qv (fun _ : Unit => True) (fun _ t => PW G (va_A [(h0, .inr (1, [.int 0, .null, .int 0]))] sz) [(h0, .inr (1, [.int 0, .null, .int 0]))] t) (va_A [(h0, .inr (1, [.int 0, .null, .int 0]))] sz)) 0 0 (va_A [(h0, .inr (1, [.int 0, .null, .int 0]))] sz) := by
  refine Met.ofW (cc := cJxc12de_init_da8c8) (maxL := 1) (ret := none) (by decide) rfl ?_
  intro p e s m args below meth c s₁ B hml hv
  obtain ⟨rfl, hsz, hP, hK, hD0, hE⟩ := hv
  have hx := B.exec
  have hb := B.bytes
  have hr := B.returns
  have hts := w0_tail B.pre
  have hown : s.vm.findClass RJxc12de = some m.cls := findClass_of_methodNamed B.named
  have hlocks := B.notSynchronized
  have hin : meth.name = "<init>" := (name_of_methodNamed B.named B.method).1
  subst hsz
  have hD := hD0.self (sz := s.heap.size)
  generalize hAe : va_A [(h0, .inr (1, [.int 0, .null, .int 0]))] s.heap.size = A at hD hE ⊢
  have hA : ∀ q : Nat, s.heap.size ≤ q → A q := fun q h => by rw [← hAe]; exact Or.inr h
  have hS : va_S A s.heap s.heap [] := va_S.rf
  obtain ⟨H, hHe⟩ : ∃ H : Heap, H = s.heap := ⟨_, rfl⟩
  have hP : va_P (DG G) clP1 [(h0, .inr (1, [.int 0, .null, .int 0]))] H := by rw [hHe]; exact hP
  have hS : va_S A s.heap H [] := by rw [hHe]; exact hS
  have hl := lv_entry ([.ref h0]) (n := 1) (Nat.le_of_ble_eq_true rfl)
  rw [lg_entry_eq, ← hHe]
  generalize (lg_sl ([.ref h0]) ++ List.replicate (1 - (lg_sl ([.ref h0])).length) Slot.unset).toArray = ls at hl ⊢
  have hl : lv_has ls 1 [(0, .ref h0)] := hl
  refine lv_aload_n hx hb dJxc12de_init_da8c8_0 rfl (lv_at hl 0 rfl) ?_
  have hFc := va_free (wc := [(h0, .inr (1, [.int 0, .null, .int 0]))]) hD hS hA [0] rfl
  refine va_callv (va_runI (As := []) (rest := []) ⟨hx, hb, hml, hown, hts⟩ (k_J_absColl l hfl G h0 H.size) (cwI 0 hts (gC wm1326) rfl rfl rfl (hts _ wm12) (hts _ wm1324) (hts _ wm1325) rfl (by decide +kernel) ⟨Nat.le_of_ble_eq_true rfl, Nat.le_of_ble_eq_true rfl⟩) (pre_s hK hP hD hS hE [0] rfl rfl (by decide) hFc) rfl rfl hl.1 rfl (lv_room (Nat.le_of_ble_eq_true rfl)) dJxc12de_init_da8c8_1 ⟨Nat.le_of_ble_eq_true rfl, Nat.le_of_ble_eq_true rfl⟩) hS (fun q _ h => hFc q h) hFc (fun u t H locs ht hvm hw hB hz1 hk1 hS => ?_)
  obtain ⟨hP1, hD1⟩ := hB
  rw [ht] at hP1
  obtain ⟨hP, hD⟩ := va_join (wr := []) (w1 := [(h0, .inr (1, [.int 0, .null, .int 0]))]) hP hD [0] [] rfl rfl (by decide) (by decide) hk1 hFc hP1 hD1
  have hP : va_P (DG G) clP1 [(h0, .inr (1, [.int 0, .null, .int 0]))] H := hP
  have hD : va_D A [(h0, .inr (1, [.int 0, .null, .int 0]))] := hD
  refine W.widen (k := 0) (n := 0) (Nat.le_of_ble_eq_true rfl) (Nat.le_of_ble_eq_true rfl) ?_
  refine lv_aload_n hx hb dJxc12de_init_da8c8_4 rfl (lv_at hl 0 rfl) ?_
  refine lv_iconst (v := 0) hx hb dJxc12de_init_da8c8_5 (by decide) ?_
  refine va_put (D := DG G) (ci := 1) (v := .int 0) (ty := tyJx4a65c 0) (C := RJx4a65c) (T := TJx4a65c) (N := 3) hx hb hts inW_Jx4a65c tyJx4a65c tyJx4a65c_ok nmJx4a65c hown hK hP hD hS 0 rfl rfl 0 (by decide) (hts _ wm1334) (fun _ h9 => h9) rfl (by decide +kernel) rfl rfl (Nat.le_of_ble_eq_true rfl) dJxc12de_init_da8c8_6 (fun H locs hP hD hS => ?_)
  have hP : va_P (DG G) clP1 [(h0, .inr (1, [.int 0, .null, .int 0]))] H := hP
  have hD : va_D A [(h0, .inr (1, [.int 0, .null, .int 0]))] := hD
  have hP9 := hP.sub (ws' := [(h0, .inr (1, [.int 0, .null, .int 0]))]) [0] rfl
  have hD9 := hD.sub (ws' := [(h0, .inr (1, [.int 0, .null, .int 0]))]) [0] (by decide) rfl
  refine W.widen (k := 0) (n := 0) (Nat.le_of_ble_eq_true rfl) (Nat.le_of_ble_eq_true rfl) ?_
  exact W.vret hx hb hr (fun t ht hW => ⟨⟨(), rfl, trivial, ⟨by rw [ht]; exact hP9, hD9⟩⟩, hS.F ht⟩) hS.2.2 dJxc12de_init_da8c8_9 hlocks
set_option maxHeartbeats 4000000 in
set_option maxRecDepth 100000 in
theorem k_J_alInit (l : Launch) (hfl : l.stackTraces = false) (G : GC) (h0 : Nat) (sz : Nat) : Met l yJx4a65c_init_da8c8 (Cond.code yJx4a65c_init_da8c8 cJx4a65c_init_da8c8 1 none :: W0) ({ frames := 3, cells := 0, slots := 0, locals := 52 }) (va_Pc [.ref h0] (WD G [(h0, .inr (1, [.int 0, .null, .int 0]))] sz)) (va_Qv (fun _ : Unit => True) (fun _ t => PW G (va_A [(h0, .inr (1, [.int 0, .null, .int 0]))] sz) [(h0, .inr (1, [.int 0, .ref (aE G), .int 0]))] t) (va_A [(h0, .inr (1, [.int 0, .null, .int 0]))] sz)) 0 0 (va_A [(h0, .inr (1, [.int 0, .null, .int 0]))] sz) := by
  refine Met.ofW (cc := cJx4a65c_init_da8c8) (maxL := 1) (ret := none) (by decide) rfl ?_
  intro p e s m args below meth c s₁ B hml hv
  obtain ⟨rfl, hsz, hP, hK, hD0, hE⟩ := hv
  have hx := B.exec
  have hb := B.bytes
  have hr := B.returns
  have hts := w0_tail B.pre
  have hown : s.vm.findClass RJx4a65c = some m.cls := findClass_of_methodNamed B.named
  have hlocks := B.notSynchronized
  have hin : meth.name = "<init>" := (name_of_methodNamed B.named B.method).1
  subst hsz
  have hD := hD0.self (sz := s.heap.size)
  generalize hAe : va_A [(h0, .inr (1, [.int 0, .null, .int 0]))] s.heap.size = A at hD hE ⊢
  have hA : ∀ q : Nat, s.heap.size ≤ q → A q := fun q h => by rw [← hAe]; exact Or.inr h
  have hS : va_S A s.heap s.heap [] := va_S.rf
  obtain ⟨H, hHe⟩ : ∃ H : Heap, H = s.heap := ⟨_, rfl⟩
  have hP : va_P (DG G) clP1 [(h0, .inr (1, [.int 0, .null, .int 0]))] H := by rw [hHe]; exact hP
  have hS : va_S A s.heap H [] := by rw [hHe]; exact hS
  have hl := lv_entry ([.ref h0]) (n := 1) (Nat.le_of_ble_eq_true rfl)
  rw [lg_entry_eq, ← hHe]
  generalize (lg_sl ([.ref h0]) ++ List.replicate (1 - (lg_sl ([.ref h0])).length) Slot.unset).toArray = ls at hl ⊢
  have hl : lv_has ls 1 [(0, .ref h0)] := hl
  refine lv_aload_n hx hb dJx4a65c_init_da8c8_0 rfl (lv_at hl 0 rfl) ?_
  have hFc := va_free (wc := [(h0, .inr (1, [.int 0, .null, .int 0]))]) hD hS hA [0] rfl
  refine va_callv (va_runI (As := []) (rest := []) ⟨hx, hb, hml, hown, hts⟩ (k_J_absList l hfl G h0 H.size) (cwI 0 hts (gC wm1323) rfl rfl rfl (hts _ wm13) (hts _ wm1321) (hts _ wm1322) rfl (by decide +kernel) ⟨Nat.le_of_ble_eq_true rfl, Nat.le_of_ble_eq_true rfl⟩) (pre_s hK hP hD hS hE [0] rfl rfl (by decide) hFc) rfl rfl hl.1 rfl (lv_room (Nat.le_of_ble_eq_true rfl)) dJx4a65c_init_da8c8_1 ⟨Nat.le_of_ble_eq_true rfl, Nat.le_of_ble_eq_true rfl⟩) hS (fun q _ h => hFc q h) hFc (fun u t H locs ht hvm hw hB hz1 hk1 hS => ?_)
  obtain ⟨hP1, hD1⟩ := hB
  rw [ht] at hP1
  obtain ⟨hP, hD⟩ := va_join (wr := []) (w1 := [(h0, .inr (1, [.int 0, .null, .int 0]))]) hP hD [0] [] rfl rfl (by decide) (by decide) hk1 hFc hP1 hD1
  have hP : va_P (DG G) clP1 [(h0, .inr (1, [.int 0, .null, .int 0]))] H := hP
  have hD : va_D A [(h0, .inr (1, [.int 0, .null, .int 0]))] := hD
  refine W.widen (k := 0) (n := 0) (Nat.le_of_ble_eq_true rfl) (Nat.le_of_ble_eq_true rfl) ?_
  refine lv_aload_n hx hb dJx4a65c_init_da8c8_4 rfl (lv_at hl 0 rfl) ?_
  refine va_gets (v := .ref (aE G)) hx hb (EV.emp hE) hS hown (hts _ wm1328) (fun _ h9 => h9) dJx4a65c_init_da8c8_5 ?_
  refine va_put (D := DG G) (ci := 1) (v := .ref (aE G)) (ty := tyJx4a65c 1) (C := RJx4a65c) (T := TJx4a65c) (N := 3) hx hb hts inW_Jx4a65c tyJx4a65c tyJx4a65c_ok nmJx4a65c hown hK hP hD hS 0 rfl rfl 1 (by decide) (hts _ wm1330) (fun _ h9 => h9) rfl (by decide +kernel) rfl rfl (Nat.le_of_ble_eq_true rfl) dJx4a65c_init_da8c8_8 (fun H locs hP hD hS => ?_)
  have hP : va_P (DG G) clP1 [(h0, .inr (1, [.int 0, .ref (aE G), .int 0]))] H := hP
  have hD : va_D A [(h0, .inr (1, [.int 0, .ref (aE G), .int 0]))] := hD
  have hP9 := hP.sub (ws' := [(h0, .inr (1, [.int 0, .ref (aE G), .int 0]))]) [0] rfl
  have hD9 := hD.sub (ws' := [(h0, .inr (1, [.int 0, .ref (aE G), .int 0]))]) [0] (by decide) rfl
  refine W.widen (k := 0) (n := 0) (Nat.le_of_ble_eq_true rfl) (Nat.le_of_ble_eq_true rfl) ?_
  exact W.vret hx hb hr (fun t ht hW => ⟨⟨(), rfl, trivial, ⟨by rw [ht]; exact hP9, hD9⟩⟩, hS.F ht⟩) hS.2.2 dJx4a65c_init_da8c8_11 hlocks
set_option maxHeartbeats 4000000 in
set_option maxRecDepth 100000 in
theorem k_J_alSize (l : Launch) (hfl : l.stackTraces = false) (G : GC) (h0 : Nat) (mo : Int32) (el : Nat) (nn : Int32) (sz : Nat) : Met l yJx4a65c_size_8abf5 (Cond.code yJx4a65c_size_8abf5 cJx4a65c_size_8abf5 1 (some .int) :: W0) ({ frames := 0, cells := 0, slots := 0, locals := 0 }) (va_Pc [.ref h0] (WD G [(h0, .inr (1, [.int mo, .ref el, .int nn]))] sz)) (va_Qi (fun (r : Int32) (_ : Unit) => r = nn) (fun _ t => PW G (va_A [(h0, .inr (1, [.int mo, .ref el, .int nn]))] sz) [(h0, .inr (1, [.int mo, .ref el, .int nn]))] t) (va_A [(h0, .inr (1, [.int mo, .ref el, .int nn]))] sz)) 0 0 (va_A [(h0, .inr (1, [.int mo, .ref el, .int nn]))] sz) := by
  refine Met.ofW (cc := cJx4a65c_size_8abf5) (maxL := 1) (ret := (some .int)) (by decide) rfl ?_
  intro p e s m args below meth c s₁ B hml hv
  obtain ⟨rfl, hsz, hP, hK, hD0, hE⟩ := hv
  have hx := B.exec
  have hb := B.bytes
  have hr := B.returns
  have hts := w0_tail B.pre
  have hown : s.vm.findClass RJx4a65c = some m.cls := findClass_of_methodNamed B.named
  have hlocks := B.notSynchronized
  subst hsz
  have hD := hD0.self (sz := s.heap.size)
  generalize hAe : va_A [(h0, .inr (1, [.int mo, .ref el, .int nn]))] s.heap.size = A at hD hE ⊢
  have hA : ∀ q : Nat, s.heap.size ≤ q → A q := fun q h => by rw [← hAe]; exact Or.inr h
  have hS : va_S A s.heap s.heap [] := va_S.rf
  obtain ⟨H, hHe⟩ : ∃ H : Heap, H = s.heap := ⟨_, rfl⟩
  have hP : va_P (DG G) clP1 [(h0, .inr (1, [.int mo, .ref el, .int nn]))] H := by rw [hHe]; exact hP
  have hS : va_S A s.heap H [] := by rw [hHe]; exact hS
  have hl := lv_entry ([.ref h0]) (n := 1) (Nat.le_of_ble_eq_true rfl)
  rw [lg_entry_eq, ← hHe]
  generalize (lg_sl ([.ref h0]) ++ List.replicate (1 - (lg_sl ([.ref h0])).length) Slot.unset).toArray = ls at hl ⊢
  have hl : lv_has ls 1 [(0, .ref h0)] := hl
  refine lv_aload_n hx hb dJx4a65c_size_8abf5_0 rfl (lv_at hl 0 rfl) ?_
  refine va_get (D := DG G) (ci := 1) (v := .int nn) (C := RJx4a65c) (T := TJx4a65c) (N := 3) hx hb hts inW_Jx4a65c hown hK hP 0 rfl rfl 2 (by decide) (hts _ wm1333) (fun _ h9 => h9) rfl dJx4a65c_size_8abf5_1 ?_
  have hP9 := hP.sub (ws' := [(h0, .inr (1, [.int mo, .ref el, .int nn]))]) [0] rfl
  have hD9 := hD.sub (ws' := [(h0, .inr (1, [.int mo, .ref el, .int nn]))]) [0] (by decide) rfl
  refine W.widen (k := 0) (n := 0) (Nat.le_of_ble_eq_true rfl) (Nat.le_of_ble_eq_true rfl) ?_
  exact W.iret (v := nn) hx hb hr (fun t ht hW => ⟨⟨nn, (), rfl, rfl, ⟨by rw [ht]; exact hP9, hD9⟩⟩, hS.F ht⟩) hS.2.2 dJx4a65c_size_8abf5_4 hlocks
set_option maxHeartbeats 4000000 in
set_option maxRecDepth 100000 in
theorem k_J_grow1 (l : Launch) (hfl : l.stackTraces = false) (G : GC) (h0 : Nat) (sz : Nat) : Met l yJx4a65c_grow_92f84 (Cond.code yJx4a65c_grow_92f84 cJx4a65c_grow_92f84 4 (some (.array (.object "java/lang/Object"))) :: W0) ({ frames := 1, cells := 1, slots := 10, locals := 14 }) (va_Pc [.ref h0, .int 1] (WD G [(h0, .inr (1, [.int 1, .ref (aE G), .int 0]))] sz)) (va_Qr (fun _ : Unit => True) (fun _ a t => PW G (va_A [(h0, .inr (1, [.int 1, .ref (aE G), .int 0]))] sz) [(h0, .inr (1, [.int 1, .ref a, .int 0])), (a, .inl (cyA G 6, 10, .inr (.inr (.inr (.inr (fun _ => none))))))] t) (va_A [(h0, .inr (1, [.int 1, .ref (aE G), .int 0]))] sz)) 1 10 (va_A [(h0, .inr (1, [.int 1, .ref (aE G), .int 0]))] sz) := by
  refine Met.ofW (cc := cJx4a65c_grow_92f84) (maxL := 4) (ret := (some (.array (.object "java/lang/Object")))) (by decide) rfl ?_
  intro p e s m args below meth c s₁ B hml hv
  obtain ⟨rfl, hsz, hP, hK, hD0, hE⟩ := hv
  have hx := B.exec
  have hb := B.bytes
  have hr := B.returns
  have hts := w0_tail B.pre
  have hown : s.vm.findClass RJx4a65c = some m.cls := findClass_of_methodNamed B.named
  have hlocks := B.notSynchronized
  subst hsz
  have hD := hD0.self (sz := s.heap.size)
  generalize hAe : va_A [(h0, .inr (1, [.int 1, .ref (aE G), .int 0]))] s.heap.size = A at hD hE ⊢
  have hA : ∀ q : Nat, s.heap.size ≤ q → A q := fun q h => by rw [← hAe]; exact Or.inr h
  have hS : va_S A s.heap s.heap [] := va_S.rf
  obtain ⟨H, hHe⟩ : ∃ H : Heap, H = s.heap := ⟨_, rfl⟩
  have hP : va_P (DG G) clP1 [(h0, .inr (1, [.int 1, .ref (aE G), .int 0]))] H := by rw [hHe]; exact hP
  have hS : va_S A s.heap H [] := by rw [hHe]; exact hS
  have hl := lv_entry ([.ref h0, .int 1]) (n := 4) (Nat.le_of_ble_eq_true rfl)
  rw [lg_entry_eq, ← hHe]
  generalize (lg_sl ([.ref h0, .int 1]) ++ List.replicate (4 - (lg_sl ([.ref h0, .int 1])).length) Slot.unset).toArray = ls at hl ⊢
  have hl : lv_has ls 4 [(0, .ref h0), (1, .int 1)] := hl
  refine lv_aload_n hx hb dJx4a65c_grow_92f84_0 rfl (lv_at hl 0 rfl) ?_
  refine va_get (D := DG G) (ci := 1) (v := .ref (aE G)) (C := RJx4a65c) (T := TJx4a65c) (N := 3) hx hb hts inW_Jx4a65c hown hK hP 0 rfl rfl 1 (by decide) (hts _ wm1330) (fun _ h9 => h9) rfl dJx4a65c_grow_92f84_1 ?_
  refine va_tlen (v := 0) hx hb (EV.empT hE) hS rfl dJx4a65c_grow_92f84_4 ?_
  refine lv_istore_n (lv' := [(2, .int 0), (0, .ref h0), (1, .int 1)]) hx hb dJx4a65c_grow_92f84_5 rfl hl (by decide) rfl (fun ls hl => ?_)
  refine lv_iload_n hx hb dJx4a65c_grow_92f84_6 rfl (lv_at hl 0 rfl) ?_
  refine lv_if_gt (tgt := 20) hx hb dJx4a65c_grow_92f84_7 (by decide) (fun c => absurd c (by decide)) (fun _ => ?_)
  refine lv_aload_n hx hb dJx4a65c_grow_92f84_10 rfl (lv_at hl 1 rfl) ?_
  refine va_get (D := DG G) (ci := 1) (v := .ref (aE G)) (C := RJx4a65c) (T := TJx4a65c) (N := 3) hx hb hts inW_Jx4a65c hown hK hP 0 rfl rfl 1 (by decide) (hts _ wm1330) (fun _ h9 => h9) rfl dJx4a65c_grow_92f84_11 ?_
  refine va_gets (v := .ref (aE G)) hx hb (EV.emp hE) hS hown (hts _ wm1328) (fun _ h9 => h9) dJx4a65c_grow_92f84_14 ?_
  refine lv_acmp_eq (rx := (some (aE G))) (ry := (some (aE G))) (tgt := 45) hx hb dJx4a65c_grow_92f84_17 (by decide) (fun _ => ?_) (fun c => absurd rfl c)
  refine lv_aload_n hx hb dJx4a65c_grow_92f84_45 rfl (lv_at hl 1 rfl) ?_
  refine lv_bipush (v := 10) hx hb dJx4a65c_grow_92f84_46 (by decide) ?_
  refine lv_iload_n hx hb dJx4a65c_grow_92f84_48 rfl (lv_at hl 2 rfl) ?_
  refine va_mmax hx hb (hml.trans hl.1.symm) hown (hts _ wm1502) (hts _ wm197) (hts _ wm8) (hts _ wm198) (Nat.le_of_ble_eq_true rfl) (Nat.le_of_ble_eq_true rfl) (Nat.le_of_ble_eq_true rfl) (Nat.le_of_ble_eq_true rfl) dJx4a65c_grow_92f84_49 ?_
  refine lv_topi (fun z_1 ez_1 => ?_)
  obtain rfl : z_1 = 10 := ez_1.trans (by decide)
  refine my_newq (N' := 10) (t1 := 6) hx hb hown (hts _ wm1503) (hE.2.2.2.1 _ ao2) rfl hK hP hD hS hA (by decide) (by decide) (Nat.le_of_ble_eq_true rfl) (Nat.le_of_ble_eq_true rfl) (Nat.le_of_ble_eq_true rfl) dJx4a65c_grow_92f84_52 (fun q_2 H hP hD hS => ?_)
  have hP : va_P (DG G) clP1 [(h0, .inr (1, [.int 1, .ref (aE G), .int 0])), (q_2, .inl (cyA G 6, 10, .inr (.inr (.inr (.inr (fun _ => none))))))] H := hP
  have hD : va_D A [(h0, .inr (1, [.int 1, .ref (aE G), .int 0])), (q_2, .inl (cyA G 6, 10, .inr (.inr (.inr (.inr (fun _ => none))))))] := hD
  refine W.widen (k := 1) (n := 10) (Nat.le_of_ble_eq_true rfl) (Nat.le_of_ble_eq_true rfl) ?_
  refine lv_dup_x1 hx hb dJx4a65c_grow_92f84_55 rfl rfl ?_
  refine va_put (D := DG G) (ci := 1) (v := .ref q_2) (ty := tyJx4a65c 1) (C := RJx4a65c) (T := TJx4a65c) (N := 3) hx hb hts inW_Jx4a65c tyJx4a65c tyJx4a65c_ok nmJx4a65c hown hK hP hD hS 0 rfl rfl 1 (by decide) (hts _ wm1330) (fun _ h9 => h9) rfl (by decide +kernel) rfl rfl (Nat.le_of_ble_eq_true rfl) dJx4a65c_grow_92f84_56 (fun H locs hP hD hS => ?_)
  have hP : va_P (DG G) clP1 [(h0, .inr (1, [.int 1, .ref q_2, .int 0])), (q_2, .inl (cyA G 6, 10, .inr (.inr (.inr (.inr (fun _ => none))))))] H := hP
  have hD : va_D A [(h0, .inr (1, [.int 1, .ref q_2, .int 0])), (q_2, .inl (cyA G 6, 10, .inr (.inr (.inr (.inr (fun _ => none))))))] := hD
  have hP9 := hP.sub (ws' := [(h0, .inr (1, [.int 1, .ref q_2, .int 0])), (q_2, .inl (cyA G 6, 10, .inr (.inr (.inr (.inr (fun _ => none))))))]) [0, 1] rfl
  have hD9 := hD.sub (ws' := [(h0, .inr (1, [.int 1, .ref q_2, .int 0])), (q_2, .inl (cyA G 6, 10, .inr (.inr (.inr (.inr (fun _ => none))))))]) [0, 1] (by decide) rfl
  refine W.widen (k := 1) (n := 10) (Nat.le_of_ble_eq_true rfl) (Nat.le_of_ble_eq_true rfl) ?_
  exact W.aret (v := .ref q_2) hx hb hr (Or.inr ⟨_, rfl⟩) (Or.inr ⟨_, rfl⟩) (fun t ht hW => ⟨⟨(), q_2, rfl, trivial, ⟨by rw [ht]; exact hP9, hD9⟩⟩, hS.F ht⟩) hS.2.2 dJx4a65c_grow_92f84_59 hlocks
set_option maxHeartbeats 4000000 in
set_option maxRecDepth 100000 in
theorem k_J_grow0 (l : Launch) (hfl : l.stackTraces = false) (G : GC) (h0 : Nat) (sz : Nat) : Met l yJx4a65c_grow_d5877 (Cond.code yJx4a65c_grow_d5877 cJx4a65c_grow_d5877 1 (some (.array (.object "java/lang/Object"))) :: W0) ({ frames := 2, cells := 1, slots := 10, locals := 37 }) (va_Pc [.ref h0] (WD G [(h0, .inr (1, [.int 1, .ref (aE G), .int 0]))] sz)) (va_Qr (fun _ : Unit => True) (fun _ a t => PW G (va_A [(h0, .inr (1, [.int 1, .ref (aE G), .int 0]))] sz) [(h0, .inr (1, [.int 1, .ref a, .int 0])), (a, .inl (cyA G 6, 10, .inr (.inr (.inr (.inr (fun _ => none))))))] t) (va_A [(h0, .inr (1, [.int 1, .ref (aE G), .int 0]))] sz)) 1 10 (va_A [(h0, .inr (1, [.int 1, .ref (aE G), .int 0]))] sz) := by
  refine Met.ofW (cc := cJx4a65c_grow_d5877) (maxL := 1) (ret := (some (.array (.object "java/lang/Object")))) (by decide) rfl ?_
  intro p e s m args below meth c s₁ B hml hv
  obtain ⟨rfl, hsz, hP, hK, hD0, hE⟩ := hv
  have hx := B.exec
  have hb := B.bytes
  have hr := B.returns
  have hts := w0_tail B.pre
  have hown : s.vm.findClass RJx4a65c = some m.cls := findClass_of_methodNamed B.named
  have hlocks := B.notSynchronized
  subst hsz
  have hD := hD0.self (sz := s.heap.size)
  generalize hAe : va_A [(h0, .inr (1, [.int 1, .ref (aE G), .int 0]))] s.heap.size = A at hD hE ⊢
  have hA : ∀ q : Nat, s.heap.size ≤ q → A q := fun q h => by rw [← hAe]; exact Or.inr h
  have hS : va_S A s.heap s.heap [] := va_S.rf
  obtain ⟨H, hHe⟩ : ∃ H : Heap, H = s.heap := ⟨_, rfl⟩
  have hP : va_P (DG G) clP1 [(h0, .inr (1, [.int 1, .ref (aE G), .int 0]))] H := by rw [hHe]; exact hP
  have hS : va_S A s.heap H [] := by rw [hHe]; exact hS
  have hl := lv_entry ([.ref h0]) (n := 1) (Nat.le_of_ble_eq_true rfl)
  rw [lg_entry_eq, ← hHe]
  generalize (lg_sl ([.ref h0]) ++ List.replicate (1 - (lg_sl ([.ref h0])).length) Slot.unset).toArray = ls at hl ⊢
  have hl : lv_has ls 1 [(0, .ref h0)] := hl
  refine lv_aload_n hx hb dJx4a65c_grow_d5877_0 rfl (lv_at hl 0 rfl) ?_
  refine lv_aload_n hx hb dJx4a65c_grow_d5877_1 rfl (lv_at hl 0 rfl) ?_
  refine va_get (D := DG G) (ci := 1) (v := .int 0) (C := RJx4a65c) (T := TJx4a65c) (N := 3) hx hb hts inW_Jx4a65c hown hK hP 0 rfl rfl 2 (by decide) (hts _ wm1333) (fun _ h9 => h9) rfl dJx4a65c_grow_d5877_2 ?_
  refine lv_iconst (v := 1) hx hb dJx4a65c_grow_d5877_5 (by decide) ?_
  refine lv_iadd hx hb dJx4a65c_grow_d5877_6 ?_
  refine lv_topi (fun z_1 ez_1 => ?_)
  obtain rfl : z_1 = 1 := ez_1.trans (by decide)
  have hFc := va_free (wc := [(h0, .inr (1, [.int 1, .ref (aE G), .int 0]))]) hD hS hA [0] rfl
  refine va_callr (va_runV (As := [.int 1]) (rest := []) ⟨hx, hb, hml, hown, hts⟩ (k_J_grow1 l hfl G h0 H.size) (cwV 1 hts (gV wm1447 wm1449 ws_p33 wm14 wm1450) rfl rfl rfl (by decide +kernel) ⟨Nat.le_of_ble_eq_true rfl, Nat.le_of_ble_eq_true rfl⟩) (pre_v (pre_s hK hP hD hS hE [0] rfl rfl (by decide) hFc) (va_recv hK hP (ci := 1) (q0 := 0) rfl rfl)) rfl rfl hl.1 rfl (lv_room (Nat.le_of_ble_eq_true rfl)) dJx4a65c_grow_d5877_7 ⟨Nat.le_of_ble_eq_true rfl, Nat.le_of_ble_eq_true rfl⟩) hS (fun q _ h => hFc q h) hFc (fun u ra t H locs ht hvm hw hB hz1 hk1 hS => ?_)
  obtain ⟨hP1, hD1⟩ := hB
  rw [ht] at hP1
  obtain ⟨hP, hD⟩ := va_join (wr := []) (w1 := [(h0, .inr (1, [.int 1, .ref ra, .int 0])), (ra, .inl (cyA G 6, 10, .inr (.inr (.inr (.inr (fun _ => none))))))]) hP hD [0] [] rfl rfl (by decide) (by decide) hk1 hFc hP1 hD1
  have hP : va_P (DG G) clP1 [(h0, .inr (1, [.int 1, .ref ra, .int 0])), (ra, .inl (cyA G 6, 10, .inr (.inr (.inr (.inr (fun _ => none))))))] H := hP
  have hD : va_D A [(h0, .inr (1, [.int 1, .ref ra, .int 0])), (ra, .inl (cyA G 6, 10, .inr (.inr (.inr (.inr (fun _ => none))))))] := hD
  refine W.widen (k := 1) (n := 10) (Nat.le_of_ble_eq_true rfl) (Nat.le_of_ble_eq_true rfl) ?_
  obtain ⟨q_2, eq_2⟩ : ∃ z : Nat, z = ra := ⟨_, rfl⟩
  subst eq_2
  have hP : va_P (DG G) clP1 [(h0, .inr (1, [.int 1, .ref q_2, .int 0])), (q_2, .inl (cyA G 6, 10, .inr (.inr (.inr (.inr (fun _ => none))))))] H := hP
  have hD : va_D A [(h0, .inr (1, [.int 1, .ref q_2, .int 0])), (q_2, .inl (cyA G 6, 10, .inr (.inr (.inr (.inr (fun _ => none))))))] := hD
  have hP9 := hP.sub (ws' := [(h0, .inr (1, [.int 1, .ref q_2, .int 0])), (q_2, .inl (cyA G 6, 10, .inr (.inr (.inr (.inr (fun _ => none))))))]) [0, 1] rfl
  have hD9 := hD.sub (ws' := [(h0, .inr (1, [.int 1, .ref q_2, .int 0])), (q_2, .inl (cyA G 6, 10, .inr (.inr (.inr (.inr (fun _ => none))))))]) [0, 1] (by decide) rfl
  refine W.widen (k := 1) (n := 10) (Nat.le_of_ble_eq_true rfl) (Nat.le_of_ble_eq_true rfl) ?_
  exact W.aret (v := .ref q_2) hx hb hr (Or.inr ⟨_, rfl⟩) (Or.inr ⟨_, rfl⟩) (fun t ht hW => ⟨⟨(), q_2, rfl, trivial, ⟨by rw [ht]; exact hP9, hD9⟩⟩, hS.F ht⟩) hS.2.2 dJx4a65c_grow_d5877_10 hlocks
set_option maxHeartbeats 4000000 in
set_option maxRecDepth 100000 in
theorem k_J_add3 (l : Launch) (hfl : l.stackTraces = false) (G : GC) (h0 : Nat) (e1 : Nat) (tk : Int32) (tn : Int32) (tf : Int32) (sz : Nat) : Met l yJx4a65c_add_72be8 (Cond.code yJx4a65c_add_72be8 cJx4a65c_add_72be8 4 none :: W0) ({ frames := 3, cells := 1, slots := 10, locals := 57 }) (va_Pc [.ref h0, .ref e1, .ref (aE G), .int 0] (WD G [(h0, .inr (1, [.int 1, .ref (aE G), .int 0])), (e1, .inr (11, [.int tk, .int tn, .null, .null, .int 1, .int tf]))] sz)) (va_Qv (fun _ : Unit => True) (fun _ t => ∃ (zz0 : Nat), PW G (va_A [(h0, .inr (1, [.int 1, .ref (aE G), .int 0])), (e1, .inr (11, [.int tk, .int tn, .null, .null, .int 1, .int tf]))] sz) [(h0, .inr (1, [.int 1, .ref zz0, .int 1]))] t) (va_A [(h0, .inr (1, [.int 1, .ref (aE G), .int 0])), (e1, .inr (11, [.int tk, .int tn, .null, .null, .int 1, .int tf]))] sz)) 1 10 (va_A [(h0, .inr (1, [.int 1, .ref (aE G), .int 0])), (e1, .inr (11, [.int tk, .int tn, .null, .null, .int 1, .int tf]))] sz) := by
  refine Met.ofW (cc := cJx4a65c_add_72be8) (maxL := 4) (ret := none) (by decide) rfl ?_
  intro p e s m args below meth c s₁ B hml hv
  obtain ⟨rfl, hsz, hP, hK, hD0, hE⟩ := hv
  have hx := B.exec
  have hb := B.bytes
  have hr := B.returns
  have hts := w0_tail B.pre
  have hown : s.vm.findClass RJx4a65c = some m.cls := findClass_of_methodNamed B.named
  have hlocks := B.notSynchronized
  subst hsz
  have hD := hD0.self (sz := s.heap.size)
  generalize hAe : va_A [(h0, .inr (1, [.int 1, .ref (aE G), .int 0])), (e1, .inr (11, [.int tk, .int tn, .null, .null, .int 1, .int tf]))] s.heap.size = A at hD hE ⊢
  have hA : ∀ q : Nat, s.heap.size ≤ q → A q := fun q h => by rw [← hAe]; exact Or.inr h
  have hS : va_S A s.heap s.heap [] := va_S.rf
  obtain ⟨H, hHe⟩ : ∃ H : Heap, H = s.heap := ⟨_, rfl⟩
  have hP : va_P (DG G) clP1 [(h0, .inr (1, [.int 1, .ref (aE G), .int 0])), (e1, .inr (11, [.int tk, .int tn, .null, .null, .int 1, .int tf]))] H := by rw [hHe]; exact hP
  have hS : va_S A s.heap H [] := by rw [hHe]; exact hS
  have hl := lv_entry ([.ref h0, .ref e1, .ref (aE G), .int 0]) (n := 4) (Nat.le_of_ble_eq_true rfl)
  rw [lg_entry_eq, ← hHe]
  generalize (lg_sl ([.ref h0, .ref e1, .ref (aE G), .int 0]) ++ List.replicate (4 - (lg_sl ([.ref h0, .ref e1, .ref (aE G), .int 0])).length) Slot.unset).toArray = ls at hl ⊢
  have hl : lv_has ls 4 [(0, .ref h0), (1, .ref e1), (2, .ref (aE G)), (3, .int 0)] := hl
  refine lv_iload_n hx hb dJx4a65c_add_72be8_0 rfl (lv_at hl 3 rfl) ?_
  refine lv_aload_n hx hb dJx4a65c_add_72be8_1 rfl (lv_at hl 2 rfl) ?_
  refine va_tlen (v := 0) hx hb (EV.empT hE) hS rfl dJx4a65c_add_72be8_2 ?_
  refine lv_icmp_ne (tgt := 11) hx hb dJx4a65c_add_72be8_3 (by decide) (fun c => absurd (by decide) c) (fun _ => ?_)
  refine lv_aload_n hx hb dJx4a65c_add_72be8_6 rfl (lv_at hl 0 rfl) ?_
  have hFc := va_free (wc := [(h0, .inr (1, [.int 1, .ref (aE G), .int 0]))]) hD hS hA [0] rfl
  refine va_callr (va_runV (As := []) (rest := []) ⟨hx, hb, hml, hown, hts⟩ (k_J_grow0 l hfl G h0 H.size) (cwV 0 hts (gV wm1443 wm1445 ws_p32 wm14 wm1446) rfl rfl rfl (by decide +kernel) ⟨Nat.le_of_ble_eq_true rfl, Nat.le_of_ble_eq_true rfl⟩) (pre_v (pre_s hK hP hD hS hE [0] rfl rfl (by decide) hFc) (va_recv hK hP (ci := 1) (q0 := 0) rfl rfl)) rfl rfl hl.1 rfl (lv_room (Nat.le_of_ble_eq_true rfl)) dJx4a65c_add_72be8_7 ⟨Nat.le_of_ble_eq_true rfl, Nat.le_of_ble_eq_true rfl⟩) hS (fun q _ h => hFc q h) hFc (fun u ra t H locs ht hvm hw hB hz1 hk1 hS => ?_)
  obtain ⟨hP1, hD1⟩ := hB
  rw [ht] at hP1
  obtain ⟨hP, hD⟩ := va_join (wr := [(e1, .inr (11, [.int tk, .int tn, .null, .null, .int 1, .int tf]))]) (w1 := [(h0, .inr (1, [.int 1, .ref ra, .int 0])), (ra, .inl (cyA G 6, 10, .inr (.inr (.inr (.inr (fun _ => none))))))]) hP hD [0] [1] rfl rfl (by decide) (by decide) hk1 hFc hP1 hD1
  have hP : va_P (DG G) clP1 [(e1, .inr (11, [.int tk, .int tn, .null, .null, .int 1, .int tf])), (h0, .inr (1, [.int 1, .ref ra, .int 0])), (ra, .inl (cyA G 6, 10, .inr (.inr (.inr (.inr (fun _ => none))))))] H := hP
  have hD : va_D A [(e1, .inr (11, [.int tk, .int tn, .null, .null, .int 1, .int tf])), (h0, .inr (1, [.int 1, .ref ra, .int 0])), (ra, .inl (cyA G 6, 10, .inr (.inr (.inr (.inr (fun _ => none))))))] := hD
  refine W.widen (k := 1) (n := 10) (Nat.le_of_ble_eq_true rfl) (Nat.le_of_ble_eq_true rfl) ?_
  obtain ⟨q_1, eq_1⟩ : ∃ z : Nat, z = ra := ⟨_, rfl⟩
  subst eq_1
  have hP : va_P (DG G) clP1 [(e1, .inr (11, [.int tk, .int tn, .null, .null, .int 1, .int tf])), (h0, .inr (1, [.int 1, .ref q_1, .int 0])), (q_1, .inl (cyA G 6, 10, .inr (.inr (.inr (.inr (fun _ => none))))))] H := hP
  have hD : va_D A [(e1, .inr (11, [.int tk, .int tn, .null, .null, .int 1, .int tf])), (h0, .inr (1, [.int 1, .ref q_1, .int 0])), (q_1, .inl (cyA G 6, 10, .inr (.inr (.inr (.inr (fun _ => none))))))] := hD
  refine lv_astore_n (lv' := [(2, .ref q_1), (0, .ref h0), (1, .ref e1), (3, .int 0)]) hx hb dJx4a65c_add_72be8_10 rfl hl (by decide) rfl (fun ls hl => ?_)
  refine lv_aload_n hx hb dJx4a65c_add_72be8_11 rfl (lv_at hl 0 rfl) ?_
  refine lv_iload_n hx hb dJx4a65c_add_72be8_12 rfl (lv_at hl 3 rfl) ?_
  refine lv_aload_n hx hb dJx4a65c_add_72be8_13 rfl (lv_at hl 2 rfl) ?_
  refine va_astqO (E := "java/lang/Object") (r := (RX16, TX16, 6)) hx hb hK hP hD hS 2 6 0 11 rfl rfl (hE.1 _ nw1992) rfl rfl (show ¬ ((0 : Int32) < 0 ∨ 10 ≤ Int32.toNatClampNeg 0) from by decide) dJx4a65c_add_72be8_14 (fun H locs hP hD hS => ?_)
  obtain ⟨f_2, hP, hD⟩ : ∃ f_2 : Nat → Option Nat, va_P (DG G) clP1 [(e1, .inr (11, [.int tk, .int tn, .null, .null, .int 1, .int tf])), (h0, .inr (1, [.int 1, .ref q_1, .int 0])), (q_1, .inl (cyA G 6, 10, .inr (.inr (.inr (.inr (f_2))))))] H ∧ va_D A [(e1, .inr (11, [.int tk, .int tn, .null, .null, .int 1, .int tf])), (h0, .inr (1, [.int 1, .ref q_1, .int 0])), (q_1, .inl (cyA G 6, 10, .inr (.inr (.inr (.inr (f_2))))))] := ⟨_, hP, hD⟩
  refine lv_aload_n hx hb dJx4a65c_add_72be8_15 rfl (lv_at hl 1 rfl) ?_
  refine lv_iload_n hx hb dJx4a65c_add_72be8_16 rfl (lv_at hl 3 rfl) ?_
  refine lv_iconst (v := 1) hx hb dJx4a65c_add_72be8_17 (by decide) ?_
  refine lv_iadd hx hb dJx4a65c_add_72be8_18 ?_
  refine lv_topi (fun z_3 ez_3 => ?_)
  obtain rfl : z_3 = 1 := ez_3.trans (by decide)
  refine va_put (D := DG G) (ci := 1) (v := .int 1) (ty := tyJx4a65c 2) (C := RJx4a65c) (T := TJx4a65c) (N := 3) hx hb hts inW_Jx4a65c tyJx4a65c tyJx4a65c_ok nmJx4a65c hown hK hP hD hS 1 rfl rfl 2 (by decide) (hts _ wm1333) (fun _ h9 => h9) rfl (by decide +kernel) rfl rfl (Nat.le_of_ble_eq_true rfl) dJx4a65c_add_72be8_19 (fun H locs hP hD hS => ?_)
  have hP : va_P (DG G) clP1 [(e1, .inr (11, [.int tk, .int tn, .null, .null, .int 1, .int tf])), (h0, .inr (1, [.int 1, .ref q_1, .int 1])), (q_1, .inl (cyA G 6, 10, .inr (.inr (.inr (.inr (f_2))))))] H := hP
  have hD : va_D A [(e1, .inr (11, [.int tk, .int tn, .null, .null, .int 1, .int tf])), (h0, .inr (1, [.int 1, .ref q_1, .int 1])), (q_1, .inl (cyA G 6, 10, .inr (.inr (.inr (.inr (f_2))))))] := hD
  have hP9 := hP.sub (ws' := [(h0, .inr (1, [.int 1, .ref q_1, .int 1]))]) [1] rfl
  have hD9 := hD.sub (ws' := [(h0, .inr (1, [.int 1, .ref q_1, .int 1]))]) [1] (by decide) rfl
  refine W.widen (k := 1) (n := 10) (Nat.le_of_ble_eq_true rfl) (Nat.le_of_ble_eq_true rfl) ?_
  exact W.vret hx hb hr (fun t ht hW => ⟨⟨(), rfl, trivial, ⟨q_1, by rw [ht]; exact hP9, hD9⟩⟩, hS.F ht⟩) hS.2.2 dJx4a65c_add_72be8_22 hlocks
set_option maxHeartbeats 4000000 in
set_option maxRecDepth 100000 in
theorem k_J_add1 (l : Launch) (hfl : l.stackTraces = false) (G : GC) (h0 : Nat) (e1 : Nat) (tk : Int32) (tn : Int32) (tf : Int32) (sz : Nat) : Met l yJx4a65c_add_9ea2d (Cond.code yJx4a65c_add_9ea2d cJx4a65c_add_9ea2d 2 (some .boolean) :: W0) ({ frames := 4, cells := 1, slots := 10, locals := 80 }) (va_Pc [.ref h0, .ref e1] (WD G [(h0, .inr (1, [.int 0, .ref (aE G), .int 0])), (e1, .inr (11, [.int tk, .int tn, .null, .null, .int 1, .int tf]))] sz)) (va_Qi (fun (r : Int32) (_ : Unit) => r = 1) (fun _ t => ∃ (zz0 : Nat), PW G (va_A [(h0, .inr (1, [.int 0, .ref (aE G), .int 0])), (e1, .inr (11, [.int tk, .int tn, .null, .null, .int 1, .int tf]))] sz) [(h0, .inr (1, [.int 1, .ref zz0, .int 1]))] t) (va_A [(h0, .inr (1, [.int 0, .ref (aE G), .int 0])), (e1, .inr (11, [.int tk, .int tn, .null, .null, .int 1, .int tf]))] sz)) 1 10 (va_A [(h0, .inr (1, [.int 0, .ref (aE G), .int 0])), (e1, .inr (11, [.int tk, .int tn, .null, .null, .int 1, .int tf]))] sz) := by
  refine Met.ofW (cc := cJx4a65c_add_9ea2d) (maxL := 2) (ret := (some .boolean)) (by decide) rfl ?_
  intro p e s m args below meth c s₁ B hml hv
  obtain ⟨rfl, hsz, hP, hK, hD0, hE⟩ := hv
  have hx := B.exec
  have hb := B.bytes
  have hr := B.returns
  have hts := w0_tail B.pre
  have hown : s.vm.findClass RJx4a65c = some m.cls := findClass_of_methodNamed B.named
  have hlocks := B.notSynchronized
  subst hsz
  have hD := hD0.self (sz := s.heap.size)
  generalize hAe : va_A [(h0, .inr (1, [.int 0, .ref (aE G), .int 0])), (e1, .inr (11, [.int tk, .int tn, .null, .null, .int 1, .int tf]))] s.heap.size = A at hD hE ⊢
  have hA : ∀ q : Nat, s.heap.size ≤ q → A q := fun q h => by rw [← hAe]; exact Or.inr h
  have hS : va_S A s.heap s.heap [] := va_S.rf
  obtain ⟨H, hHe⟩ : ∃ H : Heap, H = s.heap := ⟨_, rfl⟩
  have hP : va_P (DG G) clP1 [(h0, .inr (1, [.int 0, .ref (aE G), .int 0])), (e1, .inr (11, [.int tk, .int tn, .null, .null, .int 1, .int tf]))] H := by rw [hHe]; exact hP
  have hS : va_S A s.heap H [] := by rw [hHe]; exact hS
  have hl := lv_entry ([.ref h0, .ref e1]) (n := 2) (Nat.le_of_ble_eq_true rfl)
  rw [lg_entry_eq, ← hHe]
  generalize (lg_sl ([.ref h0, .ref e1]) ++ List.replicate (2 - (lg_sl ([.ref h0, .ref e1])).length) Slot.unset).toArray = ls at hl ⊢
  have hl : lv_has ls 2 [(0, .ref h0), (1, .ref e1)] := hl
  refine lv_aload_n hx hb dJx4a65c_add_9ea2d_0 rfl (lv_at hl 0 rfl) ?_
  refine lv_dup hx hb dJx4a65c_add_9ea2d_1 rfl ?_
  refine va_get (D := DG G) (ci := 1) (v := .int 0) (C := RJx4a65c) (T := TJx4a65c) (N := 3) hx hb hts inW_Jx4a65c hown hK hP 0 rfl rfl 0 (by decide) (hts _ wm1337) (u_same (hts _ wm1336)) rfl dJx4a65c_add_9ea2d_2 ?_
  refine lv_iconst (v := 1) hx hb dJx4a65c_add_9ea2d_5 (by decide) ?_
  refine lv_iadd hx hb dJx4a65c_add_9ea2d_6 ?_
  refine lv_topi (fun z_1 ez_1 => ?_)
  obtain rfl : z_1 = 1 := ez_1.trans (by decide)
  refine va_put (D := DG G) (ci := 1) (v := .int 1) (ty := tyJx4a65c 0) (C := RJx4a65c) (T := TJx4a65c) (N := 3) hx hb hts inW_Jx4a65c tyJx4a65c tyJx4a65c_ok nmJx4a65c hown hK hP hD hS 0 rfl rfl 0 (by decide) (hts _ wm1337) (u_same (hts _ wm1336)) rfl (by decide +kernel) rfl rfl (Nat.le_of_ble_eq_true rfl) dJx4a65c_add_9ea2d_7 (fun H locs hP hD hS => ?_)
  have hP : va_P (DG G) clP1 [(h0, .inr (1, [.int 1, .ref (aE G), .int 0])), (e1, .inr (11, [.int tk, .int tn, .null, .null, .int 1, .int tf]))] H := hP
  have hD : va_D A [(h0, .inr (1, [.int 1, .ref (aE G), .int 0])), (e1, .inr (11, [.int tk, .int tn, .null, .null, .int 1, .int tf]))] := hD
  refine lv_aload_n hx hb dJx4a65c_add_9ea2d_10 rfl (lv_at hl 0 rfl) ?_
  refine lv_aload_n hx hb dJx4a65c_add_9ea2d_11 rfl (lv_at hl 1 rfl) ?_
  refine lv_aload_n hx hb dJx4a65c_add_9ea2d_12 rfl (lv_at hl 0 rfl) ?_
  refine va_get (D := DG G) (ci := 1) (v := .ref (aE G)) (C := RJx4a65c) (T := TJx4a65c) (N := 3) hx hb hts inW_Jx4a65c hown hK hP 0 rfl rfl 1 (by decide) (hts _ wm1330) (fun _ h9 => h9) rfl dJx4a65c_add_9ea2d_13 ?_
  refine lv_aload_n hx hb dJx4a65c_add_9ea2d_16 rfl (lv_at hl 0 rfl) ?_
  refine va_get (D := DG G) (ci := 1) (v := .int 0) (C := RJx4a65c) (T := TJx4a65c) (N := 3) hx hb hts inW_Jx4a65c hown hK hP 0 rfl rfl 2 (by decide) (hts _ wm1333) (fun _ h9 => h9) rfl dJx4a65c_add_9ea2d_17 ?_
  have hFc := va_free (wc := [(h0, .inr (1, [.int 1, .ref (aE G), .int 0])), (e1, .inr (11, [.int tk, .int tn, .null, .null, .int 1, .int tf]))]) hD hS hA [0, 1] rfl
  refine va_callv (va_runV (As := [.ref e1, .ref (aE G), .int 0]) (rest := []) ⟨hx, hb, hml, hown, hts⟩ (k_J_add3 l hfl G h0 e1 tk tn tf H.size) (cwV 3 hts (gV wm1439 wm1441 ws_p31 wm14 wm1442) rfl rfl rfl (by decide +kernel) ⟨Nat.le_of_ble_eq_true rfl, Nat.le_of_ble_eq_true rfl⟩) (pre_v (pre_s hK hP hD hS hE [0, 1] rfl rfl (by decide) hFc) (va_recv hK hP (ci := 1) (q0 := 0) rfl rfl)) rfl rfl hl.1 rfl (lv_room (Nat.le_of_ble_eq_true rfl)) dJx4a65c_add_9ea2d_20 ⟨Nat.le_of_ble_eq_true rfl, Nat.le_of_ble_eq_true rfl⟩) hS (fun q _ h => hFc q h) hFc (fun u t H locs ht hvm hw hB hz1 hk1 hS => ?_)
  obtain ⟨q_2, hP1, hD1⟩ := hB
  rw [ht] at hP1
  obtain ⟨hP, hD⟩ := va_join (wr := []) (w1 := [(h0, .inr (1, [.int 1, .ref q_2, .int 1]))]) hP hD [0, 1] [] rfl rfl (by decide) (by decide) hk1 hFc hP1 hD1
  have hP : va_P (DG G) clP1 [(h0, .inr (1, [.int 1, .ref q_2, .int 1]))] H := hP
  have hD : va_D A [(h0, .inr (1, [.int 1, .ref q_2, .int 1]))] := hD
  refine W.widen (k := 1) (n := 10) (Nat.le_of_ble_eq_true rfl) (Nat.le_of_ble_eq_true rfl) ?_
  refine lv_iconst (v := 1) hx hb dJx4a65c_add_9ea2d_23 (by decide) ?_
  have hP9 := hP.sub (ws' := [(h0, .inr (1, [.int 1, .ref q_2, .int 1]))]) [0] rfl
  have hD9 := hD.sub (ws' := [(h0, .inr (1, [.int 1, .ref q_2, .int 1]))]) [0] (by decide) rfl
  refine W.widen (k := 1) (n := 10) (Nat.le_of_ble_eq_true rfl) (Nat.le_of_ble_eq_true rfl) ?_
  exact W.zret (v := 1) (ty := .boolean) hx hb hr (by decide) (fun t ht hW => ⟨⟨1, (), rfl, rfl, ⟨q_2, by rw [ht]; exact hP9, hD9⟩⟩, hS.F ht⟩) hS.2.2 dJx4a65c_add_9ea2d_24 hlocks
set_option maxHeartbeats 4000000 in
set_option maxRecDepth 100000 in
theorem k_J_itInit (l : Launch) (hfl : l.stackTraces = false) (G : GC) (h0 : Nat) (a1 : Nat) (sz : Nat) : Met l yJx35411_init_45d68 (Cond.code yJx35411_init_45d68 cJx35411_init_45d68 2 none :: W0) ({ frames := 1, cells := 0, slots := 0, locals := 12 }) (va_Pc [.ref h0, .ref a1] (WD G [(h0, .inr (0, [.int 0, .int 0, .int 0, .null])), (a1, .inr (1, [.int 0, .ref (aE G), .int 0]))] sz)) (va_Qv (fun _ : Unit => True) (fun _ t => PW G (va_A [(h0, .inr (0, [.int 0, .int 0, .int 0, .null])), (a1, .inr (1, [.int 0, .ref (aE G), .int 0]))] sz) [(h0, .inr (0, [.int 0, .int (-1), .int 0, .ref a1])), (a1, .inr (1, [.int 0, .ref (aE G), .int 0]))] t) (va_A [(h0, .inr (0, [.int 0, .int 0, .int 0, .null])), (a1, .inr (1, [.int 0, .ref (aE G), .int 0]))] sz)) 0 0 (va_A [(h0, .inr (0, [.int 0, .int 0, .int 0, .null])), (a1, .inr (1, [.int 0, .ref (aE G), .int 0]))] sz) := by
  refine Met.ofW (cc := cJx35411_init_45d68) (maxL := 2) (ret := none) (by decide) rfl ?_
  intro p e s m args below meth c s₁ B hml hv
  obtain ⟨rfl, hsz, hP, hK, hD0, hE⟩ := hv
  have hx := B.exec
  have hb := B.bytes
  have hr := B.returns
  have hts := w0_tail B.pre
  have hown : s.vm.findClass RJx35411 = some m.cls := findClass_of_methodNamed B.named
  have hlocks := B.notSynchronized
  have hin : meth.name = "<init>" := (name_of_methodNamed B.named B.method).1
  subst hsz
  have hD := hD0.self (sz := s.heap.size)
  generalize hAe : va_A [(h0, .inr (0, [.int 0, .int 0, .int 0, .null])), (a1, .inr (1, [.int 0, .ref (aE G), .int 0]))] s.heap.size = A at hD hE ⊢
  have hA : ∀ q : Nat, s.heap.size ≤ q → A q := fun q h => by rw [← hAe]; exact Or.inr h
  have hS : va_S A s.heap s.heap [] := va_S.rf
  obtain ⟨H, hHe⟩ : ∃ H : Heap, H = s.heap := ⟨_, rfl⟩
  have hP : va_P (DG G) clP1 [(h0, .inr (0, [.int 0, .int 0, .int 0, .null])), (a1, .inr (1, [.int 0, .ref (aE G), .int 0]))] H := by rw [hHe]; exact hP
  have hS : va_S A s.heap H [] := by rw [hHe]; exact hS
  have hl := lv_entry ([.ref h0, .ref a1]) (n := 2) (Nat.le_of_ble_eq_true rfl)
  rw [lg_entry_eq, ← hHe]
  generalize (lg_sl ([.ref h0, .ref a1]) ++ List.replicate (2 - (lg_sl ([.ref h0, .ref a1])).length) Slot.unset).toArray = ls at hl ⊢
  have hl : lv_has ls 2 [(0, .ref h0), (1, .ref a1)] := hl
  refine lv_aload_n hx hb dJx35411_init_45d68_0 rfl (lv_at hl 0 rfl) ?_
  refine lv_aload_n hx hb dJx35411_init_45d68_1 rfl (lv_at hl 1 rfl) ?_
  refine va_putF (D := DG G) (ci := 0) (v := .ref a1) (ty := tyJx35411 3) (C := RJx35411) (T := TJx35411) (N := 4) hx hb hts inW_Jx35411 tyJx35411 tyJx35411_ok nmJx35411 hown hK hP hD hS 0 rfl rfl 3 (by decide) (hts _ wm1587) (fun _ h9 => h9) rfl hin rfl (by decide +kernel) rfl rfl (Nat.le_of_ble_eq_true rfl) dJx35411_init_45d68_2 (fun H locs hP hD hS => ?_)
  have hP : va_P (DG G) clP1 [(h0, .inr (0, [.int 0, .int 0, .int 0, .ref a1])), (a1, .inr (1, [.int 0, .ref (aE G), .int 0]))] H := hP
  have hD : va_D A [(h0, .inr (0, [.int 0, .int 0, .int 0, .ref a1])), (a1, .inr (1, [.int 0, .ref (aE G), .int 0]))] := hD
  refine lv_aload_n hx hb dJx35411_init_45d68_5 rfl (lv_at hl 0 rfl) ?_
  refine W.objInit hx hb hown (hts _ wm1583) (hts _ wm46) (hts _ wm47) rfl (by rw [hml]; exact hl.1) rfl dJx35411_init_45d68_6 (Nat.le_of_ble_eq_true rfl) (Nat.le_of_ble_eq_true rfl) ?_
  refine W.eq (g2 := F0 m 9 ls []) rfl ?_
  refine lv_aload_n hx hb dJx35411_init_45d68_9 rfl (lv_at hl 0 rfl) ?_
  refine lv_iconst (v := (-1)) hx hb dJx35411_init_45d68_10 (by decide) ?_
  refine va_put (D := DG G) (ci := 0) (v := .int (-1)) (ty := tyJx35411 1) (C := RJx35411) (T := TJx35411) (N := 4) hx hb hts inW_Jx35411 tyJx35411 tyJx35411_ok nmJx35411 hown hK hP hD hS 0 rfl rfl 1 (by decide) (hts _ wm1585) (fun _ h9 => h9) rfl (by decide +kernel) rfl rfl (Nat.le_of_ble_eq_true rfl) dJx35411_init_45d68_11 (fun H locs hP hD hS => ?_)
  have hP : va_P (DG G) clP1 [(h0, .inr (0, [.int 0, .int (-1), .int 0, .ref a1])), (a1, .inr (1, [.int 0, .ref (aE G), .int 0]))] H := hP
  have hD : va_D A [(h0, .inr (0, [.int 0, .int (-1), .int 0, .ref a1])), (a1, .inr (1, [.int 0, .ref (aE G), .int 0]))] := hD
  refine lv_aload_n hx hb dJx35411_init_45d68_14 rfl (lv_at hl 0 rfl) ?_
  refine lv_aload_n hx hb dJx35411_init_45d68_15 rfl (lv_at hl 0 rfl) ?_
  refine va_get (D := DG G) (ci := 0) (v := .ref a1) (C := RJx35411) (T := TJx35411) (N := 4) hx hb hts inW_Jx35411 hown hK hP 0 rfl rfl 3 (by decide) (hts _ wm1587) (fun _ h9 => h9) rfl dJx35411_init_45d68_16 ?_
  refine va_get (D := DG G) (ci := 1) (v := .int 0) (C := RJx4a65c) (T := TJx4a65c) (N := 3) hx hb hts inW_Jx4a65c hown hK hP 1 rfl rfl 0 (by decide) (hts _ wm1335) (u_same (hts _ wm1336)) rfl dJx35411_init_45d68_19 ?_
  refine va_put (D := DG G) (ci := 0) (v := .int 0) (ty := tyJx35411 2) (C := RJx35411) (T := TJx35411) (N := 4) hx hb hts inW_Jx35411 tyJx35411 tyJx35411_ok nmJx35411 hown hK hP hD hS 0 rfl rfl 2 (by decide) (hts _ wm1586) (fun _ h9 => h9) rfl (by decide +kernel) rfl rfl (Nat.le_of_ble_eq_true rfl) dJx35411_init_45d68_22 (fun H locs hP hD hS => ?_)
  have hP : va_P (DG G) clP1 [(h0, .inr (0, [.int 0, .int (-1), .int 0, .ref a1])), (a1, .inr (1, [.int 0, .ref (aE G), .int 0]))] H := hP
  have hD : va_D A [(h0, .inr (0, [.int 0, .int (-1), .int 0, .ref a1])), (a1, .inr (1, [.int 0, .ref (aE G), .int 0]))] := hD
  have hP9 := hP.sub (ws' := [(h0, .inr (0, [.int 0, .int (-1), .int 0, .ref a1])), (a1, .inr (1, [.int 0, .ref (aE G), .int 0]))]) [0, 1] rfl
  have hD9 := hD.sub (ws' := [(h0, .inr (0, [.int 0, .int (-1), .int 0, .ref a1])), (a1, .inr (1, [.int 0, .ref (aE G), .int 0]))]) [0, 1] (by decide) rfl
  refine W.widen (k := 0) (n := 0) (Nat.le_of_ble_eq_true rfl) (Nat.le_of_ble_eq_true rfl) ?_
  exact W.vret hx hb hr (fun t ht hW => ⟨⟨(), rfl, trivial, ⟨by rw [ht]; exact hP9, hD9⟩⟩, hS.F ht⟩) hS.2.2 dJx35411_init_45d68_25 hlocks
set_option maxHeartbeats 4000000 in
set_option maxRecDepth 100000 in
theorem k_J_iterator (l : Launch) (hfl : l.stackTraces = false) (G : GC) (h0 : Nat) (sz : Nat) : Met l yJx4a65c_iterator_32c93 (Cond.code yJx4a65c_iterator_32c93 cJx4a65c_iterator_32c93 1 (some (.object "java/util/Iterator")) :: W0) ({ frames := 2, cells := 1, slots := 4, locals := 33 }) (va_Pc [.ref h0] (WD G [(h0, .inr (1, [.int 0, .ref (aE G), .int 0]))] sz)) (va_Qr (fun _ : Unit => True) (fun _ a t => PW G (va_A [(h0, .inr (1, [.int 0, .ref (aE G), .int 0]))] sz) [(a, .inr (0, [.int 0, .int (-1), .int 0, .ref h0])), (h0, .inr (1, [.int 0, .ref (aE G), .int 0]))] t) (va_A [(h0, .inr (1, [.int 0, .ref (aE G), .int 0]))] sz)) 1 4 (va_A [(h0, .inr (1, [.int 0, .ref (aE G), .int 0]))] sz) := by
  refine Met.ofW (cc := cJx4a65c_iterator_32c93) (maxL := 1) (ret := (some (.object "java/util/Iterator"))) (by decide) rfl ?_
  intro p e s m args below meth c s₁ B hml hv
  obtain ⟨rfl, hsz, hP, hK, hD0, hE⟩ := hv
  have hx := B.exec
  have hb := B.bytes
  have hr := B.returns
  have hts := w0_tail B.pre
  have hown : s.vm.findClass RJx4a65c = some m.cls := findClass_of_methodNamed B.named
  have hlocks := B.notSynchronized
  subst hsz
  have hD := hD0.self (sz := s.heap.size)
  generalize hAe : va_A [(h0, .inr (1, [.int 0, .ref (aE G), .int 0]))] s.heap.size = A at hD hE ⊢
  have hA : ∀ q : Nat, s.heap.size ≤ q → A q := fun q h => by rw [← hAe]; exact Or.inr h
  have hS : va_S A s.heap s.heap [] := va_S.rf
  obtain ⟨H, hHe⟩ : ∃ H : Heap, H = s.heap := ⟨_, rfl⟩
  have hP : va_P (DG G) clP1 [(h0, .inr (1, [.int 0, .ref (aE G), .int 0]))] H := by rw [hHe]; exact hP
  have hS : va_S A s.heap H [] := by rw [hHe]; exact hS
  have hl := lv_entry ([.ref h0]) (n := 1) (Nat.le_of_ble_eq_true rfl)
  rw [lg_entry_eq, ← hHe]
  generalize (lg_sl ([.ref h0]) ++ List.replicate (1 - (lg_sl ([.ref h0])).length) Slot.unset).toArray = ls at hl ⊢
  have hl : lv_has ls 1 [(0, .ref h0)] := hl
  refine va_new (ci := 0) (fs := [.int 0, .int 0, .int 0, .null]) (C := RJx35411) (T := TJx35411) (N := 4) hx hb hts inW_Jx35411 tyJx35411 tyJx35411_ok hown (hts _ wm1578) (hts _ wm1579) (hts _ wm30) hK hP hD hS hA rfl (by decide +kernel) (Nat.le_of_ble_eq_true rfl) (Nat.le_of_ble_eq_true rfl) dJx4a65c_iterator_32c93_0 (fun q_1 H hP hD hS => ?_)
  have hP : va_P (DG G) clP1 [(h0, .inr (1, [.int 0, .ref (aE G), .int 0])), (q_1, .inr (0, [.int 0, .int 0, .int 0, .null]))] H := hP
  have hD : va_D A [(h0, .inr (1, [.int 0, .ref (aE G), .int 0])), (q_1, .inr (0, [.int 0, .int 0, .int 0, .null]))] := hD
  refine W.widen (k := 1) (n := 4) (Nat.le_of_ble_eq_true rfl) (Nat.le_of_ble_eq_true rfl) ?_
  refine lv_dup hx hb dJx4a65c_iterator_32c93_3 rfl ?_
  refine lv_aload_n hx hb dJx4a65c_iterator_32c93_4 rfl (lv_at hl 0 rfl) ?_
  have hFc := va_free (wc := [(q_1, .inr (0, [.int 0, .int 0, .int 0, .null])), (h0, .inr (1, [.int 0, .ref (aE G), .int 0]))]) hD hS hA [1, 0] rfl
  refine va_callv (va_runI (As := [.ref h0]) (rest := [.ref q_1]) ⟨hx, hb, hml, hown, hts⟩ (k_J_itInit l hfl G q_1 h0 H.size) (cwI 1 hts (gC wm1582) rfl rfl rfl (hts _ wm30) (hts _ wm1580) (hts _ wm1581) rfl (by decide +kernel) ⟨Nat.le_of_ble_eq_true rfl, Nat.le_of_ble_eq_true rfl⟩) (pre_s hK hP hD hS hE [1, 0] rfl rfl (by decide) hFc) rfl rfl hl.1 rfl (lv_room (Nat.le_of_ble_eq_true rfl)) dJx4a65c_iterator_32c93_5 ⟨Nat.le_of_ble_eq_true rfl, Nat.le_of_ble_eq_true rfl⟩) hS (fun q _ h => hFc q h) hFc (fun u t H locs ht hvm hw hB hz1 hk1 hS => ?_)
  obtain ⟨hP1, hD1⟩ := hB
  rw [ht] at hP1
  obtain ⟨hP, hD⟩ := va_join (wr := []) (w1 := [(q_1, .inr (0, [.int 0, .int (-1), .int 0, .ref h0])), (h0, .inr (1, [.int 0, .ref (aE G), .int 0]))]) hP hD [1, 0] [] rfl rfl (by decide) (by decide) hk1 hFc hP1 hD1
  have hP : va_P (DG G) clP1 [(q_1, .inr (0, [.int 0, .int (-1), .int 0, .ref h0])), (h0, .inr (1, [.int 0, .ref (aE G), .int 0]))] H := hP
  have hD : va_D A [(q_1, .inr (0, [.int 0, .int (-1), .int 0, .ref h0])), (h0, .inr (1, [.int 0, .ref (aE G), .int 0]))] := hD
  refine W.widen (k := 1) (n := 4) (Nat.le_of_ble_eq_true rfl) (Nat.le_of_ble_eq_true rfl) ?_
  have hP9 := hP.sub (ws' := [(q_1, .inr (0, [.int 0, .int (-1), .int 0, .ref h0])), (h0, .inr (1, [.int 0, .ref (aE G), .int 0]))]) [0, 1] rfl
  have hD9 := hD.sub (ws' := [(q_1, .inr (0, [.int 0, .int (-1), .int 0, .ref h0])), (h0, .inr (1, [.int 0, .ref (aE G), .int 0]))]) [0, 1] (by decide) rfl
  refine W.widen (k := 1) (n := 4) (Nat.le_of_ble_eq_true rfl) (Nat.le_of_ble_eq_true rfl) ?_
  exact W.aret (v := .ref q_1) hx hb hr (Or.inl ⟨_, rfl⟩) (Or.inr ⟨_, rfl⟩) (fun t ht hW => ⟨⟨(), q_1, rfl, trivial, ⟨by rw [ht]; exact hP9, hD9⟩⟩, hS.F ht⟩) hS.2.2 dJx4a65c_iterator_32c93_8 hlocks
set_option maxHeartbeats 4000000 in
set_option maxRecDepth 100000 in
theorem k_J_hasNext (l : Launch) (hfl : l.stackTraces = false) (G : GC) (h0 : Nat) (a1 : Nat) (sz : Nat) : Met l yJx35411_hasNext_aae02 (Cond.code yJx35411_hasNext_aae02 cJx35411_hasNext_aae02 1 (some .boolean) :: W0) ({ frames := 0, cells := 0, slots := 0, locals := 0 }) (va_Pc [.ref h0] (WD G [(h0, .inr (0, [.int 0, .int (-1), .int 0, .ref a1])), (a1, .inr (1, [.int 0, .ref (aE G), .int 0]))] sz)) (va_Qi (fun (r : Int32) (_ : Unit) => r = 0) (fun _ t => PW G (va_A [(h0, .inr (0, [.int 0, .int (-1), .int 0, .ref a1])), (a1, .inr (1, [.int 0, .ref (aE G), .int 0]))] sz) [] t) (va_A [(h0, .inr (0, [.int 0, .int (-1), .int 0, .ref a1])), (a1, .inr (1, [.int 0, .ref (aE G), .int 0]))] sz)) 0 0 (va_A [(h0, .inr (0, [.int 0, .int (-1), .int 0, .ref a1])), (a1, .inr (1, [.int 0, .ref (aE G), .int 0]))] sz) := by
  refine Met.ofW (cc := cJx35411_hasNext_aae02) (maxL := 1) (ret := (some .boolean)) (by decide) rfl ?_
  intro p e s m args below meth c s₁ B hml hv
  obtain ⟨rfl, hsz, hP, hK, hD0, hE⟩ := hv
  have hx := B.exec
  have hb := B.bytes
  have hr := B.returns
  have hts := w0_tail B.pre
  have hown : s.vm.findClass RJx35411 = some m.cls := findClass_of_methodNamed B.named
  have hlocks := B.notSynchronized
  subst hsz
  have hD := hD0.self (sz := s.heap.size)
  generalize hAe : va_A [(h0, .inr (0, [.int 0, .int (-1), .int 0, .ref a1])), (a1, .inr (1, [.int 0, .ref (aE G), .int 0]))] s.heap.size = A at hD hE ⊢
  have hA : ∀ q : Nat, s.heap.size ≤ q → A q := fun q h => by rw [← hAe]; exact Or.inr h
  have hS : va_S A s.heap s.heap [] := va_S.rf
  obtain ⟨H, hHe⟩ : ∃ H : Heap, H = s.heap := ⟨_, rfl⟩
  have hP : va_P (DG G) clP1 [(h0, .inr (0, [.int 0, .int (-1), .int 0, .ref a1])), (a1, .inr (1, [.int 0, .ref (aE G), .int 0]))] H := by rw [hHe]; exact hP
  have hS : va_S A s.heap H [] := by rw [hHe]; exact hS
  have hl := lv_entry ([.ref h0]) (n := 1) (Nat.le_of_ble_eq_true rfl)
  rw [lg_entry_eq, ← hHe]
  generalize (lg_sl ([.ref h0]) ++ List.replicate (1 - (lg_sl ([.ref h0])).length) Slot.unset).toArray = ls at hl ⊢
  have hl : lv_has ls 1 [(0, .ref h0)] := hl
  refine lv_aload_n hx hb dJx35411_hasNext_aae02_0 rfl (lv_at hl 0 rfl) ?_
  refine va_get (D := DG G) (ci := 0) (v := .int 0) (C := RJx35411) (T := TJx35411) (N := 4) hx hb hts inW_Jx35411 hown hK hP 0 rfl rfl 0 (by decide) (hts _ wm1584) (fun _ h9 => h9) rfl dJx35411_hasNext_aae02_1 ?_
  refine lv_aload_n hx hb dJx35411_hasNext_aae02_4 rfl (lv_at hl 0 rfl) ?_
  refine va_get (D := DG G) (ci := 0) (v := .ref a1) (C := RJx35411) (T := TJx35411) (N := 4) hx hb hts inW_Jx35411 hown hK hP 0 rfl rfl 3 (by decide) (hts _ wm1587) (fun _ h9 => h9) rfl dJx35411_hasNext_aae02_5 ?_
  refine va_getN (D := DG G) (ci := 1) (v := .int 0) (C := RJx4a65c) (T := TJx4a65c) (N := 3) hx hb hts inW_Jx4a65c hown hK hP 1 rfl rfl 2 (by decide) (va_Nw.use rfl (hE.1 _ nw1332)) (fun _ h9 => h9) rfl dJx35411_hasNext_aae02_8 ?_
  refine lv_icmp_eq (tgt := 18) hx hb dJx35411_hasNext_aae02_11 (by decide) (fun _ => ?_) (fun c => absurd (by decide) c)
  refine lv_iconst (v := 0) hx hb dJx35411_hasNext_aae02_18 (by decide) ?_
  have hP9 := hP.sub (ws' := []) [] rfl
  have hD9 := hD.sub (ws' := []) [] (by decide) rfl
  refine W.widen (k := 0) (n := 0) (Nat.le_of_ble_eq_true rfl) (Nat.le_of_ble_eq_true rfl) ?_
  exact W.zret (v := 0) (ty := .boolean) hx hb hr (by decide) (fun t ht hW => ⟨⟨0, (), rfl, rfl, ⟨by rw [ht]; exact hP9, hD9⟩⟩, hS.F ht⟩) hS.2.2 dJx35411_hasNext_aae02_19 hlocks
set_option maxHeartbeats 4000000 in
set_option maxRecDepth 100000 in
theorem k_X17_init (l : Launch) (hfl : l.stackTraces = false) (G : GC) (h0 : Nat) (sz : Nat) : Met l yX17_init (Cond.code yX17_init cX17_init 1 none :: W0) ({ frames := 4, cells := 5, slots := 18, locals := 72 }) (va_Pc [.ref h0] (WD G [(h0, .inr (12, [.int 0, .null, .int 0, .null, .null, .null, .null, .long 0, .int 0]))] sz)) (va_Qv (fun _ : Unit => True) (fun _ t => ∃ (zz0 : Nat) (zz1 : Nat) (zz2 : Nat) (zz3 : Nat) (zz4 : Nat), PW G (va_A [(h0, .inr (12, [.int 0, .null, .int 0, .null, .null, .null, .null, .long 0, .int 0]))] sz) [(h0, .inr (12, [.int 0, .ref zz0, .int 0, .ref zz1, .ref zz2, .ref zz3, .ref zz4, .long 0, .int 0])), (zz0, .inr (1, [.int 0, .ref (aE G), .int 0])), (zz2, .inr (1, [.int 0, .ref (aE G), .int 0])), (zz3, .inr (1, [.int 0, .ref (aE G), .int 0])), (zz4, .inr (1, [.int 0, .ref (aE G), .int 0]))] t) (va_A [(h0, .inr (12, [.int 0, .null, .int 0, .null, .null, .null, .null, .long 0, .int 0]))] sz)) 5 18 (va_A [(h0, .inr (12, [.int 0, .null, .int 0, .null, .null, .null, .null, .long 0, .int 0]))] sz) := by
  refine Met.ofW (cc := cX17_init) (maxL := 1) (ret := none) (by decide) rfl ?_
  intro p e s m args below meth c s₁ B hml hv
  obtain ⟨rfl, hsz, hP, hK, hD0, hE⟩ := hv
  have hx := B.exec
  have hb := B.bytes
  have hr := B.returns
  have hts := w0_tail B.pre
  have hown : s.vm.findClass RX17 = some m.cls := findClass_of_methodNamed B.named
  have hlocks := B.notSynchronized
  have hin : meth.name = "<init>" := (name_of_methodNamed B.named B.method).1
  subst hsz
  have hD := hD0.self (sz := s.heap.size)
  generalize hAe : va_A [(h0, .inr (12, [.int 0, .null, .int 0, .null, .null, .null, .null, .long 0, .int 0]))] s.heap.size = A at hD hE ⊢
  have hA : ∀ q : Nat, s.heap.size ≤ q → A q := fun q h => by rw [← hAe]; exact Or.inr h
  have hS : va_S A s.heap s.heap [] := va_S.rf
  obtain ⟨H, hHe⟩ : ∃ H : Heap, H = s.heap := ⟨_, rfl⟩
  have hP : va_P (DG G) clP1 [(h0, .inr (12, [.int 0, .null, .int 0, .null, .null, .null, .null, .long 0, .int 0]))] H := by rw [hHe]; exact hP
  have hS : va_S A s.heap H [] := by rw [hHe]; exact hS
  have hl := lv_entry ([.ref h0]) (n := 1) (Nat.le_of_ble_eq_true rfl)
  rw [lg_entry_eq, ← hHe]
  generalize (lg_sl ([.ref h0]) ++ List.replicate (1 - (lg_sl ([.ref h0])).length) Slot.unset).toArray = ls at hl ⊢
  have hl : lv_has ls 1 [(0, .ref h0)] := hl
  refine lv_aload_n hx hb dX17_init_0 rfl (lv_at hl 0 rfl) ?_
  refine W.objInit hx hb hown (hts _ wm1315) (hts _ wm46) (hts _ wm47) rfl (by rw [hml]; exact hl.1) rfl dX17_init_1 (Nat.le_of_ble_eq_true rfl) (Nat.le_of_ble_eq_true rfl) ?_
  refine W.eq (g2 := F0 m 4 ls []) rfl ?_
  refine lv_aload_n hx hb dX17_init_4 rfl (lv_at hl 0 rfl) ?_
  refine va_new (ci := 1) (fs := [.int 0, .null, .int 0]) (C := RJx4a65c) (T := TJx4a65c) (N := 3) hx hb hts inW_Jx4a65c tyJx4a65c tyJx4a65c_ok hown (hts _ wm1316) (hts _ wm1317) (hts _ wm14) hK hP hD hS hA rfl (by decide +kernel) (Nat.le_of_ble_eq_true rfl) (Nat.le_of_ble_eq_true rfl) dX17_init_5 (fun q_1 H hP hD hS => ?_)
  have hP : va_P (DG G) clP1 [(h0, .inr (12, [.int 0, .null, .int 0, .null, .null, .null, .null, .long 0, .int 0])), (q_1, .inr (1, [.int 0, .null, .int 0]))] H := hP
  have hD : va_D A [(h0, .inr (12, [.int 0, .null, .int 0, .null, .null, .null, .null, .long 0, .int 0])), (q_1, .inr (1, [.int 0, .null, .int 0]))] := hD
  refine W.widen (k := 1) (n := 3) (Nat.le_of_ble_eq_true rfl) (Nat.le_of_ble_eq_true rfl) ?_
  refine lv_dup hx hb dX17_init_8 rfl ?_
  have hFc := va_free (wc := [(q_1, .inr (1, [.int 0, .null, .int 0]))]) hD hS hA [1] rfl
  refine va_callv (va_runI (As := []) (rest := [.ref q_1, .ref h0]) ⟨hx, hb, hml, hown, hts⟩ (k_J_alInit l hfl G q_1 H.size) (cwI 0 hts (gC wm1320) rfl rfl rfl (hts _ wm14) (hts _ wm1318) (hts _ wm1319) rfl (by decide +kernel) ⟨Nat.le_of_ble_eq_true rfl, Nat.le_of_ble_eq_true rfl⟩) (pre_s hK hP hD hS hE [1] rfl rfl (by decide) hFc) rfl rfl hl.1 rfl (lv_room (Nat.le_of_ble_eq_true rfl)) dX17_init_9 ⟨Nat.le_of_ble_eq_true rfl, Nat.le_of_ble_eq_true rfl⟩) hS (fun q _ h => hFc q h) hFc (fun u t H locs ht hvm hw hB hz1 hk1 hS => ?_)
  obtain ⟨hP1, hD1⟩ := hB
  rw [ht] at hP1
  obtain ⟨hP, hD⟩ := va_join (wr := [(h0, .inr (12, [.int 0, .null, .int 0, .null, .null, .null, .null, .long 0, .int 0]))]) (w1 := [(q_1, .inr (1, [.int 0, .ref (aE G), .int 0]))]) hP hD [1] [0] rfl rfl (by decide) (by decide) hk1 hFc hP1 hD1
  have hP : va_P (DG G) clP1 [(h0, .inr (12, [.int 0, .null, .int 0, .null, .null, .null, .null, .long 0, .int 0])), (q_1, .inr (1, [.int 0, .ref (aE G), .int 0]))] H := hP
  have hD : va_D A [(h0, .inr (12, [.int 0, .null, .int 0, .null, .null, .null, .null, .long 0, .int 0])), (q_1, .inr (1, [.int 0, .ref (aE G), .int 0]))] := hD
  refine W.widen (k := 1) (n := 3) (Nat.le_of_ble_eq_true rfl) (Nat.le_of_ble_eq_true rfl) ?_
  refine va_putF (D := DG G) (ci := 12) (v := .ref q_1) (ty := tyX17 1) (C := RX17) (T := TX17) (N := 9) hx hb hts inW_X17 tyX17 tyX17_ok nmX17 hown hK hP hD hS 0 rfl rfl 1 (by decide) (hts _ wm1346) (fun _ h9 => h9) rfl hin rfl (by decide +kernel) rfl rfl (Nat.le_of_ble_eq_true rfl) dX17_init_12 (fun H locs hP hD hS => ?_)
  have hP : va_P (DG G) clP1 [(h0, .inr (12, [.int 0, .ref q_1, .int 0, .null, .null, .null, .null, .long 0, .int 0])), (q_1, .inr (1, [.int 0, .ref (aE G), .int 0]))] H := hP
  have hD : va_D A [(h0, .inr (12, [.int 0, .ref q_1, .int 0, .null, .null, .null, .null, .long 0, .int 0])), (q_1, .inr (1, [.int 0, .ref (aE G), .int 0]))] := hD
  refine lv_aload_n hx hb dX17_init_15 rfl (lv_at hl 0 rfl) ?_
  refine lv_bipush (v := 6) hx hb dX17_init_16 (by decide) ?_
  refine my_newa (atype := .boolean) (N' := 6) (a0 := (6, .inl (fun _ => 0))) (t1 := 1) hx hb (hts _ wm87) rfl rfl hK hP hD hS hA (fun _ => rfl) (by decide) (by decide) (Nat.le_of_ble_eq_true rfl) (Nat.le_of_ble_eq_true rfl) (Nat.le_of_ble_eq_true rfl) dX17_init_18 (fun q_2 H hP hD hS => ?_)
  have hP : va_P (DG G) clP1 [(h0, .inr (12, [.int 0, .ref q_1, .int 0, .null, .null, .null, .null, .long 0, .int 0])), (q_1, .inr (1, [.int 0, .ref (aE G), .int 0])), (q_2, .inl (cyA G 1, 6, .inl (fun _ => 0)))] H := hP
  have hD : va_D A [(h0, .inr (12, [.int 0, .ref q_1, .int 0, .null, .null, .null, .null, .long 0, .int 0])), (q_1, .inr (1, [.int 0, .ref (aE G), .int 0])), (q_2, .inl (cyA G 1, 6, .inl (fun _ => 0)))] := hD
  refine W.widen (k := 2) (n := 9) (Nat.le_of_ble_eq_true rfl) (Nat.le_of_ble_eq_true rfl) ?_
  refine va_putF (D := DG G) (ci := 12) (v := .ref q_2) (ty := tyX17 3) (C := RX17) (T := TX17) (N := 9) hx hb hts inW_X17 tyX17 tyX17_ok nmX17 hown hK hP hD hS 0 rfl rfl 3 (by decide) (hts _ wm1348) (fun _ h9 => h9) rfl hin rfl (by decide +kernel) rfl rfl (Nat.le_of_ble_eq_true rfl) dX17_init_20 (fun H locs hP hD hS => ?_)
  have hP : va_P (DG G) clP1 [(h0, .inr (12, [.int 0, .ref q_1, .int 0, .ref q_2, .null, .null, .null, .long 0, .int 0])), (q_1, .inr (1, [.int 0, .ref (aE G), .int 0])), (q_2, .inl (cyA G 1, 6, .inl (fun _ => 0)))] H := hP
  have hD : va_D A [(h0, .inr (12, [.int 0, .ref q_1, .int 0, .ref q_2, .null, .null, .null, .long 0, .int 0])), (q_1, .inr (1, [.int 0, .ref (aE G), .int 0])), (q_2, .inl (cyA G 1, 6, .inl (fun _ => 0)))] := hD
  refine lv_aload_n hx hb dX17_init_23 rfl (lv_at hl 0 rfl) ?_
  refine va_new (ci := 1) (fs := [.int 0, .null, .int 0]) (C := RJx4a65c) (T := TJx4a65c) (N := 3) hx hb hts inW_Jx4a65c tyJx4a65c tyJx4a65c_ok hown (hts _ wm1316) (hts _ wm1317) (hts _ wm14) hK hP hD hS hA rfl (by decide +kernel) (Nat.le_of_ble_eq_true rfl) (Nat.le_of_ble_eq_true rfl) dX17_init_24 (fun q_3 H hP hD hS => ?_)
  have hP : va_P (DG G) clP1 [(h0, .inr (12, [.int 0, .ref q_1, .int 0, .ref q_2, .null, .null, .null, .long 0, .int 0])), (q_1, .inr (1, [.int 0, .ref (aE G), .int 0])), (q_2, .inl (cyA G 1, 6, .inl (fun _ => 0))), (q_3, .inr (1, [.int 0, .null, .int 0]))] H := hP
  have hD : va_D A [(h0, .inr (12, [.int 0, .ref q_1, .int 0, .ref q_2, .null, .null, .null, .long 0, .int 0])), (q_1, .inr (1, [.int 0, .ref (aE G), .int 0])), (q_2, .inl (cyA G 1, 6, .inl (fun _ => 0))), (q_3, .inr (1, [.int 0, .null, .int 0]))] := hD
  refine W.widen (k := 3) (n := 12) (Nat.le_of_ble_eq_true rfl) (Nat.le_of_ble_eq_true rfl) ?_
  refine lv_dup hx hb dX17_init_27 rfl ?_
  have hFc := va_free (wc := [(q_3, .inr (1, [.int 0, .null, .int 0]))]) hD hS hA [3] rfl
  refine va_callv (va_runI (As := []) (rest := [.ref q_3, .ref h0]) ⟨hx, hb, hml, hown, hts⟩ (k_J_alInit l hfl G q_3 H.size) (cwI 0 hts (gC wm1320) rfl rfl rfl (hts _ wm14) (hts _ wm1318) (hts _ wm1319) rfl (by decide +kernel) ⟨Nat.le_of_ble_eq_true rfl, Nat.le_of_ble_eq_true rfl⟩) (pre_s hK hP hD hS hE [3] rfl rfl (by decide) hFc) rfl rfl hl.1 rfl (lv_room (Nat.le_of_ble_eq_true rfl)) dX17_init_28 ⟨Nat.le_of_ble_eq_true rfl, Nat.le_of_ble_eq_true rfl⟩) hS (fun q _ h => hFc q h) hFc (fun u t H locs ht hvm hw hB hz1 hk1 hS => ?_)
  obtain ⟨hP1, hD1⟩ := hB
  rw [ht] at hP1
  obtain ⟨hP, hD⟩ := va_join (wr := [(h0, .inr (12, [.int 0, .ref q_1, .int 0, .ref q_2, .null, .null, .null, .long 0, .int 0])), (q_1, .inr (1, [.int 0, .ref (aE G), .int 0])), (q_2, .inl (cyA G 1, 6, .inl (fun _ => 0)))]) (w1 := [(q_3, .inr (1, [.int 0, .ref (aE G), .int 0]))]) hP hD [3] [0, 1, 2] rfl rfl (by decide) (by decide) hk1 hFc hP1 hD1
  have hP : va_P (DG G) clP1 [(h0, .inr (12, [.int 0, .ref q_1, .int 0, .ref q_2, .null, .null, .null, .long 0, .int 0])), (q_1, .inr (1, [.int 0, .ref (aE G), .int 0])), (q_2, .inl (cyA G 1, 6, .inl (fun _ => 0))), (q_3, .inr (1, [.int 0, .ref (aE G), .int 0]))] H := hP
  have hD : va_D A [(h0, .inr (12, [.int 0, .ref q_1, .int 0, .ref q_2, .null, .null, .null, .long 0, .int 0])), (q_1, .inr (1, [.int 0, .ref (aE G), .int 0])), (q_2, .inl (cyA G 1, 6, .inl (fun _ => 0))), (q_3, .inr (1, [.int 0, .ref (aE G), .int 0]))] := hD
  refine W.widen (k := 3) (n := 12) (Nat.le_of_ble_eq_true rfl) (Nat.le_of_ble_eq_true rfl) ?_
  refine va_putF (D := DG G) (ci := 12) (v := .ref q_3) (ty := tyX17 4) (C := RX17) (T := TX17) (N := 9) hx hb hts inW_X17 tyX17 tyX17_ok nmX17 hown hK hP hD hS 0 rfl rfl 4 (by decide) (hts _ wm1349) (fun _ h9 => h9) rfl hin rfl (by decide +kernel) rfl rfl (Nat.le_of_ble_eq_true rfl) dX17_init_31 (fun H locs hP hD hS => ?_)
  have hP : va_P (DG G) clP1 [(h0, .inr (12, [.int 0, .ref q_1, .int 0, .ref q_2, .ref q_3, .null, .null, .long 0, .int 0])), (q_1, .inr (1, [.int 0, .ref (aE G), .int 0])), (q_2, .inl (cyA G 1, 6, .inl (fun _ => 0))), (q_3, .inr (1, [.int 0, .ref (aE G), .int 0]))] H := hP
  have hD : va_D A [(h0, .inr (12, [.int 0, .ref q_1, .int 0, .ref q_2, .ref q_3, .null, .null, .long 0, .int 0])), (q_1, .inr (1, [.int 0, .ref (aE G), .int 0])), (q_2, .inl (cyA G 1, 6, .inl (fun _ => 0))), (q_3, .inr (1, [.int 0, .ref (aE G), .int 0]))] := hD
  refine lv_aload_n hx hb dX17_init_34 rfl (lv_at hl 0 rfl) ?_
  refine va_new (ci := 1) (fs := [.int 0, .null, .int 0]) (C := RJx4a65c) (T := TJx4a65c) (N := 3) hx hb hts inW_Jx4a65c tyJx4a65c tyJx4a65c_ok hown (hts _ wm1316) (hts _ wm1317) (hts _ wm14) hK hP hD hS hA rfl (by decide +kernel) (Nat.le_of_ble_eq_true rfl) (Nat.le_of_ble_eq_true rfl) dX17_init_35 (fun q_4 H hP hD hS => ?_)
  have hP : va_P (DG G) clP1 [(h0, .inr (12, [.int 0, .ref q_1, .int 0, .ref q_2, .ref q_3, .null, .null, .long 0, .int 0])), (q_1, .inr (1, [.int 0, .ref (aE G), .int 0])), (q_2, .inl (cyA G 1, 6, .inl (fun _ => 0))), (q_3, .inr (1, [.int 0, .ref (aE G), .int 0])), (q_4, .inr (1, [.int 0, .null, .int 0]))] H := hP
  have hD : va_D A [(h0, .inr (12, [.int 0, .ref q_1, .int 0, .ref q_2, .ref q_3, .null, .null, .long 0, .int 0])), (q_1, .inr (1, [.int 0, .ref (aE G), .int 0])), (q_2, .inl (cyA G 1, 6, .inl (fun _ => 0))), (q_3, .inr (1, [.int 0, .ref (aE G), .int 0])), (q_4, .inr (1, [.int 0, .null, .int 0]))] := hD
  refine W.widen (k := 4) (n := 15) (Nat.le_of_ble_eq_true rfl) (Nat.le_of_ble_eq_true rfl) ?_
  refine lv_dup hx hb dX17_init_38 rfl ?_
  have hFc := va_free (wc := [(q_4, .inr (1, [.int 0, .null, .int 0]))]) hD hS hA [4] rfl
  refine va_callv (va_runI (As := []) (rest := [.ref q_4, .ref h0]) ⟨hx, hb, hml, hown, hts⟩ (k_J_alInit l hfl G q_4 H.size) (cwI 0 hts (gC wm1320) rfl rfl rfl (hts _ wm14) (hts _ wm1318) (hts _ wm1319) rfl (by decide +kernel) ⟨Nat.le_of_ble_eq_true rfl, Nat.le_of_ble_eq_true rfl⟩) (pre_s hK hP hD hS hE [4] rfl rfl (by decide) hFc) rfl rfl hl.1 rfl (lv_room (Nat.le_of_ble_eq_true rfl)) dX17_init_39 ⟨Nat.le_of_ble_eq_true rfl, Nat.le_of_ble_eq_true rfl⟩) hS (fun q _ h => hFc q h) hFc (fun u t H locs ht hvm hw hB hz1 hk1 hS => ?_)
  obtain ⟨hP1, hD1⟩ := hB
  rw [ht] at hP1
  obtain ⟨hP, hD⟩ := va_join (wr := [(h0, .inr (12, [.int 0, .ref q_1, .int 0, .ref q_2, .ref q_3, .null, .null, .long 0, .int 0])), (q_1, .inr (1, [.int 0, .ref (aE G), .int 0])), (q_2, .inl (cyA G 1, 6, .inl (fun _ => 0))), (q_3, .inr (1, [.int 0, .ref (aE G), .int 0]))]) (w1 := [(q_4, .inr (1, [.int 0, .ref (aE G), .int 0]))]) hP hD [4] [0, 1, 2, 3] rfl rfl (by decide) (by decide) hk1 hFc hP1 hD1
  have hP : va_P (DG G) clP1 [(h0, .inr (12, [.int 0, .ref q_1, .int 0, .ref q_2, .ref q_3, .null, .null, .long 0, .int 0])), (q_1, .inr (1, [.int 0, .ref (aE G), .int 0])), (q_2, .inl (cyA G 1, 6, .inl (fun _ => 0))), (q_3, .inr (1, [.int 0, .ref (aE G), .int 0])), (q_4, .inr (1, [.int 0, .ref (aE G), .int 0]))] H := hP
  have hD : va_D A [(h0, .inr (12, [.int 0, .ref q_1, .int 0, .ref q_2, .ref q_3, .null, .null, .long 0, .int 0])), (q_1, .inr (1, [.int 0, .ref (aE G), .int 0])), (q_2, .inl (cyA G 1, 6, .inl (fun _ => 0))), (q_3, .inr (1, [.int 0, .ref (aE G), .int 0])), (q_4, .inr (1, [.int 0, .ref (aE G), .int 0]))] := hD
  refine W.widen (k := 4) (n := 15) (Nat.le_of_ble_eq_true rfl) (Nat.le_of_ble_eq_true rfl) ?_
  refine va_putF (D := DG G) (ci := 12) (v := .ref q_4) (ty := tyX17 5) (C := RX17) (T := TX17) (N := 9) hx hb hts inW_X17 tyX17 tyX17_ok nmX17 hown hK hP hD hS 0 rfl rfl 5 (by decide) (hts _ wm1350) (fun _ h9 => h9) rfl hin rfl (by decide +kernel) rfl rfl (Nat.le_of_ble_eq_true rfl) dX17_init_42 (fun H locs hP hD hS => ?_)
  have hP : va_P (DG G) clP1 [(h0, .inr (12, [.int 0, .ref q_1, .int 0, .ref q_2, .ref q_3, .ref q_4, .null, .long 0, .int 0])), (q_1, .inr (1, [.int 0, .ref (aE G), .int 0])), (q_2, .inl (cyA G 1, 6, .inl (fun _ => 0))), (q_3, .inr (1, [.int 0, .ref (aE G), .int 0])), (q_4, .inr (1, [.int 0, .ref (aE G), .int 0]))] H := hP
  have hD : va_D A [(h0, .inr (12, [.int 0, .ref q_1, .int 0, .ref q_2, .ref q_3, .ref q_4, .null, .long 0, .int 0])), (q_1, .inr (1, [.int 0, .ref (aE G), .int 0])), (q_2, .inl (cyA G 1, 6, .inl (fun _ => 0))), (q_3, .inr (1, [.int 0, .ref (aE G), .int 0])), (q_4, .inr (1, [.int 0, .ref (aE G), .int 0]))] := hD
  refine lv_aload_n hx hb dX17_init_45 rfl (lv_at hl 0 rfl) ?_
  refine va_new (ci := 1) (fs := [.int 0, .null, .int 0]) (C := RJx4a65c) (T := TJx4a65c) (N := 3) hx hb hts inW_Jx4a65c tyJx4a65c tyJx4a65c_ok hown (hts _ wm1316) (hts _ wm1317) (hts _ wm14) hK hP hD hS hA rfl (by decide +kernel) (Nat.le_of_ble_eq_true rfl) (Nat.le_of_ble_eq_true rfl) dX17_init_46 (fun q_5 H hP hD hS => ?_)
  have hP : va_P (DG G) clP1 [(h0, .inr (12, [.int 0, .ref q_1, .int 0, .ref q_2, .ref q_3, .ref q_4, .null, .long 0, .int 0])), (q_1, .inr (1, [.int 0, .ref (aE G), .int 0])), (q_2, .inl (cyA G 1, 6, .inl (fun _ => 0))), (q_3, .inr (1, [.int 0, .ref (aE G), .int 0])), (q_4, .inr (1, [.int 0, .ref (aE G), .int 0])), (q_5, .inr (1, [.int 0, .null, .int 0]))] H := hP
  have hD : va_D A [(h0, .inr (12, [.int 0, .ref q_1, .int 0, .ref q_2, .ref q_3, .ref q_4, .null, .long 0, .int 0])), (q_1, .inr (1, [.int 0, .ref (aE G), .int 0])), (q_2, .inl (cyA G 1, 6, .inl (fun _ => 0))), (q_3, .inr (1, [.int 0, .ref (aE G), .int 0])), (q_4, .inr (1, [.int 0, .ref (aE G), .int 0])), (q_5, .inr (1, [.int 0, .null, .int 0]))] := hD
  refine W.widen (k := 5) (n := 18) (Nat.le_of_ble_eq_true rfl) (Nat.le_of_ble_eq_true rfl) ?_
  refine lv_dup hx hb dX17_init_49 rfl ?_
  have hFc := va_free (wc := [(q_5, .inr (1, [.int 0, .null, .int 0]))]) hD hS hA [5] rfl
  refine va_callv (va_runI (As := []) (rest := [.ref q_5, .ref h0]) ⟨hx, hb, hml, hown, hts⟩ (k_J_alInit l hfl G q_5 H.size) (cwI 0 hts (gC wm1320) rfl rfl rfl (hts _ wm14) (hts _ wm1318) (hts _ wm1319) rfl (by decide +kernel) ⟨Nat.le_of_ble_eq_true rfl, Nat.le_of_ble_eq_true rfl⟩) (pre_s hK hP hD hS hE [5] rfl rfl (by decide) hFc) rfl rfl hl.1 rfl (lv_room (Nat.le_of_ble_eq_true rfl)) dX17_init_50 ⟨Nat.le_of_ble_eq_true rfl, Nat.le_of_ble_eq_true rfl⟩) hS (fun q _ h => hFc q h) hFc (fun u t H locs ht hvm hw hB hz1 hk1 hS => ?_)
  obtain ⟨hP1, hD1⟩ := hB
  rw [ht] at hP1
  obtain ⟨hP, hD⟩ := va_join (wr := [(h0, .inr (12, [.int 0, .ref q_1, .int 0, .ref q_2, .ref q_3, .ref q_4, .null, .long 0, .int 0])), (q_1, .inr (1, [.int 0, .ref (aE G), .int 0])), (q_2, .inl (cyA G 1, 6, .inl (fun _ => 0))), (q_3, .inr (1, [.int 0, .ref (aE G), .int 0])), (q_4, .inr (1, [.int 0, .ref (aE G), .int 0]))]) (w1 := [(q_5, .inr (1, [.int 0, .ref (aE G), .int 0]))]) hP hD [5] [0, 1, 2, 3, 4] rfl rfl (by decide) (by decide) hk1 hFc hP1 hD1
  have hP : va_P (DG G) clP1 [(h0, .inr (12, [.int 0, .ref q_1, .int 0, .ref q_2, .ref q_3, .ref q_4, .null, .long 0, .int 0])), (q_1, .inr (1, [.int 0, .ref (aE G), .int 0])), (q_2, .inl (cyA G 1, 6, .inl (fun _ => 0))), (q_3, .inr (1, [.int 0, .ref (aE G), .int 0])), (q_4, .inr (1, [.int 0, .ref (aE G), .int 0])), (q_5, .inr (1, [.int 0, .ref (aE G), .int 0]))] H := hP
  have hD : va_D A [(h0, .inr (12, [.int 0, .ref q_1, .int 0, .ref q_2, .ref q_3, .ref q_4, .null, .long 0, .int 0])), (q_1, .inr (1, [.int 0, .ref (aE G), .int 0])), (q_2, .inl (cyA G 1, 6, .inl (fun _ => 0))), (q_3, .inr (1, [.int 0, .ref (aE G), .int 0])), (q_4, .inr (1, [.int 0, .ref (aE G), .int 0])), (q_5, .inr (1, [.int 0, .ref (aE G), .int 0]))] := hD
  refine W.widen (k := 5) (n := 18) (Nat.le_of_ble_eq_true rfl) (Nat.le_of_ble_eq_true rfl) ?_
  refine va_putF (D := DG G) (ci := 12) (v := .ref q_5) (ty := tyX17 6) (C := RX17) (T := TX17) (N := 9) hx hb hts inW_X17 tyX17 tyX17_ok nmX17 hown hK hP hD hS 0 rfl rfl 6 (by decide) (hts _ wm1351) (fun _ h9 => h9) rfl hin rfl (by decide +kernel) rfl rfl (Nat.le_of_ble_eq_true rfl) dX17_init_53 (fun H locs hP hD hS => ?_)
  have hP : va_P (DG G) clP1 [(h0, .inr (12, [.int 0, .ref q_1, .int 0, .ref q_2, .ref q_3, .ref q_4, .ref q_5, .long 0, .int 0])), (q_1, .inr (1, [.int 0, .ref (aE G), .int 0])), (q_2, .inl (cyA G 1, 6, .inl (fun _ => 0))), (q_3, .inr (1, [.int 0, .ref (aE G), .int 0])), (q_4, .inr (1, [.int 0, .ref (aE G), .int 0])), (q_5, .inr (1, [.int 0, .ref (aE G), .int 0]))] H := hP
  have hD : va_D A [(h0, .inr (12, [.int 0, .ref q_1, .int 0, .ref q_2, .ref q_3, .ref q_4, .ref q_5, .long 0, .int 0])), (q_1, .inr (1, [.int 0, .ref (aE G), .int 0])), (q_2, .inl (cyA G 1, 6, .inl (fun _ => 0))), (q_3, .inr (1, [.int 0, .ref (aE G), .int 0])), (q_4, .inr (1, [.int 0, .ref (aE G), .int 0])), (q_5, .inr (1, [.int 0, .ref (aE G), .int 0]))] := hD
  have hP9 := hP.sub (ws' := [(h0, .inr (12, [.int 0, .ref q_1, .int 0, .ref q_2, .ref q_3, .ref q_4, .ref q_5, .long 0, .int 0])), (q_1, .inr (1, [.int 0, .ref (aE G), .int 0])), (q_3, .inr (1, [.int 0, .ref (aE G), .int 0])), (q_4, .inr (1, [.int 0, .ref (aE G), .int 0])), (q_5, .inr (1, [.int 0, .ref (aE G), .int 0]))]) [0, 1, 3, 4, 5] rfl
  have hD9 := hD.sub (ws' := [(h0, .inr (12, [.int 0, .ref q_1, .int 0, .ref q_2, .ref q_3, .ref q_4, .ref q_5, .long 0, .int 0])), (q_1, .inr (1, [.int 0, .ref (aE G), .int 0])), (q_3, .inr (1, [.int 0, .ref (aE G), .int 0])), (q_4, .inr (1, [.int 0, .ref (aE G), .int 0])), (q_5, .inr (1, [.int 0, .ref (aE G), .int 0]))]) [0, 1, 3, 4, 5] (by decide) rfl
  refine W.widen (k := 5) (n := 18) (Nat.le_of_ble_eq_true rfl) (Nat.le_of_ble_eq_true rfl) ?_
  exact W.vret hx hb hr (fun t ht hW => ⟨⟨(), rfl, trivial, ⟨q_1, q_2, q_3, q_4, q_5, by rw [ht]; exact hP9, hD9⟩⟩, hS.F ht⟩) hS.2.2 dX17_init_56 hlocks
set_option maxHeartbeats 4000000 in
set_option maxRecDepth 100000 in
theorem k_X17_thrown (l : Launch) (hfl : l.stackTraces = false) (G : GC) (h0 : Nat) (th : Int32) (n1 : Nat) (md : Int32) (b1 : Nat) (c1 : Nat) (f1 : Nat) (g1 : Nat) (sz : Nat) : Met l yX17_thrown (Cond.code yX17_thrown cX17_thrown 1 (some .int) :: W0) ({ frames := 0, cells := 0, slots := 0, locals := 0 }) (va_Pc [.ref h0] (WD G [(h0, .inr (12, [.int th, .ref n1, .int md, .ref b1, .ref c1, .ref f1, .ref g1, .long 0, .int 0]))] sz)) (va_Qi (fun (r : Int32) (_ : Unit) => r = th) (fun _ t => PW G (va_A [(h0, .inr (12, [.int th, .ref n1, .int md, .ref b1, .ref c1, .ref f1, .ref g1, .long 0, .int 0]))] sz) [] t) (va_A [(h0, .inr (12, [.int th, .ref n1, .int md, .ref b1, .ref c1, .ref f1, .ref g1, .long 0, .int 0]))] sz)) 0 0 (va_A [(h0, .inr (12, [.int th, .ref n1, .int md, .ref b1, .ref c1, .ref f1, .ref g1, .long 0, .int 0]))] sz) := by
  refine Met.ofW (cc := cX17_thrown) (maxL := 1) (ret := (some .int)) (by decide) rfl ?_
  intro p e s m args below meth c s₁ B hml hv
  obtain ⟨rfl, hsz, hP, hK, hD0, hE⟩ := hv
  have hx := B.exec
  have hb := B.bytes
  have hr := B.returns
  have hts := w0_tail B.pre
  have hown : s.vm.findClass RX17 = some m.cls := findClass_of_methodNamed B.named
  have hlocks := B.notSynchronized
  subst hsz
  have hD := hD0.self (sz := s.heap.size)
  generalize hAe : va_A [(h0, .inr (12, [.int th, .ref n1, .int md, .ref b1, .ref c1, .ref f1, .ref g1, .long 0, .int 0]))] s.heap.size = A at hD hE ⊢
  have hA : ∀ q : Nat, s.heap.size ≤ q → A q := fun q h => by rw [← hAe]; exact Or.inr h
  have hS : va_S A s.heap s.heap [] := va_S.rf
  obtain ⟨H, hHe⟩ : ∃ H : Heap, H = s.heap := ⟨_, rfl⟩
  have hP : va_P (DG G) clP1 [(h0, .inr (12, [.int th, .ref n1, .int md, .ref b1, .ref c1, .ref f1, .ref g1, .long 0, .int 0]))] H := by rw [hHe]; exact hP
  have hS : va_S A s.heap H [] := by rw [hHe]; exact hS
  have hl := lv_entry ([.ref h0]) (n := 1) (Nat.le_of_ble_eq_true rfl)
  rw [lg_entry_eq, ← hHe]
  generalize (lg_sl ([.ref h0]) ++ List.replicate (1 - (lg_sl ([.ref h0])).length) Slot.unset).toArray = ls at hl ⊢
  have hl : lv_has ls 1 [(0, .ref h0)] := hl
  refine lv_aload_n hx hb dX17_thrown_0 rfl (lv_at hl 0 rfl) ?_
  refine va_get (D := DG G) (ci := 12) (v := .int th) (C := RX17) (T := TX17) (N := 9) hx hb hts inW_X17 hown hK hP 0 rfl rfl 0 (by decide) (hts _ wm1345) (fun _ h9 => h9) rfl dX17_thrown_1 ?_
  have hP9 := hP.sub (ws' := []) [] rfl
  have hD9 := hD.sub (ws' := []) [] (by decide) rfl
  refine W.widen (k := 0) (n := 0) (Nat.le_of_ble_eq_true rfl) (Nat.le_of_ble_eq_true rfl) ?_
  exact W.iret (v := th) hx hb hr (fun t ht hW => ⟨⟨th, (), rfl, rfl, ⟨by rw [ht]; exact hP9, hD9⟩⟩, hS.F ht⟩) hS.2.2 dX17_thrown_4 hlocks
set_option maxHeartbeats 4000000 in
set_option maxRecDepth 100000 in
theorem k_X17_fails_0 (l : Launch) (hfl : l.stackTraces = false) (G : GC) (h0 : Nat) (th : Int32) (n1 : Nat) (b1 : Nat) (c1 : Nat) (f1 : Nat) (g1 : Nat) (sz : Nat) : Met l yX17_fails (Cond.code yX17_fails cX17_fails 2 (some .boolean) :: W0) ({ frames := 0, cells := 0, slots := 0, locals := 0 }) (va_Pc [.ref h0, .int 0] (WD G [(h0, .inr (12, [.int th, .ref n1, .int 0, .ref b1, .ref c1, .ref f1, .ref g1, .long 0, .int 0]))] sz)) (va_Qi (fun (r : Int32) (_ : Unit) => r = 0) (fun _ t => PW G (va_A [(h0, .inr (12, [.int th, .ref n1, .int 0, .ref b1, .ref c1, .ref f1, .ref g1, .long 0, .int 0]))] sz) [(h0, .inr (12, [.int 0, .ref n1, .int 0, .ref b1, .ref c1, .ref f1, .ref g1, .long 0, .int 0]))] t) (va_A [(h0, .inr (12, [.int th, .ref n1, .int 0, .ref b1, .ref c1, .ref f1, .ref g1, .long 0, .int 0]))] sz)) 0 0 (va_A [(h0, .inr (12, [.int th, .ref n1, .int 0, .ref b1, .ref c1, .ref f1, .ref g1, .long 0, .int 0]))] sz) := by
  refine Met.ofW (cc := cX17_fails) (maxL := 2) (ret := (some .boolean)) (by decide) rfl ?_
  intro p e s m args below meth c s₁ B hml hv
  obtain ⟨rfl, hsz, hP, hK, hD0, hE⟩ := hv
  have hx := B.exec
  have hb := B.bytes
  have hr := B.returns
  have hts := w0_tail B.pre
  have hown : s.vm.findClass RX17 = some m.cls := findClass_of_methodNamed B.named
  have hlocks := B.notSynchronized
  subst hsz
  have hD := hD0.self (sz := s.heap.size)
  generalize hAe : va_A [(h0, .inr (12, [.int th, .ref n1, .int 0, .ref b1, .ref c1, .ref f1, .ref g1, .long 0, .int 0]))] s.heap.size = A at hD hE ⊢
  have hA : ∀ q : Nat, s.heap.size ≤ q → A q := fun q h => by rw [← hAe]; exact Or.inr h
  have hS : va_S A s.heap s.heap [] := va_S.rf
  obtain ⟨H, hHe⟩ : ∃ H : Heap, H = s.heap := ⟨_, rfl⟩
  have hP : va_P (DG G) clP1 [(h0, .inr (12, [.int th, .ref n1, .int 0, .ref b1, .ref c1, .ref f1, .ref g1, .long 0, .int 0]))] H := by rw [hHe]; exact hP
  have hS : va_S A s.heap H [] := by rw [hHe]; exact hS
  have hl := lv_entry ([.ref h0, .int 0]) (n := 2) (Nat.le_of_ble_eq_true rfl)
  rw [lg_entry_eq, ← hHe]
  generalize (lg_sl ([.ref h0, .int 0]) ++ List.replicate (2 - (lg_sl ([.ref h0, .int 0])).length) Slot.unset).toArray = ls at hl ⊢
  have hl : lv_has ls 2 [(0, .ref h0), (1, .int 0)] := hl
  refine lv_aload_n hx hb dX17_fails_0 rfl (lv_at hl 0 rfl) ?_
  refine lv_iload_n hx hb dX17_fails_1 rfl (lv_at hl 1 rfl) ?_
  refine va_put (D := DG G) (ci := 12) (v := .int 0) (ty := tyX17 0) (C := RX17) (T := TX17) (N := 9) hx hb hts inW_X17 tyX17 tyX17_ok nmX17 hown hK hP hD hS 0 rfl rfl 0 (by decide) (hts _ wm1345) (fun _ h9 => h9) rfl (by decide +kernel) rfl rfl (Nat.le_of_ble_eq_true rfl) dX17_fails_2 (fun H locs hP hD hS => ?_)
  have hP : va_P (DG G) clP1 [(h0, .inr (12, [.int 0, .ref n1, .int 0, .ref b1, .ref c1, .ref f1, .ref g1, .long 0, .int 0]))] H := hP
  have hD : va_D A [(h0, .inr (12, [.int 0, .ref n1, .int 0, .ref b1, .ref c1, .ref f1, .ref g1, .long 0, .int 0]))] := hD
  refine lv_iload_n hx hb dX17_fails_5 rfl (lv_at hl 1 rfl) ?_
  refine lv_if_le (tgt := 13) hx hb dX17_fails_6 (by decide) (fun _ => ?_) (fun c => absurd (by decide) c)
  refine lv_iconst (v := 0) hx hb dX17_fails_13 (by decide) ?_
  have hP9 := hP.sub (ws' := [(h0, .inr (12, [.int 0, .ref n1, .int 0, .ref b1, .ref c1, .ref f1, .ref g1, .long 0, .int 0]))]) [0] rfl
  have hD9 := hD.sub (ws' := [(h0, .inr (12, [.int 0, .ref n1, .int 0, .ref b1, .ref c1, .ref f1, .ref g1, .long 0, .int 0]))]) [0] (by decide) rfl
  refine W.widen (k := 0) (n := 0) (Nat.le_of_ble_eq_true rfl) (Nat.le_of_ble_eq_true rfl) ?_
  exact W.zret (v := 0) (ty := .boolean) hx hb hr (by decide) (fun t ht hW => ⟨⟨0, (), rfl, rfl, ⟨by rw [ht]; exact hP9, hD9⟩⟩, hS.F ht⟩) hS.2.2 dX17_fails_14 hlocks
set_option maxHeartbeats 4000000 in
set_option maxRecDepth 100000 in
theorem k_X17_fails_1 (l : Launch) (hfl : l.stackTraces = false) (G : GC) (h0 : Nat) (th : Int32) (n1 : Nat) (b1 : Nat) (c1 : Nat) (f1 : Nat) (g1 : Nat) (sz : Nat) : Met l yX17_fails (Cond.code yX17_fails cX17_fails 2 (some .boolean) :: W0) ({ frames := 0, cells := 0, slots := 0, locals := 0 }) (va_Pc [.ref h0, .int 1] (WD G [(h0, .inr (12, [.int th, .ref n1, .int 0, .ref b1, .ref c1, .ref f1, .ref g1, .long 0, .int 0]))] sz)) (va_Qi (fun (r : Int32) (_ : Unit) => r = 1) (fun _ t => PW G (va_A [(h0, .inr (12, [.int th, .ref n1, .int 0, .ref b1, .ref c1, .ref f1, .ref g1, .long 0, .int 0]))] sz) [(h0, .inr (12, [.int 1, .ref n1, .int 0, .ref b1, .ref c1, .ref f1, .ref g1, .long 0, .int 0]))] t) (va_A [(h0, .inr (12, [.int th, .ref n1, .int 0, .ref b1, .ref c1, .ref f1, .ref g1, .long 0, .int 0]))] sz)) 0 0 (va_A [(h0, .inr (12, [.int th, .ref n1, .int 0, .ref b1, .ref c1, .ref f1, .ref g1, .long 0, .int 0]))] sz) := by
  refine Met.ofW (cc := cX17_fails) (maxL := 2) (ret := (some .boolean)) (by decide) rfl ?_
  intro p e s m args below meth c s₁ B hml hv
  obtain ⟨rfl, hsz, hP, hK, hD0, hE⟩ := hv
  have hx := B.exec
  have hb := B.bytes
  have hr := B.returns
  have hts := w0_tail B.pre
  have hown : s.vm.findClass RX17 = some m.cls := findClass_of_methodNamed B.named
  have hlocks := B.notSynchronized
  subst hsz
  have hD := hD0.self (sz := s.heap.size)
  generalize hAe : va_A [(h0, .inr (12, [.int th, .ref n1, .int 0, .ref b1, .ref c1, .ref f1, .ref g1, .long 0, .int 0]))] s.heap.size = A at hD hE ⊢
  have hA : ∀ q : Nat, s.heap.size ≤ q → A q := fun q h => by rw [← hAe]; exact Or.inr h
  have hS : va_S A s.heap s.heap [] := va_S.rf
  obtain ⟨H, hHe⟩ : ∃ H : Heap, H = s.heap := ⟨_, rfl⟩
  have hP : va_P (DG G) clP1 [(h0, .inr (12, [.int th, .ref n1, .int 0, .ref b1, .ref c1, .ref f1, .ref g1, .long 0, .int 0]))] H := by rw [hHe]; exact hP
  have hS : va_S A s.heap H [] := by rw [hHe]; exact hS
  have hl := lv_entry ([.ref h0, .int 1]) (n := 2) (Nat.le_of_ble_eq_true rfl)
  rw [lg_entry_eq, ← hHe]
  generalize (lg_sl ([.ref h0, .int 1]) ++ List.replicate (2 - (lg_sl ([.ref h0, .int 1])).length) Slot.unset).toArray = ls at hl ⊢
  have hl : lv_has ls 2 [(0, .ref h0), (1, .int 1)] := hl
  refine lv_aload_n hx hb dX17_fails_0 rfl (lv_at hl 0 rfl) ?_
  refine lv_iload_n hx hb dX17_fails_1 rfl (lv_at hl 1 rfl) ?_
  refine va_put (D := DG G) (ci := 12) (v := .int 1) (ty := tyX17 0) (C := RX17) (T := TX17) (N := 9) hx hb hts inW_X17 tyX17 tyX17_ok nmX17 hown hK hP hD hS 0 rfl rfl 0 (by decide) (hts _ wm1345) (fun _ h9 => h9) rfl (by decide +kernel) rfl rfl (Nat.le_of_ble_eq_true rfl) dX17_fails_2 (fun H locs hP hD hS => ?_)
  have hP : va_P (DG G) clP1 [(h0, .inr (12, [.int 1, .ref n1, .int 0, .ref b1, .ref c1, .ref f1, .ref g1, .long 0, .int 0]))] H := hP
  have hD : va_D A [(h0, .inr (12, [.int 1, .ref n1, .int 0, .ref b1, .ref c1, .ref f1, .ref g1, .long 0, .int 0]))] := hD
  refine lv_iload_n hx hb dX17_fails_5 rfl (lv_at hl 1 rfl) ?_
  refine lv_if_le (tgt := 13) hx hb dX17_fails_6 (by decide) (fun c => absurd c (by decide)) (fun _ => ?_)
  refine lv_iconst (v := 1) hx hb dX17_fails_9 (by decide) ?_
  refine lv_goto (tgt := 14) hx hb dX17_fails_10 (by decide) ?_
  have hP9 := hP.sub (ws' := [(h0, .inr (12, [.int 1, .ref n1, .int 0, .ref b1, .ref c1, .ref f1, .ref g1, .long 0, .int 0]))]) [0] rfl
  have hD9 := hD.sub (ws' := [(h0, .inr (12, [.int 1, .ref n1, .int 0, .ref b1, .ref c1, .ref f1, .ref g1, .long 0, .int 0]))]) [0] (by decide) rfl
  refine W.widen (k := 0) (n := 0) (Nat.le_of_ble_eq_true rfl) (Nat.le_of_ble_eq_true rfl) ?_
  exact W.zret (v := 1) (ty := .boolean) hx hb hr (by decide) (fun t ht hW => ⟨⟨1, (), rfl, rfl, ⟨by rw [ht]; exact hP9, hD9⟩⟩, hS.F ht⟩) hS.2.2 dX17_fails_14 hlocks
set_option maxHeartbeats 4000000 in
set_option maxRecDepth 100000 in
theorem k_X17_fails_2 (l : Launch) (hfl : l.stackTraces = false) (G : GC) (h0 : Nat) (th : Int32) (n1 : Nat) (b1 : Nat) (c1 : Nat) (f1 : Nat) (g1 : Nat) (sz : Nat) : Met l yX17_fails (Cond.code yX17_fails cX17_fails 2 (some .boolean) :: W0) ({ frames := 0, cells := 0, slots := 0, locals := 0 }) (va_Pc [.ref h0, .int 2] (WD G [(h0, .inr (12, [.int th, .ref n1, .int 0, .ref b1, .ref c1, .ref f1, .ref g1, .long 0, .int 0]))] sz)) (va_Qi (fun (r : Int32) (_ : Unit) => r = 1) (fun _ t => PW G (va_A [(h0, .inr (12, [.int th, .ref n1, .int 0, .ref b1, .ref c1, .ref f1, .ref g1, .long 0, .int 0]))] sz) [(h0, .inr (12, [.int 2, .ref n1, .int 0, .ref b1, .ref c1, .ref f1, .ref g1, .long 0, .int 0]))] t) (va_A [(h0, .inr (12, [.int th, .ref n1, .int 0, .ref b1, .ref c1, .ref f1, .ref g1, .long 0, .int 0]))] sz)) 0 0 (va_A [(h0, .inr (12, [.int th, .ref n1, .int 0, .ref b1, .ref c1, .ref f1, .ref g1, .long 0, .int 0]))] sz) := by
  refine Met.ofW (cc := cX17_fails) (maxL := 2) (ret := (some .boolean)) (by decide) rfl ?_
  intro p e s m args below meth c s₁ B hml hv
  obtain ⟨rfl, hsz, hP, hK, hD0, hE⟩ := hv
  have hx := B.exec
  have hb := B.bytes
  have hr := B.returns
  have hts := w0_tail B.pre
  have hown : s.vm.findClass RX17 = some m.cls := findClass_of_methodNamed B.named
  have hlocks := B.notSynchronized
  subst hsz
  have hD := hD0.self (sz := s.heap.size)
  generalize hAe : va_A [(h0, .inr (12, [.int th, .ref n1, .int 0, .ref b1, .ref c1, .ref f1, .ref g1, .long 0, .int 0]))] s.heap.size = A at hD hE ⊢
  have hA : ∀ q : Nat, s.heap.size ≤ q → A q := fun q h => by rw [← hAe]; exact Or.inr h
  have hS : va_S A s.heap s.heap [] := va_S.rf
  obtain ⟨H, hHe⟩ : ∃ H : Heap, H = s.heap := ⟨_, rfl⟩
  have hP : va_P (DG G) clP1 [(h0, .inr (12, [.int th, .ref n1, .int 0, .ref b1, .ref c1, .ref f1, .ref g1, .long 0, .int 0]))] H := by rw [hHe]; exact hP
  have hS : va_S A s.heap H [] := by rw [hHe]; exact hS
  have hl := lv_entry ([.ref h0, .int 2]) (n := 2) (Nat.le_of_ble_eq_true rfl)
  rw [lg_entry_eq, ← hHe]
  generalize (lg_sl ([.ref h0, .int 2]) ++ List.replicate (2 - (lg_sl ([.ref h0, .int 2])).length) Slot.unset).toArray = ls at hl ⊢
  have hl : lv_has ls 2 [(0, .ref h0), (1, .int 2)] := hl
  refine lv_aload_n hx hb dX17_fails_0 rfl (lv_at hl 0 rfl) ?_
  refine lv_iload_n hx hb dX17_fails_1 rfl (lv_at hl 1 rfl) ?_
  refine va_put (D := DG G) (ci := 12) (v := .int 2) (ty := tyX17 0) (C := RX17) (T := TX17) (N := 9) hx hb hts inW_X17 tyX17 tyX17_ok nmX17 hown hK hP hD hS 0 rfl rfl 0 (by decide) (hts _ wm1345) (fun _ h9 => h9) rfl (by decide +kernel) rfl rfl (Nat.le_of_ble_eq_true rfl) dX17_fails_2 (fun H locs hP hD hS => ?_)
  have hP : va_P (DG G) clP1 [(h0, .inr (12, [.int 2, .ref n1, .int 0, .ref b1, .ref c1, .ref f1, .ref g1, .long 0, .int 0]))] H := hP
  have hD : va_D A [(h0, .inr (12, [.int 2, .ref n1, .int 0, .ref b1, .ref c1, .ref f1, .ref g1, .long 0, .int 0]))] := hD
  refine lv_iload_n hx hb dX17_fails_5 rfl (lv_at hl 1 rfl) ?_
  refine lv_if_le (tgt := 13) hx hb dX17_fails_6 (by decide) (fun c => absurd c (by decide)) (fun _ => ?_)
  refine lv_iconst (v := 1) hx hb dX17_fails_9 (by decide) ?_
  refine lv_goto (tgt := 14) hx hb dX17_fails_10 (by decide) ?_
  have hP9 := hP.sub (ws' := [(h0, .inr (12, [.int 2, .ref n1, .int 0, .ref b1, .ref c1, .ref f1, .ref g1, .long 0, .int 0]))]) [0] rfl
  have hD9 := hD.sub (ws' := [(h0, .inr (12, [.int 2, .ref n1, .int 0, .ref b1, .ref c1, .ref f1, .ref g1, .long 0, .int 0]))]) [0] (by decide) rfl
  refine W.widen (k := 0) (n := 0) (Nat.le_of_ble_eq_true rfl) (Nat.le_of_ble_eq_true rfl) ?_
  exact W.zret (v := 1) (ty := .boolean) hx hb hr (by decide) (fun t ht hW => ⟨⟨1, (), rfl, rfl, ⟨by rw [ht]; exact hP9, hD9⟩⟩, hS.F ht⟩) hS.2.2 dX17_fails_14 hlocks
set_option maxHeartbeats 4000000 in
set_option maxRecDepth 100000 in
theorem k_X17_in_4 (l : Launch) (hfl : l.stackTraces = false) (G : GC) (p0 : Int32) (sz : Nat) : Met l yX17_in (Cond.code yX17_in cX17_in 3 (some .boolean) :: W0) ({ frames := 0, cells := 0, slots := 0, locals := 0 }) (va_Pc [.int p0, .int 0, .int 3] (WD G [] sz)) (va_Qi (fun (r : Int32) (u : Nat) => (u = 0 ∧ r = 0 ∧ (p0.toInt ≤ (-1) ∨ 4 ≤ p0.toInt)) ∨ (u = 1 ∧ r = 1 ∧ ((0 ≤ p0.toInt ∧ p0.toInt ≤ 3)))) (fun (u : Nat) t => (u = 0 → PW G (va_A [] sz) [] t) ∧ (u = 1 → PW G (va_A [] sz) [] t)) (va_A [] sz)) 0 0 (va_A [] sz) := by
  refine Met.ofW (cc := cX17_in) (maxL := 3) (ret := (some .boolean)) (by decide) rfl ?_
  intro p e s m args below meth c s₁ B hml hv
  obtain ⟨rfl, hsz, hP, hK, hD0, hE⟩ := hv
  have hx := B.exec
  have hb := B.bytes
  have hr := B.returns
  have hts := w0_tail B.pre
  have hown : s.vm.findClass RX17 = some m.cls := findClass_of_methodNamed B.named
  have hlocks := B.notSynchronized
  subst hsz
  have hD := hD0.self (sz := s.heap.size)
  generalize hAe : va_A [] s.heap.size = A at hD hE ⊢
  have hA : ∀ q : Nat, s.heap.size ≤ q → A q := fun q h => by rw [← hAe]; exact Or.inr h
  have hS : va_S A s.heap s.heap [] := va_S.rf
  obtain ⟨H, hHe⟩ : ∃ H : Heap, H = s.heap := ⟨_, rfl⟩
  have hP : va_P (DG G) clP1 [] H := by rw [hHe]; exact hP
  have hS : va_S A s.heap H [] := by rw [hHe]; exact hS
  have hl := lv_entry ([.int p0, .int 0, .int 3]) (n := 3) (Nat.le_of_ble_eq_true rfl)
  rw [lg_entry_eq, ← hHe]
  generalize (lg_sl ([.int p0, .int 0, .int 3]) ++ List.replicate (3 - (lg_sl ([.int p0, .int 0, .int 3])).length) Slot.unset).toArray = ls at hl ⊢
  have hl : lv_has ls 3 [(0, .int p0), (1, .int 0), (2, .int 3)] := hl
  refine lv_iload_n hx hb dX17_in_0 rfl (lv_at hl 0 rfl) ?_
  refine lv_iload_n hx hb dX17_in_1 rfl (lv_at hl 1 rfl) ?_
  refine lv_icmp_lt (tgt := 14) hx hb dX17_in_2 (by decide) (fun c_1 => ?_) (fun c_1 => ?_)
  · have t_2 := i_lt c_1
    have kk_3 : ((0 : Int32)).toInt = 0 := by decide
    refine lv_iconst (v := 0) hx hb dX17_in_14 (by decide) ?_
    have hP9 := hP.sub (ws' := []) [] rfl
    have hD9 := hD.sub (ws' := []) [] (by decide) rfl
    refine W.widen (k := 0) (n := 0) (Nat.le_of_ble_eq_true rfl) (Nat.le_of_ble_eq_true rfl) ?_
    exact W.zret (v := 0) (ty := .boolean) hx hb hr (by decide) (fun t ht hW => ⟨⟨0, 0, rfl, (Or.inl ⟨rfl, rfl, by omega⟩), ⟨fun _ => ⟨by rw [ht]; exact hP9, hD9⟩, fun h => absurd h (by decide)⟩⟩, hS.F ht⟩) hS.2.2 dX17_in_15 hlocks
  · have t_4 := i_nlt c_1
    have kk_5 : ((0 : Int32)).toInt = 0 := by decide
    refine lv_iload_n hx hb dX17_in_5 rfl (lv_at hl 0 rfl) ?_
    refine lv_iload_n hx hb dX17_in_6 rfl (lv_at hl 2 rfl) ?_
    refine lv_icmp_gt (tgt := 14) hx hb dX17_in_7 (by decide) (fun c_6 => ?_) (fun c_6 => ?_)
    · have t_7 := i_lt c_6
      have kk_8 : ((3 : Int32)).toInt = 3 := by decide
      refine lv_iconst (v := 0) hx hb dX17_in_14 (by decide) ?_
      have hP9 := hP.sub (ws' := []) [] rfl
      have hD9 := hD.sub (ws' := []) [] (by decide) rfl
      refine W.widen (k := 0) (n := 0) (Nat.le_of_ble_eq_true rfl) (Nat.le_of_ble_eq_true rfl) ?_
      exact W.zret (v := 0) (ty := .boolean) hx hb hr (by decide) (fun t ht hW => ⟨⟨0, 0, rfl, (Or.inl ⟨rfl, rfl, by omega⟩), ⟨fun _ => ⟨by rw [ht]; exact hP9, hD9⟩, fun h => absurd h (by decide)⟩⟩, hS.F ht⟩) hS.2.2 dX17_in_15 hlocks
    · have t_9 := i_nlt c_6
      have kk_10 : ((3 : Int32)).toInt = 3 := by decide
      refine lv_iconst (v := 1) hx hb dX17_in_10 (by decide) ?_
      refine lv_goto (tgt := 15) hx hb dX17_in_11 (by decide) ?_
      have hP9 := hP.sub (ws' := []) [] rfl
      have hD9 := hD.sub (ws' := []) [] (by decide) rfl
      refine W.widen (k := 0) (n := 0) (Nat.le_of_ble_eq_true rfl) (Nat.le_of_ble_eq_true rfl) ?_
      exact W.zret (v := 1) (ty := .boolean) hx hb hr (by decide) (fun t ht hW => ⟨⟨1, 1, rfl, (Or.inr ⟨rfl, rfl, by omega⟩), ⟨fun h => absurd h (by decide), fun _ => ⟨by rw [ht]; exact hP9, hD9⟩⟩⟩, hS.F ht⟩) hS.2.2 dX17_in_15 hlocks
set_option maxHeartbeats 4000000 in
set_option maxRecDepth 100000 in
theorem k_X17_in_16 (l : Launch) (hfl : l.stackTraces = false) (G : GC) (p0 : Int32) (sz : Nat) : Met l yX17_in (Cond.code yX17_in cX17_in 3 (some .boolean) :: W0) ({ frames := 0, cells := 0, slots := 0, locals := 0 }) (va_Pc [.int p0, .int 0, .int 15] (WD G [] sz)) (va_Qi (fun (r : Int32) (u : Nat) => (u = 0 ∧ r = 0 ∧ (p0.toInt ≤ (-1) ∨ 16 ≤ p0.toInt)) ∨ (u = 1 ∧ r = 1 ∧ ((0 ≤ p0.toInt ∧ p0.toInt ≤ 15)))) (fun (u : Nat) t => (u = 0 → PW G (va_A [] sz) [] t) ∧ (u = 1 → PW G (va_A [] sz) [] t)) (va_A [] sz)) 0 0 (va_A [] sz) := by
  refine Met.ofW (cc := cX17_in) (maxL := 3) (ret := (some .boolean)) (by decide) rfl ?_
  intro p e s m args below meth c s₁ B hml hv
  obtain ⟨rfl, hsz, hP, hK, hD0, hE⟩ := hv
  have hx := B.exec
  have hb := B.bytes
  have hr := B.returns
  have hts := w0_tail B.pre
  have hown : s.vm.findClass RX17 = some m.cls := findClass_of_methodNamed B.named
  have hlocks := B.notSynchronized
  subst hsz
  have hD := hD0.self (sz := s.heap.size)
  generalize hAe : va_A [] s.heap.size = A at hD hE ⊢
  have hA : ∀ q : Nat, s.heap.size ≤ q → A q := fun q h => by rw [← hAe]; exact Or.inr h
  have hS : va_S A s.heap s.heap [] := va_S.rf
  obtain ⟨H, hHe⟩ : ∃ H : Heap, H = s.heap := ⟨_, rfl⟩
  have hP : va_P (DG G) clP1 [] H := by rw [hHe]; exact hP
  have hS : va_S A s.heap H [] := by rw [hHe]; exact hS
  have hl := lv_entry ([.int p0, .int 0, .int 15]) (n := 3) (Nat.le_of_ble_eq_true rfl)
  rw [lg_entry_eq, ← hHe]
  generalize (lg_sl ([.int p0, .int 0, .int 15]) ++ List.replicate (3 - (lg_sl ([.int p0, .int 0, .int 15])).length) Slot.unset).toArray = ls at hl ⊢
  have hl : lv_has ls 3 [(0, .int p0), (1, .int 0), (2, .int 15)] := hl
  refine lv_iload_n hx hb dX17_in_0 rfl (lv_at hl 0 rfl) ?_
  refine lv_iload_n hx hb dX17_in_1 rfl (lv_at hl 1 rfl) ?_
  refine lv_icmp_lt (tgt := 14) hx hb dX17_in_2 (by decide) (fun c_1 => ?_) (fun c_1 => ?_)
  · have t_2 := i_lt c_1
    have kk_3 : ((0 : Int32)).toInt = 0 := by decide
    refine lv_iconst (v := 0) hx hb dX17_in_14 (by decide) ?_
    have hP9 := hP.sub (ws' := []) [] rfl
    have hD9 := hD.sub (ws' := []) [] (by decide) rfl
    refine W.widen (k := 0) (n := 0) (Nat.le_of_ble_eq_true rfl) (Nat.le_of_ble_eq_true rfl) ?_
    exact W.zret (v := 0) (ty := .boolean) hx hb hr (by decide) (fun t ht hW => ⟨⟨0, 0, rfl, (Or.inl ⟨rfl, rfl, by omega⟩), ⟨fun _ => ⟨by rw [ht]; exact hP9, hD9⟩, fun h => absurd h (by decide)⟩⟩, hS.F ht⟩) hS.2.2 dX17_in_15 hlocks
  · have t_4 := i_nlt c_1
    have kk_5 : ((0 : Int32)).toInt = 0 := by decide
    refine lv_iload_n hx hb dX17_in_5 rfl (lv_at hl 0 rfl) ?_
    refine lv_iload_n hx hb dX17_in_6 rfl (lv_at hl 2 rfl) ?_
    refine lv_icmp_gt (tgt := 14) hx hb dX17_in_7 (by decide) (fun c_6 => ?_) (fun c_6 => ?_)
    · have t_7 := i_lt c_6
      have kk_8 : ((15 : Int32)).toInt = 15 := by decide
      refine lv_iconst (v := 0) hx hb dX17_in_14 (by decide) ?_
      have hP9 := hP.sub (ws' := []) [] rfl
      have hD9 := hD.sub (ws' := []) [] (by decide) rfl
      refine W.widen (k := 0) (n := 0) (Nat.le_of_ble_eq_true rfl) (Nat.le_of_ble_eq_true rfl) ?_
      exact W.zret (v := 0) (ty := .boolean) hx hb hr (by decide) (fun t ht hW => ⟨⟨0, 0, rfl, (Or.inl ⟨rfl, rfl, by omega⟩), ⟨fun _ => ⟨by rw [ht]; exact hP9, hD9⟩, fun h => absurd h (by decide)⟩⟩, hS.F ht⟩) hS.2.2 dX17_in_15 hlocks
    · have t_9 := i_nlt c_6
      have kk_10 : ((15 : Int32)).toInt = 15 := by decide
      refine lv_iconst (v := 1) hx hb dX17_in_10 (by decide) ?_
      refine lv_goto (tgt := 15) hx hb dX17_in_11 (by decide) ?_
      have hP9 := hP.sub (ws' := []) [] rfl
      have hD9 := hD.sub (ws' := []) [] (by decide) rfl
      refine W.widen (k := 0) (n := 0) (Nat.le_of_ble_eq_true rfl) (Nat.le_of_ble_eq_true rfl) ?_
      exact W.zret (v := 1) (ty := .boolean) hx hb hr (by decide) (fun t ht hW => ⟨⟨1, 1, rfl, (Or.inr ⟨rfl, rfl, by omega⟩), ⟨fun h => absurd h (by decide), fun _ => ⟨by rw [ht]; exact hP9, hD9⟩⟩⟩, hS.F ht⟩) hS.2.2 dX17_in_15 hlocks
set_option maxHeartbeats 4000000 in
set_option maxRecDepth 100000 in
theorem k_X17_in_0 (l : Launch) (hfl : l.stackTraces = false) (G : GC) (p0 : Int32) (sz : Nat) : Met l yX17_in (Cond.code yX17_in cX17_in 3 (some .boolean) :: W0) ({ frames := 0, cells := 0, slots := 0, locals := 0 }) (va_Pc [.int p0, .int 0, .int (-1)] (WD G [] sz)) (va_Qi (fun (r : Int32) (_ : Unit) => r = 0) (fun _ t => PW G (va_A [] sz) [] t) (va_A [] sz)) 0 0 (va_A [] sz) := by
  refine Met.ofW (cc := cX17_in) (maxL := 3) (ret := (some .boolean)) (by decide) rfl ?_
  intro p e s m args below meth c s₁ B hml hv
  obtain ⟨rfl, hsz, hP, hK, hD0, hE⟩ := hv
  have hx := B.exec
  have hb := B.bytes
  have hr := B.returns
  have hts := w0_tail B.pre
  have hown : s.vm.findClass RX17 = some m.cls := findClass_of_methodNamed B.named
  have hlocks := B.notSynchronized
  subst hsz
  have hD := hD0.self (sz := s.heap.size)
  generalize hAe : va_A [] s.heap.size = A at hD hE ⊢
  have hA : ∀ q : Nat, s.heap.size ≤ q → A q := fun q h => by rw [← hAe]; exact Or.inr h
  have hS : va_S A s.heap s.heap [] := va_S.rf
  obtain ⟨H, hHe⟩ : ∃ H : Heap, H = s.heap := ⟨_, rfl⟩
  have hP : va_P (DG G) clP1 [] H := by rw [hHe]; exact hP
  have hS : va_S A s.heap H [] := by rw [hHe]; exact hS
  have hl := lv_entry ([.int p0, .int 0, .int (-1)]) (n := 3) (Nat.le_of_ble_eq_true rfl)
  rw [lg_entry_eq, ← hHe]
  generalize (lg_sl ([.int p0, .int 0, .int (-1)]) ++ List.replicate (3 - (lg_sl ([.int p0, .int 0, .int (-1)])).length) Slot.unset).toArray = ls at hl ⊢
  have hl : lv_has ls 3 [(0, .int p0), (1, .int 0), (2, .int (-1))] := hl
  refine lv_iload_n hx hb dX17_in_0 rfl (lv_at hl 0 rfl) ?_
  refine lv_iload_n hx hb dX17_in_1 rfl (lv_at hl 1 rfl) ?_
  refine lv_icmp_lt (tgt := 14) hx hb dX17_in_2 (by decide) (fun c_1 => ?_) (fun c_1 => ?_)
  · have t_2 := i_lt c_1
    have kk_3 : ((0 : Int32)).toInt = 0 := by decide
    refine lv_iconst (v := 0) hx hb dX17_in_14 (by decide) ?_
    have hP9 := hP.sub (ws' := []) [] rfl
    have hD9 := hD.sub (ws' := []) [] (by decide) rfl
    refine W.widen (k := 0) (n := 0) (Nat.le_of_ble_eq_true rfl) (Nat.le_of_ble_eq_true rfl) ?_
    exact W.zret (v := 0) (ty := .boolean) hx hb hr (by decide) (fun t ht hW => ⟨⟨0, (), rfl, rfl, ⟨by rw [ht]; exact hP9, hD9⟩⟩, hS.F ht⟩) hS.2.2 dX17_in_15 hlocks
  · have t_4 := i_nlt c_1
    have kk_5 : ((0 : Int32)).toInt = 0 := by decide
    refine lv_iload_n hx hb dX17_in_5 rfl (lv_at hl 0 rfl) ?_
    refine lv_iload_n hx hb dX17_in_6 rfl (lv_at hl 2 rfl) ?_
    refine lv_icmp_gt (tgt := 14) hx hb dX17_in_7 (by decide) (fun c_6 => ?_) (fun c_6 => ?_)
    · have t_7 := i_lt c_6
      have kk_8 : (((-1) : Int32)).toInt = (-1) := by decide
      refine lv_iconst (v := 0) hx hb dX17_in_14 (by decide) ?_
      have hP9 := hP.sub (ws' := []) [] rfl
      have hD9 := hD.sub (ws' := []) [] (by decide) rfl
      refine W.widen (k := 0) (n := 0) (Nat.le_of_ble_eq_true rfl) (Nat.le_of_ble_eq_true rfl) ?_
      exact W.zret (v := 0) (ty := .boolean) hx hb hr (by decide) (fun t ht hW => ⟨⟨0, (), rfl, rfl, ⟨by rw [ht]; exact hP9, hD9⟩⟩, hS.F ht⟩) hS.2.2 dX17_in_15 hlocks
    · have t_9 := i_nlt c_6
      have kk_10 : (((-1) : Int32)).toInt = (-1) := by decide
      exfalso; omega
set_option maxHeartbeats 4000000 in
set_option maxRecDepth 100000 in
theorem k_X17_isNode (l : Launch) (hfl : l.stackTraces = false) (G : GC) (h0 : Nat) (p0 : Int32) (th : Int32) (n1 : Nat) (b1 : Nat) (c1 : Nat) (f1 : Nat) (g1 : Nat) (sz : Nat) : Met l yX17_isNode (Cond.code yX17_isNode cX17_isNode 2 (some .boolean) :: W0) ({ frames := 1, cells := 0, slots := 0, locals := 22 }) (va_Pc [.ref h0, .int p0] (WD G [(h0, .inr (12, [.int th, .ref n1, .int 0, .ref b1, .ref c1, .ref f1, .ref g1, .long 0, .int 0])), (n1, .inr (1, [.int 0, .ref (aE G), .int 0]))] sz)) (va_Qi (fun (r : Int32) (_ : Unit) => r = 0) (fun _ t => PW G (va_A [(h0, .inr (12, [.int th, .ref n1, .int 0, .ref b1, .ref c1, .ref f1, .ref g1, .long 0, .int 0])), (n1, .inr (1, [.int 0, .ref (aE G), .int 0]))] sz) [(h0, .inr (12, [.int th, .ref n1, .int 0, .ref b1, .ref c1, .ref f1, .ref g1, .long 0, .int 0])), (n1, .inr (1, [.int 0, .ref (aE G), .int 0]))] t) (va_A [(h0, .inr (12, [.int th, .ref n1, .int 0, .ref b1, .ref c1, .ref f1, .ref g1, .long 0, .int 0])), (n1, .inr (1, [.int 0, .ref (aE G), .int 0]))] sz)) 0 0 (va_A [(h0, .inr (12, [.int th, .ref n1, .int 0, .ref b1, .ref c1, .ref f1, .ref g1, .long 0, .int 0])), (n1, .inr (1, [.int 0, .ref (aE G), .int 0]))] sz) := by
  refine Met.ofW (cc := cX17_isNode) (maxL := 2) (ret := (some .boolean)) (by decide) rfl ?_
  intro p e s m args below meth c s₁ B hml hv
  obtain ⟨rfl, hsz, hP, hK, hD0, hE⟩ := hv
  have hx := B.exec
  have hb := B.bytes
  have hr := B.returns
  have hts := w0_tail B.pre
  have hown : s.vm.findClass RX17 = some m.cls := findClass_of_methodNamed B.named
  have hlocks := B.notSynchronized
  subst hsz
  have hD := hD0.self (sz := s.heap.size)
  generalize hAe : va_A [(h0, .inr (12, [.int th, .ref n1, .int 0, .ref b1, .ref c1, .ref f1, .ref g1, .long 0, .int 0])), (n1, .inr (1, [.int 0, .ref (aE G), .int 0]))] s.heap.size = A at hD hE ⊢
  have hA : ∀ q : Nat, s.heap.size ≤ q → A q := fun q h => by rw [← hAe]; exact Or.inr h
  have hS : va_S A s.heap s.heap [] := va_S.rf
  obtain ⟨H, hHe⟩ : ∃ H : Heap, H = s.heap := ⟨_, rfl⟩
  have hP : va_P (DG G) clP1 [(h0, .inr (12, [.int th, .ref n1, .int 0, .ref b1, .ref c1, .ref f1, .ref g1, .long 0, .int 0])), (n1, .inr (1, [.int 0, .ref (aE G), .int 0]))] H := by rw [hHe]; exact hP
  have hS : va_S A s.heap H [] := by rw [hHe]; exact hS
  have hl := lv_entry ([.ref h0, .int p0]) (n := 2) (Nat.le_of_ble_eq_true rfl)
  rw [lg_entry_eq, ← hHe]
  generalize (lg_sl ([.ref h0, .int p0]) ++ List.replicate (2 - (lg_sl ([.ref h0, .int p0])).length) Slot.unset).toArray = ls at hl ⊢
  have hl : lv_has ls 2 [(0, .ref h0), (1, .int p0)] := hl
  refine lv_iload_n hx hb dX17_isNode_0 rfl (lv_at hl 1 rfl) ?_
  refine lv_iconst (v := 0) hx hb dX17_isNode_1 (by decide) ?_
  refine lv_aload_n hx hb dX17_isNode_2 rfl (lv_at hl 0 rfl) ?_
  refine va_get (D := DG G) (ci := 12) (v := .ref n1) (C := RX17) (T := TX17) (N := 9) hx hb hts inW_X17 hown hK hP 0 rfl rfl 1 (by decide) (hts _ wm1346) (fun _ h9 => h9) rfl dX17_isNode_3 ?_
  have hFc := va_free (wc := [(n1, .inr (1, [.int 0, .ref (aE G), .int 0]))]) hD hS hA [1] rfl
  refine va_calli (va_runV (As := []) (rest := [.int 0, .int p0]) ⟨hx, hb, hml, hown, hts⟩ (k_J_alSize l hfl G n1 0 ((aE G)) 0 H.size) (cwV 0 hts (gV wm1388 wm1389 wm1390 wm14 wm1391) rfl rfl rfl (by decide +kernel) ⟨Nat.le_of_ble_eq_true rfl, Nat.le_of_ble_eq_true rfl⟩) (pre_v (pre_s hK hP hD hS hE [1] rfl rfl (by decide) hFc) (va_recv hK hP (ci := 1) (q0 := 1) rfl rfl)) rfl rfl hl.1 rfl (lv_room (Nat.le_of_ble_eq_true rfl)) dX17_isNode_6 ⟨Nat.le_of_ble_eq_true rfl, Nat.le_of_ble_eq_true rfl⟩) hS (fun q _ h => hFc q h) hFc (fun r u t H locs ht hvm hw hB hz1 hk1 hS => ?_)
  obtain rfl : r = 0 := hw
  obtain ⟨hP1, hD1⟩ := hB
  rw [ht] at hP1
  obtain ⟨hP, hD⟩ := va_join (wr := [(h0, .inr (12, [.int th, .ref n1, .int 0, .ref b1, .ref c1, .ref f1, .ref g1, .long 0, .int 0]))]) (w1 := [(n1, .inr (1, [.int 0, .ref (aE G), .int 0]))]) hP hD [1] [0] rfl rfl (by decide) (by decide) hk1 hFc hP1 hD1
  have hP : va_P (DG G) clP1 [(h0, .inr (12, [.int th, .ref n1, .int 0, .ref b1, .ref c1, .ref f1, .ref g1, .long 0, .int 0])), (n1, .inr (1, [.int 0, .ref (aE G), .int 0]))] H := hP
  have hD : va_D A [(h0, .inr (12, [.int th, .ref n1, .int 0, .ref b1, .ref c1, .ref f1, .ref g1, .long 0, .int 0])), (n1, .inr (1, [.int 0, .ref (aE G), .int 0]))] := hD
  refine W.widen (k := 0) (n := 0) (Nat.le_of_ble_eq_true rfl) (Nat.le_of_ble_eq_true rfl) ?_
  refine lv_iconst (v := 1) hx hb dX17_isNode_9 (by decide) ?_
  refine lv_isub hx hb dX17_isNode_10 ?_
  refine lv_topi (fun z_1 ez_1 => ?_)
  obtain rfl : z_1 = (-1) := ez_1.trans (by decide)
  have hFc := va_free (wc := []) hD hS hA [] rfl
  refine va_calli (va_runS (As := [.int p0, .int 0, .int (-1)]) (rest := []) ⟨hx, hb, hml, hown, hts⟩ (k_X17_in_0 l hfl G p0 H.size) (cwS 3 hts (gS wm1381 wm1382 wm11 wm1383) rfl rfl rfl (by decide +kernel) ⟨Nat.le_of_ble_eq_true rfl, Nat.le_of_ble_eq_true rfl⟩) (pre_s hK hP hD hS hE [] rfl rfl (by decide) hFc) rfl rfl hl.1 rfl (lv_room (Nat.le_of_ble_eq_true rfl)) dX17_isNode_11 ⟨Nat.le_of_ble_eq_true rfl, Nat.le_of_ble_eq_true rfl⟩) hS (fun q _ h => hFc q h) hFc (fun r u t H locs ht hvm hw hB hz1 hk1 hS => ?_)
  obtain rfl : r = 0 := hw
  obtain ⟨hP1, hD1⟩ := hB
  rw [ht] at hP1
  obtain ⟨hP, hD⟩ := va_join (wr := [(h0, .inr (12, [.int th, .ref n1, .int 0, .ref b1, .ref c1, .ref f1, .ref g1, .long 0, .int 0])), (n1, .inr (1, [.int 0, .ref (aE G), .int 0]))]) (w1 := []) hP hD [] [0, 1] rfl rfl (by decide) (by decide) hk1 hFc hP1 hD1
  have hP : va_P (DG G) clP1 [(h0, .inr (12, [.int th, .ref n1, .int 0, .ref b1, .ref c1, .ref f1, .ref g1, .long 0, .int 0])), (n1, .inr (1, [.int 0, .ref (aE G), .int 0]))] H := hP
  have hD : va_D A [(h0, .inr (12, [.int th, .ref n1, .int 0, .ref b1, .ref c1, .ref f1, .ref g1, .long 0, .int 0])), (n1, .inr (1, [.int 0, .ref (aE G), .int 0]))] := hD
  refine W.widen (k := 0) (n := 0) (Nat.le_of_ble_eq_true rfl) (Nat.le_of_ble_eq_true rfl) ?_
  have hP9 := hP.sub (ws' := [(h0, .inr (12, [.int th, .ref n1, .int 0, .ref b1, .ref c1, .ref f1, .ref g1, .long 0, .int 0])), (n1, .inr (1, [.int 0, .ref (aE G), .int 0]))]) [0, 1] rfl
  have hD9 := hD.sub (ws' := [(h0, .inr (12, [.int th, .ref n1, .int 0, .ref b1, .ref c1, .ref f1, .ref g1, .long 0, .int 0])), (n1, .inr (1, [.int 0, .ref (aE G), .int 0]))]) [0, 1] (by decide) rfl
  refine W.widen (k := 0) (n := 0) (Nat.le_of_ble_eq_true rfl) (Nat.le_of_ble_eq_true rfl) ?_
  exact W.zret (v := 0) (ty := .boolean) hx hb hr (by decide) (fun t ht hW => ⟨⟨0, (), rfl, rfl, ⟨by rw [ht]; exact hP9, hD9⟩⟩, hS.F ht⟩) hS.2.2 dX17_isNode_14 hlocks
set_option maxHeartbeats 4000000 in
set_option maxRecDepth 100000 in
theorem k_X17_lays (l : Launch) (hfl : l.stackTraces = false) (G : GC) (h0 : Nat) (e1 : Nat) (th : Int32) (n1 : Nat) (b1 : Nat) (c1 : Nat) (f1 : Nat) (g1 : Nat) (tk : Int32) (tn : Int32) (tf : Int32) (sz : Nat) : Met l yX17_lays (Cond.code yX17_lays cX17_lays 3 (some .int) :: W0) ({ frames := 5, cells := 1, slots := 10, locals := 101 }) (va_Pc [.ref h0, .ref e1] (WD G [(h0, .inr (12, [.int th, .ref n1, .int 0, .ref b1, .ref c1, .ref f1, .ref g1, .long 0, .int 0])), (n1, .inr (1, [.int 0, .ref (aE G), .int 0])), (e1, .inr (11, [.int tk, .int tn, .null, .null, .int 1, .int tf]))] sz)) (va_Qi (fun (r : Int32) (_ : Unit) => r = 0) (fun _ t => PW G (va_A [(h0, .inr (12, [.int th, .ref n1, .int 0, .ref b1, .ref c1, .ref f1, .ref g1, .long 0, .int 0])), (n1, .inr (1, [.int 0, .ref (aE G), .int 0])), (e1, .inr (11, [.int tk, .int tn, .null, .null, .int 1, .int tf]))] sz) [(h0, .inr (12, [.int th, .ref n1, .int 0, .ref b1, .ref c1, .ref f1, .ref g1, .long 0, .int 0]))] t) (va_A [(h0, .inr (12, [.int th, .ref n1, .int 0, .ref b1, .ref c1, .ref f1, .ref g1, .long 0, .int 0])), (n1, .inr (1, [.int 0, .ref (aE G), .int 0])), (e1, .inr (11, [.int tk, .int tn, .null, .null, .int 1, .int tf]))] sz)) 1 10 (va_A [(h0, .inr (12, [.int th, .ref n1, .int 0, .ref b1, .ref c1, .ref f1, .ref g1, .long 0, .int 0])), (n1, .inr (1, [.int 0, .ref (aE G), .int 0])), (e1, .inr (11, [.int tk, .int tn, .null, .null, .int 1, .int tf]))] sz) := by
  refine Met.ofW (cc := cX17_lays) (maxL := 3) (ret := (some .int)) (by decide) rfl ?_
  intro p e s m args below meth c s₁ B hml hv
  obtain ⟨rfl, hsz, hP, hK, hD0, hE⟩ := hv
  have hx := B.exec
  have hb := B.bytes
  have hr := B.returns
  have hts := w0_tail B.pre
  have hown : s.vm.findClass RX17 = some m.cls := findClass_of_methodNamed B.named
  have hlocks := B.notSynchronized
  subst hsz
  have hD := hD0.self (sz := s.heap.size)
  generalize hAe : va_A [(h0, .inr (12, [.int th, .ref n1, .int 0, .ref b1, .ref c1, .ref f1, .ref g1, .long 0, .int 0])), (n1, .inr (1, [.int 0, .ref (aE G), .int 0])), (e1, .inr (11, [.int tk, .int tn, .null, .null, .int 1, .int tf]))] s.heap.size = A at hD hE ⊢
  have hA : ∀ q : Nat, s.heap.size ≤ q → A q := fun q h => by rw [← hAe]; exact Or.inr h
  have hS : va_S A s.heap s.heap [] := va_S.rf
  obtain ⟨H, hHe⟩ : ∃ H : Heap, H = s.heap := ⟨_, rfl⟩
  have hP : va_P (DG G) clP1 [(h0, .inr (12, [.int th, .ref n1, .int 0, .ref b1, .ref c1, .ref f1, .ref g1, .long 0, .int 0])), (n1, .inr (1, [.int 0, .ref (aE G), .int 0])), (e1, .inr (11, [.int tk, .int tn, .null, .null, .int 1, .int tf]))] H := by rw [hHe]; exact hP
  have hS : va_S A s.heap H [] := by rw [hHe]; exact hS
  have hl := lv_entry ([.ref h0, .ref e1]) (n := 3) (Nat.le_of_ble_eq_true rfl)
  rw [lg_entry_eq, ← hHe]
  generalize (lg_sl ([.ref h0, .ref e1]) ++ List.replicate (3 - (lg_sl ([.ref h0, .ref e1])).length) Slot.unset).toArray = ls at hl ⊢
  have hl : lv_has ls 3 [(0, .ref h0), (1, .ref e1)] := hl
  refine lv_aload_n hx hb dX17_lays_0 rfl (lv_at hl 0 rfl) ?_
  refine va_get (D := DG G) (ci := 12) (v := .ref n1) (C := RX17) (T := TX17) (N := 9) hx hb hts inW_X17 hown hK hP 0 rfl rfl 1 (by decide) (hts _ wm1346) (fun _ h9 => h9) rfl dX17_lays_1 ?_
  refine lv_aload_n hx hb dX17_lays_4 rfl (lv_at hl 1 rfl) ?_
  have hFc := va_free (wc := [(n1, .inr (1, [.int 0, .ref (aE G), .int 0])), (e1, .inr (11, [.int tk, .int tn, .null, .null, .int 1, .int tf]))]) hD hS hA [1, 2] rfl
  refine va_calli (va_runV (As := [.ref e1]) (rest := []) ⟨hx, hb, hml, hown, hts⟩ (k_J_add1 l hfl G n1 e1 tk tn tf H.size) (cwV 1 hts (gV wm1435 wm1436 wm1437 wm14 wm1438) rfl rfl rfl (by decide +kernel) ⟨Nat.le_of_ble_eq_true rfl, Nat.le_of_ble_eq_true rfl⟩) (pre_v (pre_s hK hP hD hS hE [1, 2] rfl rfl (by decide) hFc) (va_recv hK hP (ci := 1) (q0 := 1) rfl rfl)) rfl rfl hl.1 rfl (lv_room (Nat.le_of_ble_eq_true rfl)) dX17_lays_5 ⟨Nat.le_of_ble_eq_true rfl, Nat.le_of_ble_eq_true rfl⟩) hS (fun q _ h => hFc q h) hFc (fun r u t H locs ht hvm hw hB hz1 hk1 hS => ?_)
  obtain rfl : r = 1 := hw
  obtain ⟨q_1, hP1, hD1⟩ := hB
  rw [ht] at hP1
  obtain ⟨hP, hD⟩ := va_join (wr := [(h0, .inr (12, [.int th, .ref n1, .int 0, .ref b1, .ref c1, .ref f1, .ref g1, .long 0, .int 0]))]) (w1 := [(n1, .inr (1, [.int 1, .ref q_1, .int 1]))]) hP hD [1, 2] [0] rfl rfl (by decide) (by decide) hk1 hFc hP1 hD1
  have hP : va_P (DG G) clP1 [(h0, .inr (12, [.int th, .ref n1, .int 0, .ref b1, .ref c1, .ref f1, .ref g1, .long 0, .int 0])), (n1, .inr (1, [.int 1, .ref q_1, .int 1]))] H := hP
  have hD : va_D A [(h0, .inr (12, [.int th, .ref n1, .int 0, .ref b1, .ref c1, .ref f1, .ref g1, .long 0, .int 0])), (n1, .inr (1, [.int 1, .ref q_1, .int 1]))] := hD
  refine W.widen (k := 1) (n := 10) (Nat.le_of_ble_eq_true rfl) (Nat.le_of_ble_eq_true rfl) ?_
  refine lv_istore_n (lv' := [(2, .int 1), (0, .ref h0), (1, .ref e1)]) hx hb dX17_lays_8 rfl hl (by decide) rfl (fun ls hl => ?_)
  refine lv_aload_n hx hb dX17_lays_9 rfl (lv_at hl 1 rfl) ?_
  refine va_get (D := DG G) (ci := 12) (v := .ref n1) (C := RX17) (T := TX17) (N := 9) hx hb hts inW_X17 hown hK hP 0 rfl rfl 1 (by decide) (hts _ wm1346) (fun _ h9 => h9) rfl dX17_lays_10 ?_
  have hFc := va_free (wc := [(n1, .inr (1, [.int 1, .ref q_1, .int 1]))]) hD hS hA [1] rfl
  refine va_calli (va_runV (As := []) (rest := []) ⟨hx, hb, hml, hown, hts⟩ (k_J_alSize l hfl G n1 1 q_1 1 H.size) (cwV 0 hts (gV wm1388 wm1389 wm1390 wm14 wm1391) rfl rfl rfl (by decide +kernel) ⟨Nat.le_of_ble_eq_true rfl, Nat.le_of_ble_eq_true rfl⟩) (pre_v (pre_s hK hP hD hS hE [1] rfl rfl (by decide) hFc) (va_recv hK hP (ci := 1) (q0 := 1) rfl rfl)) rfl rfl hl.1 rfl (lv_room (Nat.le_of_ble_eq_true rfl)) dX17_lays_13 ⟨Nat.le_of_ble_eq_true rfl, Nat.le_of_ble_eq_true rfl⟩) hS (fun q _ h => hFc q h) hFc (fun r u t H locs ht hvm hw hB hz1 hk1 hS => ?_)
  obtain rfl : r = 1 := hw
  obtain ⟨hP1, hD1⟩ := hB
  rw [ht] at hP1
  obtain ⟨hP, hD⟩ := va_join (wr := [(h0, .inr (12, [.int th, .ref n1, .int 0, .ref b1, .ref c1, .ref f1, .ref g1, .long 0, .int 0]))]) (w1 := [(n1, .inr (1, [.int 1, .ref q_1, .int 1]))]) hP hD [1] [0] rfl rfl (by decide) (by decide) hk1 hFc hP1 hD1
  have hP : va_P (DG G) clP1 [(h0, .inr (12, [.int th, .ref n1, .int 0, .ref b1, .ref c1, .ref f1, .ref g1, .long 0, .int 0])), (n1, .inr (1, [.int 1, .ref q_1, .int 1]))] H := hP
  have hD : va_D A [(h0, .inr (12, [.int th, .ref n1, .int 0, .ref b1, .ref c1, .ref f1, .ref g1, .long 0, .int 0])), (n1, .inr (1, [.int 1, .ref q_1, .int 1]))] := hD
  refine W.widen (k := 1) (n := 10) (Nat.le_of_ble_eq_true rfl) (Nat.le_of_ble_eq_true rfl) ?_
  refine lv_iconst (v := 1) hx hb dX17_lays_16 (by decide) ?_
  refine lv_isub hx hb dX17_lays_17 ?_
  refine lv_topi (fun z_2 ez_2 => ?_)
  obtain rfl : z_2 = 0 := ez_2.trans (by decide)
  have hP9 := hP.sub (ws' := [(h0, .inr (12, [.int th, .ref n1, .int 0, .ref b1, .ref c1, .ref f1, .ref g1, .long 0, .int 0]))]) [0] rfl
  have hD9 := hD.sub (ws' := [(h0, .inr (12, [.int th, .ref n1, .int 0, .ref b1, .ref c1, .ref f1, .ref g1, .long 0, .int 0]))]) [0] (by decide) rfl
  refine W.widen (k := 1) (n := 10) (Nat.le_of_ble_eq_true rfl) (Nat.le_of_ble_eq_true rfl) ?_
  exact W.iret (v := 0) hx hb hr (fun t ht hW => ⟨⟨0, (), rfl, rfl, ⟨by rw [ht]; exact hP9, hD9⟩⟩, hS.F ht⟩) hS.2.2 dX17_lays_18 hlocks
set_option maxHeartbeats 4000000 in
set_option maxRecDepth 100000 in
theorem k_X17_isFull (l : Launch) (hfl : l.stackTraces = false) (G : GC) (h0 : Nat) (th : Int32) (n1 : Nat) (b1 : Nat) (c1 : Nat) (f1 : Nat) (g1 : Nat) (sz : Nat) : Met l yX17_isFull (Cond.code yX17_isFull cX17_isFull 1 (some .boolean) :: W0) ({ frames := 1, cells := 0, slots := 0, locals := 20 }) (va_Pc [.ref h0] (WD G [(h0, .inr (12, [.int th, .ref n1, .int 0, .ref b1, .ref c1, .ref f1, .ref g1, .long 0, .int 0])), (n1, .inr (1, [.int 0, .ref (aE G), .int 0]))] sz)) (va_Qi (fun (r : Int32) (_ : Unit) => r = 0) (fun _ t => PW G (va_A [(h0, .inr (12, [.int th, .ref n1, .int 0, .ref b1, .ref c1, .ref f1, .ref g1, .long 0, .int 0])), (n1, .inr (1, [.int 0, .ref (aE G), .int 0]))] sz) [(h0, .inr (12, [.int th, .ref n1, .int 0, .ref b1, .ref c1, .ref f1, .ref g1, .long 0, .int 0])), (n1, .inr (1, [.int 0, .ref (aE G), .int 0]))] t) (va_A [(h0, .inr (12, [.int th, .ref n1, .int 0, .ref b1, .ref c1, .ref f1, .ref g1, .long 0, .int 0])), (n1, .inr (1, [.int 0, .ref (aE G), .int 0]))] sz)) 0 0 (va_A [(h0, .inr (12, [.int th, .ref n1, .int 0, .ref b1, .ref c1, .ref f1, .ref g1, .long 0, .int 0])), (n1, .inr (1, [.int 0, .ref (aE G), .int 0]))] sz) := by
  refine Met.ofW (cc := cX17_isFull) (maxL := 1) (ret := (some .boolean)) (by decide) rfl ?_
  intro p e s m args below meth c s₁ B hml hv
  obtain ⟨rfl, hsz, hP, hK, hD0, hE⟩ := hv
  have hx := B.exec
  have hb := B.bytes
  have hr := B.returns
  have hts := w0_tail B.pre
  have hown : s.vm.findClass RX17 = some m.cls := findClass_of_methodNamed B.named
  have hlocks := B.notSynchronized
  subst hsz
  have hD := hD0.self (sz := s.heap.size)
  generalize hAe : va_A [(h0, .inr (12, [.int th, .ref n1, .int 0, .ref b1, .ref c1, .ref f1, .ref g1, .long 0, .int 0])), (n1, .inr (1, [.int 0, .ref (aE G), .int 0]))] s.heap.size = A at hD hE ⊢
  have hA : ∀ q : Nat, s.heap.size ≤ q → A q := fun q h => by rw [← hAe]; exact Or.inr h
  have hS : va_S A s.heap s.heap [] := va_S.rf
  obtain ⟨H, hHe⟩ : ∃ H : Heap, H = s.heap := ⟨_, rfl⟩
  have hP : va_P (DG G) clP1 [(h0, .inr (12, [.int th, .ref n1, .int 0, .ref b1, .ref c1, .ref f1, .ref g1, .long 0, .int 0])), (n1, .inr (1, [.int 0, .ref (aE G), .int 0]))] H := by rw [hHe]; exact hP
  have hS : va_S A s.heap H [] := by rw [hHe]; exact hS
  have hl := lv_entry ([.ref h0]) (n := 1) (Nat.le_of_ble_eq_true rfl)
  rw [lg_entry_eq, ← hHe]
  generalize (lg_sl ([.ref h0]) ++ List.replicate (1 - (lg_sl ([.ref h0])).length) Slot.unset).toArray = ls at hl ⊢
  have hl : lv_has ls 1 [(0, .ref h0)] := hl
  refine lv_aload_n hx hb dX17_isFull_0 rfl (lv_at hl 0 rfl) ?_
  refine va_get (D := DG G) (ci := 12) (v := .ref n1) (C := RX17) (T := TX17) (N := 9) hx hb hts inW_X17 hown hK hP 0 rfl rfl 1 (by decide) (hts _ wm1346) (fun _ h9 => h9) rfl dX17_isFull_1 ?_
  have hFc := va_free (wc := [(n1, .inr (1, [.int 0, .ref (aE G), .int 0]))]) hD hS hA [1] rfl
  refine va_calli (va_runV (As := []) (rest := []) ⟨hx, hb, hml, hown, hts⟩ (k_J_alSize l hfl G n1 0 ((aE G)) 0 H.size) (cwV 0 hts (gV wm1388 wm1389 wm1390 wm14 wm1391) rfl rfl rfl (by decide +kernel) ⟨Nat.le_of_ble_eq_true rfl, Nat.le_of_ble_eq_true rfl⟩) (pre_v (pre_s hK hP hD hS hE [1] rfl rfl (by decide) hFc) (va_recv hK hP (ci := 1) (q0 := 1) rfl rfl)) rfl rfl hl.1 rfl (lv_room (Nat.le_of_ble_eq_true rfl)) dX17_isFull_4 ⟨Nat.le_of_ble_eq_true rfl, Nat.le_of_ble_eq_true rfl⟩) hS (fun q _ h => hFc q h) hFc (fun r u t H locs ht hvm hw hB hz1 hk1 hS => ?_)
  obtain rfl : r = 0 := hw
  obtain ⟨hP1, hD1⟩ := hB
  rw [ht] at hP1
  obtain ⟨hP, hD⟩ := va_join (wr := [(h0, .inr (12, [.int th, .ref n1, .int 0, .ref b1, .ref c1, .ref f1, .ref g1, .long 0, .int 0]))]) (w1 := [(n1, .inr (1, [.int 0, .ref (aE G), .int 0]))]) hP hD [1] [0] rfl rfl (by decide) (by decide) hk1 hFc hP1 hD1
  have hP : va_P (DG G) clP1 [(h0, .inr (12, [.int th, .ref n1, .int 0, .ref b1, .ref c1, .ref f1, .ref g1, .long 0, .int 0])), (n1, .inr (1, [.int 0, .ref (aE G), .int 0]))] H := hP
  have hD : va_D A [(h0, .inr (12, [.int th, .ref n1, .int 0, .ref b1, .ref c1, .ref f1, .ref g1, .long 0, .int 0])), (n1, .inr (1, [.int 0, .ref (aE G), .int 0]))] := hD
  refine W.widen (k := 0) (n := 0) (Nat.le_of_ble_eq_true rfl) (Nat.le_of_ble_eq_true rfl) ?_
  refine lv_sipush (v := 250) hx hb dX17_isFull_7 (by decide) ?_
  refine lv_icmp_ne (tgt := 17) hx hb dX17_isFull_10 (by decide) (fun _ => ?_) (fun c => absurd c (by decide))
  refine lv_iconst (v := 0) hx hb dX17_isFull_17 (by decide) ?_
  have hP9 := hP.sub (ws' := [(h0, .inr (12, [.int th, .ref n1, .int 0, .ref b1, .ref c1, .ref f1, .ref g1, .long 0, .int 0])), (n1, .inr (1, [.int 0, .ref (aE G), .int 0]))]) [0, 1] rfl
  have hD9 := hD.sub (ws' := [(h0, .inr (12, [.int th, .ref n1, .int 0, .ref b1, .ref c1, .ref f1, .ref g1, .long 0, .int 0])), (n1, .inr (1, [.int 0, .ref (aE G), .int 0]))]) [0, 1] (by decide) rfl
  refine W.widen (k := 0) (n := 0) (Nat.le_of_ble_eq_true rfl) (Nat.le_of_ble_eq_true rfl) ?_
  exact W.zret (v := 0) (ty := .boolean) hx hb hr (by decide) (fun t ht hW => ⟨⟨0, (), rfl, rfl, ⟨by rw [ht]; exact hP9, hD9⟩⟩, hS.F ht⟩) hS.2.2 dX17_isFull_18 hlocks
set_option maxHeartbeats 4000000 in
set_option maxRecDepth 100000 in
theorem k_X16_init_117 (l : Launch) (hfl : l.stackTraces = false) (G : GC) (h0 : Nat) (p1 : Int32) (sz : Nat) : Met l yX16_init (Cond.code yX16_init cX16_init 5 none :: W0) ({ frames := 1, cells := 0, slots := 0, locals := 12 }) (va_Pc [.ref h0, .int 117, .int p1, .null, .null] (WD G [(h0, .inr (11, [.int 0, .int 0, .null, .null, .int 0, .int 0]))] sz)) (va_Qv (fun _ : Unit => True) (fun _ t => PW G (va_A [(h0, .inr (11, [.int 0, .int 0, .null, .null, .int 0, .int 0]))] sz) [(h0, .inr (11, [.int 117, .int p1, .null, .null, .int 1, .int 0]))] t) (va_A [(h0, .inr (11, [.int 0, .int 0, .null, .null, .int 0, .int 0]))] sz)) 0 0 (va_A [(h0, .inr (11, [.int 0, .int 0, .null, .null, .int 0, .int 0]))] sz) := by
  refine Met.ofW (cc := cX16_init) (maxL := 5) (ret := none) (by decide) rfl ?_
  intro p e s m args below meth c s₁ B hml hv
  obtain ⟨rfl, hsz, hP, hK, hD0, hE⟩ := hv
  have hx := B.exec
  have hb := B.bytes
  have hr := B.returns
  have hts := w0_tail B.pre
  have hown : s.vm.findClass RX16 = some m.cls := findClass_of_methodNamed B.named
  have hlocks := B.notSynchronized
  have hin : meth.name = "<init>" := (name_of_methodNamed B.named B.method).1
  subst hsz
  have hD := hD0.self (sz := s.heap.size)
  generalize hAe : va_A [(h0, .inr (11, [.int 0, .int 0, .null, .null, .int 0, .int 0]))] s.heap.size = A at hD hE ⊢
  have hA : ∀ q : Nat, s.heap.size ≤ q → A q := fun q h => by rw [← hAe]; exact Or.inr h
  have hS : va_S A s.heap s.heap [] := va_S.rf
  obtain ⟨H, hHe⟩ : ∃ H : Heap, H = s.heap := ⟨_, rfl⟩
  have hP : va_P (DG G) clP1 [(h0, .inr (11, [.int 0, .int 0, .null, .null, .int 0, .int 0]))] H := by rw [hHe]; exact hP
  have hS : va_S A s.heap H [] := by rw [hHe]; exact hS
  have hl := lv_entry ([.ref h0, .int 117, .int p1, .null, .null]) (n := 5) (Nat.le_of_ble_eq_true rfl)
  rw [lg_entry_eq, ← hHe]
  generalize (lg_sl ([.ref h0, .int 117, .int p1, .null, .null]) ++ List.replicate (5 - (lg_sl ([.ref h0, .int 117, .int p1, .null, .null])).length) Slot.unset).toArray = ls at hl ⊢
  have hl : lv_has ls 5 [(0, .ref h0), (1, .int 117), (2, .int p1), (3, .null), (4, .null)] := hl
  refine lv_aload_n hx hb dX16_init_0 rfl (lv_at hl 0 rfl) ?_
  refine W.objInit hx hb hown (hts _ wm1404) (hts _ wm46) (hts _ wm47) rfl (by rw [hml]; exact hl.1) rfl dX16_init_1 (Nat.le_of_ble_eq_true rfl) (Nat.le_of_ble_eq_true rfl) ?_
  refine W.eq (g2 := F0 m 4 ls []) rfl ?_
  refine lv_aload_n hx hb dX16_init_4 rfl (lv_at hl 0 rfl) ?_
  refine lv_iload_n hx hb dX16_init_5 rfl (lv_at hl 1 rfl) ?_
  refine va_putF (D := DG G) (ci := 11) (v := .int 117) (ty := tyX16 0) (C := RX16) (T := TX16) (N := 6) hx hb hts inW_X16 tyX16 tyX16_ok nmX16 hown hK hP hD hS 0 rfl rfl 0 (by decide) (hts _ wm1406) (fun _ h9 => h9) rfl hin rfl (by decide +kernel) rfl rfl (Nat.le_of_ble_eq_true rfl) dX16_init_6 (fun H locs hP hD hS => ?_)
  have hP : va_P (DG G) clP1 [(h0, .inr (11, [.int 117, .int 0, .null, .null, .int 0, .int 0]))] H := hP
  have hD : va_D A [(h0, .inr (11, [.int 117, .int 0, .null, .null, .int 0, .int 0]))] := hD
  refine lv_aload_n hx hb dX16_init_9 rfl (lv_at hl 0 rfl) ?_
  refine lv_iload_n hx hb dX16_init_10 rfl (lv_at hl 2 rfl) ?_
  refine va_putF (D := DG G) (ci := 11) (v := .int p1) (ty := tyX16 1) (C := RX16) (T := TX16) (N := 6) hx hb hts inW_X16 tyX16 tyX16_ok nmX16 hown hK hP hD hS 0 rfl rfl 1 (by decide) (hts _ wm1408) (fun _ h9 => h9) rfl hin rfl (by decide +kernel) rfl rfl (Nat.le_of_ble_eq_true rfl) dX16_init_11 (fun H locs hP hD hS => ?_)
  have hP : va_P (DG G) clP1 [(h0, .inr (11, [.int 117, .int p1, .null, .null, .int 0, .int 0]))] H := hP
  have hD : va_D A [(h0, .inr (11, [.int 117, .int p1, .null, .null, .int 0, .int 0]))] := hD
  refine lv_aload_n hx hb dX16_init_14 rfl (lv_at hl 0 rfl) ?_
  refine lv_aload_nN hx hb dX16_init_15 rfl (lv_at hl 3 rfl) ?_
  refine va_putF (D := DG G) (ci := 11) (v := .null) (ty := tyX16 2) (C := RX16) (T := TX16) (N := 6) hx hb hts inW_X16 tyX16 tyX16_ok nmX16 hown hK hP hD hS 0 rfl rfl 2 (by decide) (hts _ wm1410) (fun _ h9 => h9) rfl hin rfl (by decide +kernel) rfl rfl (Nat.le_of_ble_eq_true rfl) dX16_init_16 (fun H locs hP hD hS => ?_)
  have hP : va_P (DG G) clP1 [(h0, .inr (11, [.int 117, .int p1, .null, .null, .int 0, .int 0]))] H := hP
  have hD : va_D A [(h0, .inr (11, [.int 117, .int p1, .null, .null, .int 0, .int 0]))] := hD
  refine lv_aload_n hx hb dX16_init_19 rfl (lv_at hl 0 rfl) ?_
  refine lv_aloadN hx hb dX16_init_20 (lv_at hl 4 rfl) ?_
  refine va_putF (D := DG G) (ci := 11) (v := .null) (ty := tyX16 3) (C := RX16) (T := TX16) (N := 6) hx hb hts inW_X16 tyX16 tyX16_ok nmX16 hown hK hP hD hS 0 rfl rfl 3 (by decide) (hts _ wm1412) (fun _ h9 => h9) rfl hin rfl (by decide +kernel) rfl rfl (Nat.le_of_ble_eq_true rfl) dX16_init_22 (fun H locs hP hD hS => ?_)
  have hP : va_P (DG G) clP1 [(h0, .inr (11, [.int 117, .int p1, .null, .null, .int 0, .int 0]))] H := hP
  have hD : va_D A [(h0, .inr (11, [.int 117, .int p1, .null, .null, .int 0, .int 0]))] := hD
  refine lv_aload_n hx hb dX16_init_25 rfl (lv_at hl 0 rfl) ?_
  refine lv_aload_nN hx hb dX16_init_26 rfl (lv_at hl 3 rfl) ?_
  refine lv_ifnonnullN hx hb dX16_init_27 ?_
  refine lv_iconst (v := 1) hx hb dX16_init_30 (by decide) ?_
  refine lv_goto (tgt := 46) hx hb dX16_init_31 (by decide) ?_
  refine va_putF (D := DG G) (ci := 11) (v := .int 1) (ty := tyX16 4) (C := RX16) (T := TX16) (N := 6) hx hb hts inW_X16 tyX16 tyX16_ok nmX16 hown hK hP hD hS 0 rfl rfl 4 (by decide) (hts _ wm1414) (fun _ h9 => h9) rfl hin rfl (by decide +kernel) rfl rfl (Nat.le_of_ble_eq_true rfl) dX16_init_46 (fun H locs hP hD hS => ?_)
  have hP : va_P (DG G) clP1 [(h0, .inr (11, [.int 117, .int p1, .null, .null, .int 1, .int 0]))] H := hP
  have hD : va_D A [(h0, .inr (11, [.int 117, .int p1, .null, .null, .int 1, .int 0]))] := hD
  refine lv_aload_n hx hb dX16_init_49 rfl (lv_at hl 0 rfl) ?_
  refine lv_aload_nN hx hb dX16_init_50 rfl (lv_at hl 3 rfl) ?_
  refine lv_ifnonnullN hx hb dX16_init_51 ?_
  refine lv_iload_n hx hb dX16_init_54 rfl (lv_at hl 1 rfl) ?_
  refine lv_bipush (v := 118) hx hb dX16_init_55 (by decide) ?_
  refine lv_icmp_ne (tgt := 66) hx hb dX16_init_57 (by decide) (fun _ => ?_) (fun c => absurd c (by decide))
  refine lv_iconst (v := 0) hx hb dX16_init_66 (by decide) ?_
  refine lv_goto (tgt := 98) hx hb dX16_init_67 (by decide) ?_
  refine va_putF (D := DG G) (ci := 11) (v := .int 0) (ty := tyX16 5) (C := RX16) (T := TX16) (N := 6) hx hb hts inW_X16 tyX16 tyX16_ok nmX16 hown hK hP hD hS 0 rfl rfl 5 (by decide) (hts _ wm1416) (fun _ h9 => h9) rfl hin rfl (by decide +kernel) rfl rfl (Nat.le_of_ble_eq_true rfl) dX16_init_98 (fun H locs hP hD hS => ?_)
  have hP : va_P (DG G) clP1 [(h0, .inr (11, [.int 117, .int p1, .null, .null, .int 1, .int 0]))] H := hP
  have hD : va_D A [(h0, .inr (11, [.int 117, .int p1, .null, .null, .int 1, .int 0]))] := hD
  have hP9 := hP.sub (ws' := [(h0, .inr (11, [.int 117, .int p1, .null, .null, .int 1, .int 0]))]) [0] rfl
  have hD9 := hD.sub (ws' := [(h0, .inr (11, [.int 117, .int p1, .null, .null, .int 1, .int 0]))]) [0] (by decide) rfl
  refine W.widen (k := 0) (n := 0) (Nat.le_of_ble_eq_true rfl) (Nat.le_of_ble_eq_true rfl) ?_
  exact W.vret hx hb hr (fun t ht hW => ⟨⟨(), rfl, trivial, ⟨by rw [ht]; exact hP9, hD9⟩⟩, hS.F ht⟩) hS.2.2 dX16_init_101 hlocks
set_option maxHeartbeats 4000000 in
set_option maxRecDepth 100000 in
theorem k_X17_leaf_117 (l : Launch) (hfl : l.stackTraces = false) (G : GC) (p1 : Int32) (sz : Nat) : Met l yX17_leaf (Cond.code yX17_leaf cX17_leaf 2 (some (.object "TelescopeCourtModel$Term")) :: W0) ({ frames := 2, cells := 1, slots := 6, locals := 36 }) (va_Pc [.int 117, .int p1] (WD G [] sz)) (va_Qr (fun _ : Unit => True) (fun _ a t => PW G (va_A [] sz) [(a, .inr (11, [.int 117, .int p1, .null, .null, .int 1, .int 0]))] t) (va_A [] sz)) 1 6 (va_A [] sz) := by
  refine Met.ofW (cc := cX17_leaf) (maxL := 2) (ret := (some (.object "TelescopeCourtModel$Term"))) (by decide) rfl ?_
  intro p e s m args below meth c s₁ B hml hv
  obtain ⟨rfl, hsz, hP, hK, hD0, hE⟩ := hv
  have hx := B.exec
  have hb := B.bytes
  have hr := B.returns
  have hts := w0_tail B.pre
  have hown : s.vm.findClass RX17 = some m.cls := findClass_of_methodNamed B.named
  have hlocks := B.notSynchronized
  subst hsz
  have hD := hD0.self (sz := s.heap.size)
  generalize hAe : va_A [] s.heap.size = A at hD hE ⊢
  have hA : ∀ q : Nat, s.heap.size ≤ q → A q := fun q h => by rw [← hAe]; exact Or.inr h
  have hS : va_S A s.heap s.heap [] := va_S.rf
  obtain ⟨H, hHe⟩ : ∃ H : Heap, H = s.heap := ⟨_, rfl⟩
  have hP : va_P (DG G) clP1 [] H := by rw [hHe]; exact hP
  have hS : va_S A s.heap H [] := by rw [hHe]; exact hS
  have hl := lv_entry ([.int 117, .int p1]) (n := 2) (Nat.le_of_ble_eq_true rfl)
  rw [lg_entry_eq, ← hHe]
  generalize (lg_sl ([.int 117, .int p1]) ++ List.replicate (2 - (lg_sl ([.int 117, .int p1])).length) Slot.unset).toArray = ls at hl ⊢
  have hl : lv_has ls 2 [(0, .int 117), (1, .int p1)] := hl
  refine va_new (ci := 11) (fs := [.int 0, .int 0, .null, .null, .int 0, .int 0]) (C := RX16) (T := TX16) (N := 6) hx hb hts inW_X16 tyX16 tyX16_ok hown (hts _ wm1399) (hts _ wm1400) (hts _ wm20) hK hP hD hS hA rfl (by decide +kernel) (Nat.le_of_ble_eq_true rfl) (Nat.le_of_ble_eq_true rfl) dX17_leaf_0 (fun q_1 H hP hD hS => ?_)
  have hP : va_P (DG G) clP1 [(q_1, .inr (11, [.int 0, .int 0, .null, .null, .int 0, .int 0]))] H := hP
  have hD : va_D A [(q_1, .inr (11, [.int 0, .int 0, .null, .null, .int 0, .int 0]))] := hD
  refine W.widen (k := 1) (n := 6) (Nat.le_of_ble_eq_true rfl) (Nat.le_of_ble_eq_true rfl) ?_
  refine lv_dup hx hb dX17_leaf_3 rfl ?_
  refine lv_iload_n hx hb dX17_leaf_4 rfl (lv_at hl 0 rfl) ?_
  refine lv_iload_n hx hb dX17_leaf_5 rfl (lv_at hl 1 rfl) ?_
  refine lv_null hx hb dX17_leaf_6 ?_
  refine lv_null hx hb dX17_leaf_7 ?_
  have hFc := va_free (wc := [(q_1, .inr (11, [.int 0, .int 0, .null, .null, .int 0, .int 0]))]) hD hS hA [0] rfl
  refine va_callv (va_runI (As := [.int 117, .int p1, .null, .null]) (rest := [.ref q_1]) ⟨hx, hb, hml, hown, hts⟩ (k_X16_init_117 l hfl G q_1 p1 H.size) (cwI 4 hts (gC wm1403) rfl rfl rfl (hts _ wm20) (hts _ wm1401) (hts _ wm1402) rfl (by decide +kernel) ⟨Nat.le_of_ble_eq_true rfl, Nat.le_of_ble_eq_true rfl⟩) (pre_s hK hP hD hS hE [0] rfl rfl (by decide) hFc) rfl rfl hl.1 rfl (lv_room (Nat.le_of_ble_eq_true rfl)) dX17_leaf_8 ⟨Nat.le_of_ble_eq_true rfl, Nat.le_of_ble_eq_true rfl⟩) hS (fun q _ h => hFc q h) hFc (fun u t H locs ht hvm hw hB hz1 hk1 hS => ?_)
  obtain ⟨hP1, hD1⟩ := hB
  rw [ht] at hP1
  obtain ⟨hP, hD⟩ := va_join (wr := []) (w1 := [(q_1, .inr (11, [.int 117, .int p1, .null, .null, .int 1, .int 0]))]) hP hD [0] [] rfl rfl (by decide) (by decide) hk1 hFc hP1 hD1
  have hP : va_P (DG G) clP1 [(q_1, .inr (11, [.int 117, .int p1, .null, .null, .int 1, .int 0]))] H := hP
  have hD : va_D A [(q_1, .inr (11, [.int 117, .int p1, .null, .null, .int 1, .int 0]))] := hD
  refine W.widen (k := 1) (n := 6) (Nat.le_of_ble_eq_true rfl) (Nat.le_of_ble_eq_true rfl) ?_
  have hP9 := hP.sub (ws' := [(q_1, .inr (11, [.int 117, .int p1, .null, .null, .int 1, .int 0]))]) [0] rfl
  have hD9 := hD.sub (ws' := [(q_1, .inr (11, [.int 117, .int p1, .null, .null, .int 1, .int 0]))]) [0] (by decide) rfl
  refine W.widen (k := 1) (n := 6) (Nat.le_of_ble_eq_true rfl) (Nat.le_of_ble_eq_true rfl) ?_
  exact W.aret (v := .ref q_1) hx hb hr (Or.inl ⟨_, rfl⟩) (Or.inr ⟨_, rfl⟩) (fun t ht hW => ⟨⟨(), q_1, rfl, trivial, ⟨by rw [ht]; exact hP9, hD9⟩⟩, hS.F ht⟩) hS.2.2 dX17_leaf_11 hlocks
set_option maxHeartbeats 4000000 in
set_option maxRecDepth 100000 in
theorem k_X16_init_118 (l : Launch) (hfl : l.stackTraces = false) (G : GC) (h0 : Nat) (p1 : Int32) (sz : Nat) : Met l yX16_init (Cond.code yX16_init cX16_init 5 none :: W0) ({ frames := 1, cells := 0, slots := 0, locals := 12 }) (va_Pc [.ref h0, .int 118, .int p1, .null, .null] (WD G [(h0, .inr (11, [.int 0, .int 0, .null, .null, .int 0, .int 0]))] sz)) (va_Qv (fun _ : Unit => True) (fun _ t => ∃ (zz0 : Int32), PW G (va_A [(h0, .inr (11, [.int 0, .int 0, .null, .null, .int 0, .int 0]))] sz) [(h0, .inr (11, [.int 118, .int p1, .null, .null, .int 1, .int zz0]))] t) (va_A [(h0, .inr (11, [.int 0, .int 0, .null, .null, .int 0, .int 0]))] sz)) 0 0 (va_A [(h0, .inr (11, [.int 0, .int 0, .null, .null, .int 0, .int 0]))] sz) := by
  refine Met.ofW (cc := cX16_init) (maxL := 5) (ret := none) (by decide) rfl ?_
  intro p e s m args below meth c s₁ B hml hv
  obtain ⟨rfl, hsz, hP, hK, hD0, hE⟩ := hv
  have hx := B.exec
  have hb := B.bytes
  have hr := B.returns
  have hts := w0_tail B.pre
  have hown : s.vm.findClass RX16 = some m.cls := findClass_of_methodNamed B.named
  have hlocks := B.notSynchronized
  have hin : meth.name = "<init>" := (name_of_methodNamed B.named B.method).1
  subst hsz
  have hD := hD0.self (sz := s.heap.size)
  generalize hAe : va_A [(h0, .inr (11, [.int 0, .int 0, .null, .null, .int 0, .int 0]))] s.heap.size = A at hD hE ⊢
  have hA : ∀ q : Nat, s.heap.size ≤ q → A q := fun q h => by rw [← hAe]; exact Or.inr h
  have hS : va_S A s.heap s.heap [] := va_S.rf
  obtain ⟨H, hHe⟩ : ∃ H : Heap, H = s.heap := ⟨_, rfl⟩
  have hP : va_P (DG G) clP1 [(h0, .inr (11, [.int 0, .int 0, .null, .null, .int 0, .int 0]))] H := by rw [hHe]; exact hP
  have hS : va_S A s.heap H [] := by rw [hHe]; exact hS
  have hl := lv_entry ([.ref h0, .int 118, .int p1, .null, .null]) (n := 5) (Nat.le_of_ble_eq_true rfl)
  rw [lg_entry_eq, ← hHe]
  generalize (lg_sl ([.ref h0, .int 118, .int p1, .null, .null]) ++ List.replicate (5 - (lg_sl ([.ref h0, .int 118, .int p1, .null, .null])).length) Slot.unset).toArray = ls at hl ⊢
  have hl : lv_has ls 5 [(0, .ref h0), (1, .int 118), (2, .int p1), (3, .null), (4, .null)] := hl
  refine lv_aload_n hx hb dX16_init_0 rfl (lv_at hl 0 rfl) ?_
  refine W.objInit hx hb hown (hts _ wm1404) (hts _ wm46) (hts _ wm47) rfl (by rw [hml]; exact hl.1) rfl dX16_init_1 (Nat.le_of_ble_eq_true rfl) (Nat.le_of_ble_eq_true rfl) ?_
  refine W.eq (g2 := F0 m 4 ls []) rfl ?_
  refine lv_aload_n hx hb dX16_init_4 rfl (lv_at hl 0 rfl) ?_
  refine lv_iload_n hx hb dX16_init_5 rfl (lv_at hl 1 rfl) ?_
  refine va_putF (D := DG G) (ci := 11) (v := .int 118) (ty := tyX16 0) (C := RX16) (T := TX16) (N := 6) hx hb hts inW_X16 tyX16 tyX16_ok nmX16 hown hK hP hD hS 0 rfl rfl 0 (by decide) (hts _ wm1406) (fun _ h9 => h9) rfl hin rfl (by decide +kernel) rfl rfl (Nat.le_of_ble_eq_true rfl) dX16_init_6 (fun H locs hP hD hS => ?_)
  have hP : va_P (DG G) clP1 [(h0, .inr (11, [.int 118, .int 0, .null, .null, .int 0, .int 0]))] H := hP
  have hD : va_D A [(h0, .inr (11, [.int 118, .int 0, .null, .null, .int 0, .int 0]))] := hD
  refine lv_aload_n hx hb dX16_init_9 rfl (lv_at hl 0 rfl) ?_
  refine lv_iload_n hx hb dX16_init_10 rfl (lv_at hl 2 rfl) ?_
  refine va_putF (D := DG G) (ci := 11) (v := .int p1) (ty := tyX16 1) (C := RX16) (T := TX16) (N := 6) hx hb hts inW_X16 tyX16 tyX16_ok nmX16 hown hK hP hD hS 0 rfl rfl 1 (by decide) (hts _ wm1408) (fun _ h9 => h9) rfl hin rfl (by decide +kernel) rfl rfl (Nat.le_of_ble_eq_true rfl) dX16_init_11 (fun H locs hP hD hS => ?_)
  have hP : va_P (DG G) clP1 [(h0, .inr (11, [.int 118, .int p1, .null, .null, .int 0, .int 0]))] H := hP
  have hD : va_D A [(h0, .inr (11, [.int 118, .int p1, .null, .null, .int 0, .int 0]))] := hD
  refine lv_aload_n hx hb dX16_init_14 rfl (lv_at hl 0 rfl) ?_
  refine lv_aload_nN hx hb dX16_init_15 rfl (lv_at hl 3 rfl) ?_
  refine va_putF (D := DG G) (ci := 11) (v := .null) (ty := tyX16 2) (C := RX16) (T := TX16) (N := 6) hx hb hts inW_X16 tyX16 tyX16_ok nmX16 hown hK hP hD hS 0 rfl rfl 2 (by decide) (hts _ wm1410) (fun _ h9 => h9) rfl hin rfl (by decide +kernel) rfl rfl (Nat.le_of_ble_eq_true rfl) dX16_init_16 (fun H locs hP hD hS => ?_)
  have hP : va_P (DG G) clP1 [(h0, .inr (11, [.int 118, .int p1, .null, .null, .int 0, .int 0]))] H := hP
  have hD : va_D A [(h0, .inr (11, [.int 118, .int p1, .null, .null, .int 0, .int 0]))] := hD
  refine lv_aload_n hx hb dX16_init_19 rfl (lv_at hl 0 rfl) ?_
  refine lv_aloadN hx hb dX16_init_20 (lv_at hl 4 rfl) ?_
  refine va_putF (D := DG G) (ci := 11) (v := .null) (ty := tyX16 3) (C := RX16) (T := TX16) (N := 6) hx hb hts inW_X16 tyX16 tyX16_ok nmX16 hown hK hP hD hS 0 rfl rfl 3 (by decide) (hts _ wm1412) (fun _ h9 => h9) rfl hin rfl (by decide +kernel) rfl rfl (Nat.le_of_ble_eq_true rfl) dX16_init_22 (fun H locs hP hD hS => ?_)
  have hP : va_P (DG G) clP1 [(h0, .inr (11, [.int 118, .int p1, .null, .null, .int 0, .int 0]))] H := hP
  have hD : va_D A [(h0, .inr (11, [.int 118, .int p1, .null, .null, .int 0, .int 0]))] := hD
  refine lv_aload_n hx hb dX16_init_25 rfl (lv_at hl 0 rfl) ?_
  refine lv_aload_nN hx hb dX16_init_26 rfl (lv_at hl 3 rfl) ?_
  refine lv_ifnonnullN hx hb dX16_init_27 ?_
  refine lv_iconst (v := 1) hx hb dX16_init_30 (by decide) ?_
  refine lv_goto (tgt := 46) hx hb dX16_init_31 (by decide) ?_
  refine va_putF (D := DG G) (ci := 11) (v := .int 1) (ty := tyX16 4) (C := RX16) (T := TX16) (N := 6) hx hb hts inW_X16 tyX16 tyX16_ok nmX16 hown hK hP hD hS 0 rfl rfl 4 (by decide) (hts _ wm1414) (fun _ h9 => h9) rfl hin rfl (by decide +kernel) rfl rfl (Nat.le_of_ble_eq_true rfl) dX16_init_46 (fun H locs hP hD hS => ?_)
  have hP : va_P (DG G) clP1 [(h0, .inr (11, [.int 118, .int p1, .null, .null, .int 1, .int 0]))] H := hP
  have hD : va_D A [(h0, .inr (11, [.int 118, .int p1, .null, .null, .int 1, .int 0]))] := hD
  refine lv_aload_n hx hb dX16_init_49 rfl (lv_at hl 0 rfl) ?_
  refine lv_aload_nN hx hb dX16_init_50 rfl (lv_at hl 3 rfl) ?_
  refine lv_ifnonnullN hx hb dX16_init_51 ?_
  refine lv_iload_n hx hb dX16_init_54 rfl (lv_at hl 1 rfl) ?_
  refine lv_bipush (v := 118) hx hb dX16_init_55 (by decide) ?_
  refine lv_icmp_ne (tgt := 66) hx hb dX16_init_57 (by decide) (fun c => absurd (by decide) c) (fun _ => ?_)
  refine lv_iload_n hx hb dX16_init_60 rfl (lv_at hl 2 rfl) ?_
  refine lv_iconst (v := 1) hx hb dX16_init_61 (by decide) ?_
  refine lv_iadd hx hb dX16_init_62 ?_
  refine lv_topi (fun z_1 ez_1 => ?_)
  refine lv_goto (tgt := 98) hx hb dX16_init_63 (by decide) ?_
  refine va_putF (D := DG G) (ci := 11) (v := .int z_1) (ty := tyX16 5) (C := RX16) (T := TX16) (N := 6) hx hb hts inW_X16 tyX16 tyX16_ok nmX16 hown hK hP hD hS 0 rfl rfl 5 (by decide) (hts _ wm1416) (fun _ h9 => h9) rfl hin rfl (by decide +kernel) rfl rfl (Nat.le_of_ble_eq_true rfl) dX16_init_98 (fun H locs hP hD hS => ?_)
  have hP : va_P (DG G) clP1 [(h0, .inr (11, [.int 118, .int p1, .null, .null, .int 1, .int z_1]))] H := hP
  have hD : va_D A [(h0, .inr (11, [.int 118, .int p1, .null, .null, .int 1, .int z_1]))] := hD
  have hP9 := hP.sub (ws' := [(h0, .inr (11, [.int 118, .int p1, .null, .null, .int 1, .int z_1]))]) [0] rfl
  have hD9 := hD.sub (ws' := [(h0, .inr (11, [.int 118, .int p1, .null, .null, .int 1, .int z_1]))]) [0] (by decide) rfl
  refine W.widen (k := 0) (n := 0) (Nat.le_of_ble_eq_true rfl) (Nat.le_of_ble_eq_true rfl) ?_
  exact W.vret hx hb hr (fun t ht hW => ⟨⟨(), rfl, trivial, ⟨z_1, by rw [ht]; exact hP9, hD9⟩⟩, hS.F ht⟩) hS.2.2 dX16_init_101 hlocks
set_option maxHeartbeats 4000000 in
set_option maxRecDepth 100000 in
theorem k_X17_leaf_118 (l : Launch) (hfl : l.stackTraces = false) (G : GC) (p1 : Int32) (sz : Nat) : Met l yX17_leaf (Cond.code yX17_leaf cX17_leaf 2 (some (.object "TelescopeCourtModel$Term")) :: W0) ({ frames := 2, cells := 1, slots := 6, locals := 36 }) (va_Pc [.int 118, .int p1] (WD G [] sz)) (va_Qr (fun _ : Unit => True) (fun _ a t => ∃ (zz0 : Int32), PW G (va_A [] sz) [(a, .inr (11, [.int 118, .int p1, .null, .null, .int 1, .int zz0]))] t) (va_A [] sz)) 1 6 (va_A [] sz) := by
  refine Met.ofW (cc := cX17_leaf) (maxL := 2) (ret := (some (.object "TelescopeCourtModel$Term"))) (by decide) rfl ?_
  intro p e s m args below meth c s₁ B hml hv
  obtain ⟨rfl, hsz, hP, hK, hD0, hE⟩ := hv
  have hx := B.exec
  have hb := B.bytes
  have hr := B.returns
  have hts := w0_tail B.pre
  have hown : s.vm.findClass RX17 = some m.cls := findClass_of_methodNamed B.named
  have hlocks := B.notSynchronized
  subst hsz
  have hD := hD0.self (sz := s.heap.size)
  generalize hAe : va_A [] s.heap.size = A at hD hE ⊢
  have hA : ∀ q : Nat, s.heap.size ≤ q → A q := fun q h => by rw [← hAe]; exact Or.inr h
  have hS : va_S A s.heap s.heap [] := va_S.rf
  obtain ⟨H, hHe⟩ : ∃ H : Heap, H = s.heap := ⟨_, rfl⟩
  have hP : va_P (DG G) clP1 [] H := by rw [hHe]; exact hP
  have hS : va_S A s.heap H [] := by rw [hHe]; exact hS
  have hl := lv_entry ([.int 118, .int p1]) (n := 2) (Nat.le_of_ble_eq_true rfl)
  rw [lg_entry_eq, ← hHe]
  generalize (lg_sl ([.int 118, .int p1]) ++ List.replicate (2 - (lg_sl ([.int 118, .int p1])).length) Slot.unset).toArray = ls at hl ⊢
  have hl : lv_has ls 2 [(0, .int 118), (1, .int p1)] := hl
  refine va_new (ci := 11) (fs := [.int 0, .int 0, .null, .null, .int 0, .int 0]) (C := RX16) (T := TX16) (N := 6) hx hb hts inW_X16 tyX16 tyX16_ok hown (hts _ wm1399) (hts _ wm1400) (hts _ wm20) hK hP hD hS hA rfl (by decide +kernel) (Nat.le_of_ble_eq_true rfl) (Nat.le_of_ble_eq_true rfl) dX17_leaf_0 (fun q_1 H hP hD hS => ?_)
  have hP : va_P (DG G) clP1 [(q_1, .inr (11, [.int 0, .int 0, .null, .null, .int 0, .int 0]))] H := hP
  have hD : va_D A [(q_1, .inr (11, [.int 0, .int 0, .null, .null, .int 0, .int 0]))] := hD
  refine W.widen (k := 1) (n := 6) (Nat.le_of_ble_eq_true rfl) (Nat.le_of_ble_eq_true rfl) ?_
  refine lv_dup hx hb dX17_leaf_3 rfl ?_
  refine lv_iload_n hx hb dX17_leaf_4 rfl (lv_at hl 0 rfl) ?_
  refine lv_iload_n hx hb dX17_leaf_5 rfl (lv_at hl 1 rfl) ?_
  refine lv_null hx hb dX17_leaf_6 ?_
  refine lv_null hx hb dX17_leaf_7 ?_
  have hFc := va_free (wc := [(q_1, .inr (11, [.int 0, .int 0, .null, .null, .int 0, .int 0]))]) hD hS hA [0] rfl
  refine va_callv (va_runI (As := [.int 118, .int p1, .null, .null]) (rest := [.ref q_1]) ⟨hx, hb, hml, hown, hts⟩ (k_X16_init_118 l hfl G q_1 p1 H.size) (cwI 4 hts (gC wm1403) rfl rfl rfl (hts _ wm20) (hts _ wm1401) (hts _ wm1402) rfl (by decide +kernel) ⟨Nat.le_of_ble_eq_true rfl, Nat.le_of_ble_eq_true rfl⟩) (pre_s hK hP hD hS hE [0] rfl rfl (by decide) hFc) rfl rfl hl.1 rfl (lv_room (Nat.le_of_ble_eq_true rfl)) dX17_leaf_8 ⟨Nat.le_of_ble_eq_true rfl, Nat.le_of_ble_eq_true rfl⟩) hS (fun q _ h => hFc q h) hFc (fun u t H locs ht hvm hw hB hz1 hk1 hS => ?_)
  obtain ⟨z_2, hP1, hD1⟩ := hB
  rw [ht] at hP1
  obtain ⟨hP, hD⟩ := va_join (wr := []) (w1 := [(q_1, .inr (11, [.int 118, .int p1, .null, .null, .int 1, .int z_2]))]) hP hD [0] [] rfl rfl (by decide) (by decide) hk1 hFc hP1 hD1
  have hP : va_P (DG G) clP1 [(q_1, .inr (11, [.int 118, .int p1, .null, .null, .int 1, .int z_2]))] H := hP
  have hD : va_D A [(q_1, .inr (11, [.int 118, .int p1, .null, .null, .int 1, .int z_2]))] := hD
  refine W.widen (k := 1) (n := 6) (Nat.le_of_ble_eq_true rfl) (Nat.le_of_ble_eq_true rfl) ?_
  have hP9 := hP.sub (ws' := [(q_1, .inr (11, [.int 118, .int p1, .null, .null, .int 1, .int z_2]))]) [0] rfl
  have hD9 := hD.sub (ws' := [(q_1, .inr (11, [.int 118, .int p1, .null, .null, .int 1, .int z_2]))]) [0] (by decide) rfl
  refine W.widen (k := 1) (n := 6) (Nat.le_of_ble_eq_true rfl) (Nat.le_of_ble_eq_true rfl) ?_
  exact W.aret (v := .ref q_1) hx hb hr (Or.inl ⟨_, rfl⟩) (Or.inr ⟨_, rfl⟩) (fun t ht hW => ⟨⟨(), q_1, rfl, trivial, ⟨z_2, by rw [ht]; exact hP9, hD9⟩⟩, hS.F ht⟩) hS.2.2 dX17_leaf_11 hlocks
set_option maxHeartbeats 4000000 in
set_option maxRecDepth 100000 in
theorem k_X17_universe (l : Launch) (hfl : l.stackTraces = false) (G : GC) (h0 : Nat) (p0 : Int32) (th : Int32) (n1 : Nat) (b1 : Nat) (c1 : Nat) (f1 : Nat) (g1 : Nat) (sz : Nat) : Met l yX17_universe (Cond.code yX17_universe cX17_universe 2 (some .int) :: W0) ({ frames := 6, cells := 2, slots := 16, locals := 123 }) (va_Pc [.ref h0, .int p0] (WD G [(h0, .inr (12, [.int th, .ref n1, .int 0, .ref b1, .ref c1, .ref f1, .ref g1, .long 0, .int 0])), (n1, .inr (1, [.int 0, .ref (aE G), .int 0]))] sz)) (va_Qi (fun (r : Int32) (u : Nat) => (u = 0 ∧ r = 0 ∧ (p0.toInt ≤ (-1) ∨ 4 ≤ p0.toInt)) ∨ (u = 1 ∧ r = 0 ∧ ((0 ≤ p0.toInt ∧ p0.toInt ≤ 3)))) (fun (u : Nat) t => (u = 0 → PW G (va_A [(h0, .inr (12, [.int th, .ref n1, .int 0, .ref b1, .ref c1, .ref f1, .ref g1, .long 0, .int 0])), (n1, .inr (1, [.int 0, .ref (aE G), .int 0]))] sz) [(h0, .inr (12, [.int 1, .ref n1, .int 0, .ref b1, .ref c1, .ref f1, .ref g1, .long 0, .int 0]))] t) ∧ (u = 1 → PW G (va_A [(h0, .inr (12, [.int th, .ref n1, .int 0, .ref b1, .ref c1, .ref f1, .ref g1, .long 0, .int 0])), (n1, .inr (1, [.int 0, .ref (aE G), .int 0]))] sz) [(h0, .inr (12, [.int 0, .ref n1, .int 0, .ref b1, .ref c1, .ref f1, .ref g1, .long 0, .int 0]))] t)) (va_A [(h0, .inr (12, [.int th, .ref n1, .int 0, .ref b1, .ref c1, .ref f1, .ref g1, .long 0, .int 0])), (n1, .inr (1, [.int 0, .ref (aE G), .int 0]))] sz)) 2 16 (va_A [(h0, .inr (12, [.int th, .ref n1, .int 0, .ref b1, .ref c1, .ref f1, .ref g1, .long 0, .int 0])), (n1, .inr (1, [.int 0, .ref (aE G), .int 0]))] sz) := by
  refine Met.ofW (cc := cX17_universe) (maxL := 2) (ret := (some .int)) (by decide) rfl ?_
  intro p e s m args below meth c s₁ B hml hv
  obtain ⟨rfl, hsz, hP, hK, hD0, hE⟩ := hv
  have hx := B.exec
  have hb := B.bytes
  have hr := B.returns
  have hts := w0_tail B.pre
  have hown : s.vm.findClass RX17 = some m.cls := findClass_of_methodNamed B.named
  have hlocks := B.notSynchronized
  subst hsz
  have hD := hD0.self (sz := s.heap.size)
  generalize hAe : va_A [(h0, .inr (12, [.int th, .ref n1, .int 0, .ref b1, .ref c1, .ref f1, .ref g1, .long 0, .int 0])), (n1, .inr (1, [.int 0, .ref (aE G), .int 0]))] s.heap.size = A at hD hE ⊢
  have hA : ∀ q : Nat, s.heap.size ≤ q → A q := fun q h => by rw [← hAe]; exact Or.inr h
  have hS : va_S A s.heap s.heap [] := va_S.rf
  obtain ⟨H, hHe⟩ : ∃ H : Heap, H = s.heap := ⟨_, rfl⟩
  have hP : va_P (DG G) clP1 [(h0, .inr (12, [.int th, .ref n1, .int 0, .ref b1, .ref c1, .ref f1, .ref g1, .long 0, .int 0])), (n1, .inr (1, [.int 0, .ref (aE G), .int 0]))] H := by rw [hHe]; exact hP
  have hS : va_S A s.heap H [] := by rw [hHe]; exact hS
  have hl := lv_entry ([.ref h0, .int p0]) (n := 2) (Nat.le_of_ble_eq_true rfl)
  rw [lg_entry_eq, ← hHe]
  generalize (lg_sl ([.ref h0, .int p0]) ++ List.replicate (2 - (lg_sl ([.ref h0, .int p0])).length) Slot.unset).toArray = ls at hl ⊢
  have hl : lv_has ls 2 [(0, .ref h0), (1, .int p0)] := hl
  refine lv_aload_n hx hb dX17_universe_0 rfl (lv_at hl 0 rfl) ?_
  refine lv_iload_n hx hb dX17_universe_1 rfl (lv_at hl 1 rfl) ?_
  refine lv_iconst (v := 0) hx hb dX17_universe_2 (by decide) ?_
  refine lv_iconst (v := 3) hx hb dX17_universe_3 (by decide) ?_
  have hFc := va_free (wc := []) hD hS hA [] rfl
  refine va_calli (va_runS (As := [.int p0, .int 0, .int 3]) (rest := [.ref h0]) ⟨hx, hb, hml, hown, hts⟩ (k_X17_in_4 l hfl G p0 H.size) (cwS 3 hts (gS wm1381 wm1382 wm11 wm1383) rfl rfl rfl (by decide +kernel) ⟨Nat.le_of_ble_eq_true rfl, Nat.le_of_ble_eq_true rfl⟩) (pre_s hK hP hD hS hE [] rfl rfl (by decide) hFc) rfl rfl hl.1 rfl (lv_room (Nat.le_of_ble_eq_true rfl)) dX17_universe_4 ⟨Nat.le_of_ble_eq_true rfl, Nat.le_of_ble_eq_true rfl⟩) hS (fun q _ h => hFc q h) hFc (fun r u t H locs ht hvm hw hB hz1 hk1 hS => ?_)
  rcases hw with ⟨rfl, rfl, t1_0⟩ | ⟨rfl, rfl, t1_0⟩
  · obtain ⟨hP1, hD1⟩ := hB.1 rfl
    rw [ht] at hP1
    obtain ⟨hP, hD⟩ := va_join (wr := [(h0, .inr (12, [.int th, .ref n1, .int 0, .ref b1, .ref c1, .ref f1, .ref g1, .long 0, .int 0])), (n1, .inr (1, [.int 0, .ref (aE G), .int 0]))]) (w1 := []) hP hD [] [0, 1] rfl rfl (by decide) (by decide) hk1 hFc hP1 hD1
    have hP : va_P (DG G) clP1 [(h0, .inr (12, [.int th, .ref n1, .int 0, .ref b1, .ref c1, .ref f1, .ref g1, .long 0, .int 0])), (n1, .inr (1, [.int 0, .ref (aE G), .int 0]))] H := hP
    have hD : va_D A [(h0, .inr (12, [.int th, .ref n1, .int 0, .ref b1, .ref c1, .ref f1, .ref g1, .long 0, .int 0])), (n1, .inr (1, [.int 0, .ref (aE G), .int 0]))] := hD
    refine W.widen (k := 0) (n := 0) (Nat.le_of_ble_eq_true rfl) (Nat.le_of_ble_eq_true rfl) ?_
    refine lv_if_ne (tgt := 14) hx hb dX17_universe_7 (by decide) (fun c => absurd (by decide) c) (fun _ => ?_)
    refine lv_iconst (v := 1) hx hb dX17_universe_10 (by decide) ?_
    refine lv_goto (tgt := 26) hx hb dX17_universe_11 (by decide) ?_
    have hFc := va_free (wc := [(h0, .inr (12, [.int th, .ref n1, .int 0, .ref b1, .ref c1, .ref f1, .ref g1, .long 0, .int 0]))]) hD hS hA [0] rfl
    refine va_calli (va_runV (As := [.int 1]) (rest := []) ⟨hx, hb, hml, hown, hts⟩ (k_X17_fails_1 l hfl G h0 th n1 b1 c1 f1 g1 H.size) (cwV 1 hts (gV wm1392 wm1394 ws_p29 wm11 wm1395) rfl rfl rfl (by decide +kernel) ⟨Nat.le_of_ble_eq_true rfl, Nat.le_of_ble_eq_true rfl⟩) (pre_v (pre_s hK hP hD hS hE [0] rfl rfl (by decide) hFc) (va_recv hK hP (ci := 12) (q0 := 0) rfl rfl)) rfl rfl hl.1 rfl (lv_room (Nat.le_of_ble_eq_true rfl)) dX17_universe_26 ⟨Nat.le_of_ble_eq_true rfl, Nat.le_of_ble_eq_true rfl⟩) hS (fun q _ h => hFc q h) hFc (fun r u t H locs ht hvm hw hB hz1 hk1 hS => ?_)
    obtain rfl : r = 1 := hw
    obtain ⟨hP1, hD1⟩ := hB
    rw [ht] at hP1
    obtain ⟨hP, hD⟩ := va_join (wr := [(n1, .inr (1, [.int 0, .ref (aE G), .int 0]))]) (w1 := [(h0, .inr (12, [.int 1, .ref n1, .int 0, .ref b1, .ref c1, .ref f1, .ref g1, .long 0, .int 0]))]) hP hD [0] [1] rfl rfl (by decide) (by decide) hk1 hFc hP1 hD1
    have hP : va_P (DG G) clP1 [(n1, .inr (1, [.int 0, .ref (aE G), .int 0])), (h0, .inr (12, [.int 1, .ref n1, .int 0, .ref b1, .ref c1, .ref f1, .ref g1, .long 0, .int 0]))] H := hP
    have hD : va_D A [(n1, .inr (1, [.int 0, .ref (aE G), .int 0])), (h0, .inr (12, [.int 1, .ref n1, .int 0, .ref b1, .ref c1, .ref f1, .ref g1, .long 0, .int 0]))] := hD
    refine W.widen (k := 0) (n := 0) (Nat.le_of_ble_eq_true rfl) (Nat.le_of_ble_eq_true rfl) ?_
    refine lv_if_eq (tgt := 36) hx hb dX17_universe_29 (by decide) (fun c => absurd c (by decide)) (fun _ => ?_)
    refine lv_iconst (v := 0) hx hb dX17_universe_32 (by decide) ?_
    refine lv_goto (tgt := 46) hx hb dX17_universe_33 (by decide) ?_
    have hP9 := hP.sub (ws' := [(h0, .inr (12, [.int 1, .ref n1, .int 0, .ref b1, .ref c1, .ref f1, .ref g1, .long 0, .int 0]))]) [1] rfl
    have hD9 := hD.sub (ws' := [(h0, .inr (12, [.int 1, .ref n1, .int 0, .ref b1, .ref c1, .ref f1, .ref g1, .long 0, .int 0]))]) [1] (by decide) rfl
    refine W.widen (k := 2) (n := 16) (Nat.le_of_ble_eq_true rfl) (Nat.le_of_ble_eq_true rfl) ?_
    exact W.iret (v := 0) hx hb hr (fun t ht hW => ⟨⟨0, 0, rfl, (Or.inl ⟨rfl, rfl, by omega⟩), ⟨fun _ => ⟨by rw [ht]; exact hP9, hD9⟩, fun h => absurd h (by decide)⟩⟩, hS.F ht⟩) hS.2.2 dX17_universe_46 hlocks
  · obtain ⟨hP1, hD1⟩ := hB.2 rfl
    rw [ht] at hP1
    obtain ⟨hP, hD⟩ := va_join (wr := [(h0, .inr (12, [.int th, .ref n1, .int 0, .ref b1, .ref c1, .ref f1, .ref g1, .long 0, .int 0])), (n1, .inr (1, [.int 0, .ref (aE G), .int 0]))]) (w1 := []) hP hD [] [0, 1] rfl rfl (by decide) (by decide) hk1 hFc hP1 hD1
    have hP : va_P (DG G) clP1 [(h0, .inr (12, [.int th, .ref n1, .int 0, .ref b1, .ref c1, .ref f1, .ref g1, .long 0, .int 0])), (n1, .inr (1, [.int 0, .ref (aE G), .int 0]))] H := hP
    have hD : va_D A [(h0, .inr (12, [.int th, .ref n1, .int 0, .ref b1, .ref c1, .ref f1, .ref g1, .long 0, .int 0])), (n1, .inr (1, [.int 0, .ref (aE G), .int 0]))] := hD
    refine W.widen (k := 0) (n := 0) (Nat.le_of_ble_eq_true rfl) (Nat.le_of_ble_eq_true rfl) ?_
    refine lv_if_ne (tgt := 14) hx hb dX17_universe_7 (by decide) (fun _ => ?_) (fun c => absurd c (by decide))
    refine lv_aload_n hx hb dX17_universe_14 rfl (lv_at hl 0 rfl) ?_
    have hFc := va_free (wc := [(h0, .inr (12, [.int th, .ref n1, .int 0, .ref b1, .ref c1, .ref f1, .ref g1, .long 0, .int 0])), (n1, .inr (1, [.int 0, .ref (aE G), .int 0]))]) hD hS hA [0, 1] rfl
    refine va_calli (va_runV (As := []) (rest := [.ref h0]) ⟨hx, hb, hml, hown, hts⟩ (k_X17_isFull l hfl G h0 th n1 b1 c1 f1 g1 H.size) (cwV 0 hts (gV wm1384 wm1386 ws_p28 wm11 wm1387) rfl rfl rfl (by decide +kernel) ⟨Nat.le_of_ble_eq_true rfl, Nat.le_of_ble_eq_true rfl⟩) (pre_v (pre_s hK hP hD hS hE [0, 1] rfl rfl (by decide) hFc) (va_recv hK hP (ci := 12) (q0 := 0) rfl rfl)) rfl rfl hl.1 rfl (lv_room (Nat.le_of_ble_eq_true rfl)) dX17_universe_15 ⟨Nat.le_of_ble_eq_true rfl, Nat.le_of_ble_eq_true rfl⟩) hS (fun q _ h => hFc q h) hFc (fun r u t H locs ht hvm hw hB hz1 hk1 hS => ?_)
    obtain rfl : r = 0 := hw
    obtain ⟨hP1, hD1⟩ := hB
    rw [ht] at hP1
    obtain ⟨hP, hD⟩ := va_join (wr := []) (w1 := [(h0, .inr (12, [.int th, .ref n1, .int 0, .ref b1, .ref c1, .ref f1, .ref g1, .long 0, .int 0])), (n1, .inr (1, [.int 0, .ref (aE G), .int 0]))]) hP hD [0, 1] [] rfl rfl (by decide) (by decide) hk1 hFc hP1 hD1
    have hP : va_P (DG G) clP1 [(h0, .inr (12, [.int th, .ref n1, .int 0, .ref b1, .ref c1, .ref f1, .ref g1, .long 0, .int 0])), (n1, .inr (1, [.int 0, .ref (aE G), .int 0]))] H := hP
    have hD : va_D A [(h0, .inr (12, [.int th, .ref n1, .int 0, .ref b1, .ref c1, .ref f1, .ref g1, .long 0, .int 0])), (n1, .inr (1, [.int 0, .ref (aE G), .int 0]))] := hD
    refine W.widen (k := 0) (n := 0) (Nat.le_of_ble_eq_true rfl) (Nat.le_of_ble_eq_true rfl) ?_
    refine lv_if_eq (tgt := 25) hx hb dX17_universe_18 (by decide) (fun _ => ?_) (fun c => absurd (by decide) c)
    refine lv_iconst (v := 0) hx hb dX17_universe_25 (by decide) ?_
    have hFc := va_free (wc := [(h0, .inr (12, [.int th, .ref n1, .int 0, .ref b1, .ref c1, .ref f1, .ref g1, .long 0, .int 0]))]) hD hS hA [0] rfl
    refine va_calli (va_runV (As := [.int 0]) (rest := []) ⟨hx, hb, hml, hown, hts⟩ (k_X17_fails_0 l hfl G h0 th n1 b1 c1 f1 g1 H.size) (cwV 1 hts (gV wm1392 wm1394 ws_p29 wm11 wm1395) rfl rfl rfl (by decide +kernel) ⟨Nat.le_of_ble_eq_true rfl, Nat.le_of_ble_eq_true rfl⟩) (pre_v (pre_s hK hP hD hS hE [0] rfl rfl (by decide) hFc) (va_recv hK hP (ci := 12) (q0 := 0) rfl rfl)) rfl rfl hl.1 rfl (lv_room (Nat.le_of_ble_eq_true rfl)) dX17_universe_26 ⟨Nat.le_of_ble_eq_true rfl, Nat.le_of_ble_eq_true rfl⟩) hS (fun q _ h => hFc q h) hFc (fun r u t H locs ht hvm hw hB hz1 hk1 hS => ?_)
    obtain rfl : r = 0 := hw
    obtain ⟨hP1, hD1⟩ := hB
    rw [ht] at hP1
    obtain ⟨hP, hD⟩ := va_join (wr := [(n1, .inr (1, [.int 0, .ref (aE G), .int 0]))]) (w1 := [(h0, .inr (12, [.int 0, .ref n1, .int 0, .ref b1, .ref c1, .ref f1, .ref g1, .long 0, .int 0]))]) hP hD [0] [1] rfl rfl (by decide) (by decide) hk1 hFc hP1 hD1
    have hP : va_P (DG G) clP1 [(n1, .inr (1, [.int 0, .ref (aE G), .int 0])), (h0, .inr (12, [.int 0, .ref n1, .int 0, .ref b1, .ref c1, .ref f1, .ref g1, .long 0, .int 0]))] H := hP
    have hD : va_D A [(n1, .inr (1, [.int 0, .ref (aE G), .int 0])), (h0, .inr (12, [.int 0, .ref n1, .int 0, .ref b1, .ref c1, .ref f1, .ref g1, .long 0, .int 0]))] := hD
    refine W.widen (k := 0) (n := 0) (Nat.le_of_ble_eq_true rfl) (Nat.le_of_ble_eq_true rfl) ?_
    refine lv_if_eq (tgt := 36) hx hb dX17_universe_29 (by decide) (fun _ => ?_) (fun c => absurd (by decide) c)
    refine lv_aload_n hx hb dX17_universe_36 rfl (lv_at hl 0 rfl) ?_
    refine lv_bipush (v := 117) hx hb dX17_universe_37 (by decide) ?_
    refine lv_iload_n hx hb dX17_universe_39 rfl (lv_at hl 1 rfl) ?_
    have hFc := va_free (wc := []) hD hS hA [] rfl
    refine va_callr (va_runS (As := [.int 117, .int p0]) (rest := [.ref h0]) ⟨hx, hb, hml, hown, hts⟩ (k_X17_leaf_117 l hfl G p0 H.size) (cwS 2 hts (gS wm1396 wm1397 wm11 wm1398) rfl rfl rfl (by decide +kernel) ⟨Nat.le_of_ble_eq_true rfl, Nat.le_of_ble_eq_true rfl⟩) (pre_s hK hP hD hS hE [] rfl rfl (by decide) hFc) rfl rfl hl.1 rfl (lv_room (Nat.le_of_ble_eq_true rfl)) dX17_universe_40 ⟨Nat.le_of_ble_eq_true rfl, Nat.le_of_ble_eq_true rfl⟩) hS (fun q _ h => hFc q h) hFc (fun u ra t H locs ht hvm hw hB hz1 hk1 hS => ?_)
    obtain ⟨hP1, hD1⟩ := hB
    rw [ht] at hP1
    obtain ⟨hP, hD⟩ := va_join (wr := [(n1, .inr (1, [.int 0, .ref (aE G), .int 0])), (h0, .inr (12, [.int 0, .ref n1, .int 0, .ref b1, .ref c1, .ref f1, .ref g1, .long 0, .int 0]))]) (w1 := [(ra, .inr (11, [.int 117, .int p0, .null, .null, .int 1, .int 0]))]) hP hD [] [0, 1] rfl rfl (by decide) (by decide) hk1 hFc hP1 hD1
    have hP : va_P (DG G) clP1 [(n1, .inr (1, [.int 0, .ref (aE G), .int 0])), (h0, .inr (12, [.int 0, .ref n1, .int 0, .ref b1, .ref c1, .ref f1, .ref g1, .long 0, .int 0])), (ra, .inr (11, [.int 117, .int p0, .null, .null, .int 1, .int 0]))] H := hP
    have hD : va_D A [(n1, .inr (1, [.int 0, .ref (aE G), .int 0])), (h0, .inr (12, [.int 0, .ref n1, .int 0, .ref b1, .ref c1, .ref f1, .ref g1, .long 0, .int 0])), (ra, .inr (11, [.int 117, .int p0, .null, .null, .int 1, .int 0]))] := hD
    refine W.widen (k := 1) (n := 6) (Nat.le_of_ble_eq_true rfl) (Nat.le_of_ble_eq_true rfl) ?_
    obtain ⟨q_2, eq_2⟩ : ∃ z : Nat, z = ra := ⟨_, rfl⟩
    subst eq_2
    have hP : va_P (DG G) clP1 [(n1, .inr (1, [.int 0, .ref (aE G), .int 0])), (h0, .inr (12, [.int 0, .ref n1, .int 0, .ref b1, .ref c1, .ref f1, .ref g1, .long 0, .int 0])), (q_2, .inr (11, [.int 117, .int p0, .null, .null, .int 1, .int 0]))] H := hP
    have hD : va_D A [(n1, .inr (1, [.int 0, .ref (aE G), .int 0])), (h0, .inr (12, [.int 0, .ref n1, .int 0, .ref b1, .ref c1, .ref f1, .ref g1, .long 0, .int 0])), (q_2, .inr (11, [.int 117, .int p0, .null, .null, .int 1, .int 0]))] := hD
    have hFc := va_free (wc := [(h0, .inr (12, [.int 0, .ref n1, .int 0, .ref b1, .ref c1, .ref f1, .ref g1, .long 0, .int 0])), (n1, .inr (1, [.int 0, .ref (aE G), .int 0])), (q_2, .inr (11, [.int 117, .int p0, .null, .null, .int 1, .int 0]))]) hD hS hA [1, 0, 2] rfl
    refine va_calli (va_runV (As := [.ref q_2]) (rest := []) ⟨hx, hb, hml, hown, hts⟩ (k_X17_lays l hfl G h0 q_2 0 n1 b1 c1 f1 g1 117 p0 0 H.size) (cwV 1 hts (gV wm1431 wm1433 ws_p30 wm11 wm1434) rfl rfl rfl (by decide +kernel) ⟨Nat.le_of_ble_eq_true rfl, Nat.le_of_ble_eq_true rfl⟩) (pre_v (pre_s hK hP hD hS hE [1, 0, 2] rfl rfl (by decide) hFc) (va_recv hK hP (ci := 12) (q0 := 1) rfl rfl)) rfl rfl hl.1 rfl (lv_room (Nat.le_of_ble_eq_true rfl)) dX17_universe_43 ⟨Nat.le_of_ble_eq_true rfl, Nat.le_of_ble_eq_true rfl⟩) hS (fun q _ h => hFc q h) hFc (fun r u t H locs ht hvm hw hB hz1 hk1 hS => ?_)
    obtain rfl : r = 0 := hw
    obtain ⟨hP1, hD1⟩ := hB
    rw [ht] at hP1
    obtain ⟨hP, hD⟩ := va_join (wr := []) (w1 := [(h0, .inr (12, [.int 0, .ref n1, .int 0, .ref b1, .ref c1, .ref f1, .ref g1, .long 0, .int 0]))]) hP hD [1, 0, 2] [] rfl rfl (by decide) (by decide) hk1 hFc hP1 hD1
    have hP : va_P (DG G) clP1 [(h0, .inr (12, [.int 0, .ref n1, .int 0, .ref b1, .ref c1, .ref f1, .ref g1, .long 0, .int 0]))] H := hP
    have hD : va_D A [(h0, .inr (12, [.int 0, .ref n1, .int 0, .ref b1, .ref c1, .ref f1, .ref g1, .long 0, .int 0]))] := hD
    refine W.widen (k := 2) (n := 16) (Nat.le_of_ble_eq_true rfl) (Nat.le_of_ble_eq_true rfl) ?_
    have hP9 := hP.sub (ws' := [(h0, .inr (12, [.int 0, .ref n1, .int 0, .ref b1, .ref c1, .ref f1, .ref g1, .long 0, .int 0]))]) [0] rfl
    have hD9 := hD.sub (ws' := [(h0, .inr (12, [.int 0, .ref n1, .int 0, .ref b1, .ref c1, .ref f1, .ref g1, .long 0, .int 0]))]) [0] (by decide) rfl
    refine W.widen (k := 2) (n := 16) (Nat.le_of_ble_eq_true rfl) (Nat.le_of_ble_eq_true rfl) ?_
    exact W.iret (v := 0) hx hb hr (fun t ht hW => ⟨⟨0, 1, rfl, (Or.inr ⟨rfl, rfl, by omega⟩), ⟨fun h => absurd h (by decide), fun _ => ⟨by rw [ht]; exact hP9, hD9⟩⟩⟩, hS.F ht⟩) hS.2.2 dX17_universe_46 hlocks
set_option maxHeartbeats 4000000 in
set_option maxRecDepth 100000 in
theorem k_X17_variable (l : Launch) (hfl : l.stackTraces = false) (G : GC) (h0 : Nat) (p0 : Int32) (th : Int32) (n1 : Nat) (b1 : Nat) (c1 : Nat) (f1 : Nat) (g1 : Nat) (sz : Nat) : Met l yX17_variable (Cond.code yX17_variable cX17_variable 2 (some .int) :: W0) ({ frames := 6, cells := 2, slots := 16, locals := 123 }) (va_Pc [.ref h0, .int p0] (WD G [(h0, .inr (12, [.int th, .ref n1, .int 0, .ref b1, .ref c1, .ref f1, .ref g1, .long 0, .int 0])), (n1, .inr (1, [.int 0, .ref (aE G), .int 0]))] sz)) (va_Qi (fun (r : Int32) (u : Nat) => (u = 0 ∧ r = 0 ∧ (p0.toInt ≤ (-1) ∨ 16 ≤ p0.toInt)) ∨ (u = 1 ∧ r = 0 ∧ ((0 ≤ p0.toInt ∧ p0.toInt ≤ 15)))) (fun (u : Nat) t => (u = 0 → PW G (va_A [(h0, .inr (12, [.int th, .ref n1, .int 0, .ref b1, .ref c1, .ref f1, .ref g1, .long 0, .int 0])), (n1, .inr (1, [.int 0, .ref (aE G), .int 0]))] sz) [(h0, .inr (12, [.int 1, .ref n1, .int 0, .ref b1, .ref c1, .ref f1, .ref g1, .long 0, .int 0]))] t) ∧ (u = 1 → PW G (va_A [(h0, .inr (12, [.int th, .ref n1, .int 0, .ref b1, .ref c1, .ref f1, .ref g1, .long 0, .int 0])), (n1, .inr (1, [.int 0, .ref (aE G), .int 0]))] sz) [(h0, .inr (12, [.int 0, .ref n1, .int 0, .ref b1, .ref c1, .ref f1, .ref g1, .long 0, .int 0]))] t)) (va_A [(h0, .inr (12, [.int th, .ref n1, .int 0, .ref b1, .ref c1, .ref f1, .ref g1, .long 0, .int 0])), (n1, .inr (1, [.int 0, .ref (aE G), .int 0]))] sz)) 2 16 (va_A [(h0, .inr (12, [.int th, .ref n1, .int 0, .ref b1, .ref c1, .ref f1, .ref g1, .long 0, .int 0])), (n1, .inr (1, [.int 0, .ref (aE G), .int 0]))] sz) := by
  refine Met.ofW (cc := cX17_variable) (maxL := 2) (ret := (some .int)) (by decide) rfl ?_
  intro p e s m args below meth c s₁ B hml hv
  obtain ⟨rfl, hsz, hP, hK, hD0, hE⟩ := hv
  have hx := B.exec
  have hb := B.bytes
  have hr := B.returns
  have hts := w0_tail B.pre
  have hown : s.vm.findClass RX17 = some m.cls := findClass_of_methodNamed B.named
  have hlocks := B.notSynchronized
  subst hsz
  have hD := hD0.self (sz := s.heap.size)
  generalize hAe : va_A [(h0, .inr (12, [.int th, .ref n1, .int 0, .ref b1, .ref c1, .ref f1, .ref g1, .long 0, .int 0])), (n1, .inr (1, [.int 0, .ref (aE G), .int 0]))] s.heap.size = A at hD hE ⊢
  have hA : ∀ q : Nat, s.heap.size ≤ q → A q := fun q h => by rw [← hAe]; exact Or.inr h
  have hS : va_S A s.heap s.heap [] := va_S.rf
  obtain ⟨H, hHe⟩ : ∃ H : Heap, H = s.heap := ⟨_, rfl⟩
  have hP : va_P (DG G) clP1 [(h0, .inr (12, [.int th, .ref n1, .int 0, .ref b1, .ref c1, .ref f1, .ref g1, .long 0, .int 0])), (n1, .inr (1, [.int 0, .ref (aE G), .int 0]))] H := by rw [hHe]; exact hP
  have hS : va_S A s.heap H [] := by rw [hHe]; exact hS
  have hl := lv_entry ([.ref h0, .int p0]) (n := 2) (Nat.le_of_ble_eq_true rfl)
  rw [lg_entry_eq, ← hHe]
  generalize (lg_sl ([.ref h0, .int p0]) ++ List.replicate (2 - (lg_sl ([.ref h0, .int p0])).length) Slot.unset).toArray = ls at hl ⊢
  have hl : lv_has ls 2 [(0, .ref h0), (1, .int p0)] := hl
  refine lv_aload_n hx hb dX17_variable_0 rfl (lv_at hl 0 rfl) ?_
  refine lv_iload_n hx hb dX17_variable_1 rfl (lv_at hl 1 rfl) ?_
  refine lv_iconst (v := 0) hx hb dX17_variable_2 (by decide) ?_
  refine lv_bipush (v := 15) hx hb dX17_variable_3 (by decide) ?_
  have hFc := va_free (wc := []) hD hS hA [] rfl
  refine va_calli (va_runS (As := [.int p0, .int 0, .int 15]) (rest := [.ref h0]) ⟨hx, hb, hml, hown, hts⟩ (k_X17_in_16 l hfl G p0 H.size) (cwS 3 hts (gS wm1381 wm1382 wm11 wm1383) rfl rfl rfl (by decide +kernel) ⟨Nat.le_of_ble_eq_true rfl, Nat.le_of_ble_eq_true rfl⟩) (pre_s hK hP hD hS hE [] rfl rfl (by decide) hFc) rfl rfl hl.1 rfl (lv_room (Nat.le_of_ble_eq_true rfl)) dX17_variable_5 ⟨Nat.le_of_ble_eq_true rfl, Nat.le_of_ble_eq_true rfl⟩) hS (fun q _ h => hFc q h) hFc (fun r u t H locs ht hvm hw hB hz1 hk1 hS => ?_)
  rcases hw with ⟨rfl, rfl, t1_0⟩ | ⟨rfl, rfl, t1_0⟩
  · obtain ⟨hP1, hD1⟩ := hB.1 rfl
    rw [ht] at hP1
    obtain ⟨hP, hD⟩ := va_join (wr := [(h0, .inr (12, [.int th, .ref n1, .int 0, .ref b1, .ref c1, .ref f1, .ref g1, .long 0, .int 0])), (n1, .inr (1, [.int 0, .ref (aE G), .int 0]))]) (w1 := []) hP hD [] [0, 1] rfl rfl (by decide) (by decide) hk1 hFc hP1 hD1
    have hP : va_P (DG G) clP1 [(h0, .inr (12, [.int th, .ref n1, .int 0, .ref b1, .ref c1, .ref f1, .ref g1, .long 0, .int 0])), (n1, .inr (1, [.int 0, .ref (aE G), .int 0]))] H := hP
    have hD : va_D A [(h0, .inr (12, [.int th, .ref n1, .int 0, .ref b1, .ref c1, .ref f1, .ref g1, .long 0, .int 0])), (n1, .inr (1, [.int 0, .ref (aE G), .int 0]))] := hD
    refine W.widen (k := 0) (n := 0) (Nat.le_of_ble_eq_true rfl) (Nat.le_of_ble_eq_true rfl) ?_
    refine lv_if_ne (tgt := 15) hx hb dX17_variable_8 (by decide) (fun c => absurd (by decide) c) (fun _ => ?_)
    refine lv_iconst (v := 1) hx hb dX17_variable_11 (by decide) ?_
    refine lv_goto (tgt := 27) hx hb dX17_variable_12 (by decide) ?_
    have hFc := va_free (wc := [(h0, .inr (12, [.int th, .ref n1, .int 0, .ref b1, .ref c1, .ref f1, .ref g1, .long 0, .int 0]))]) hD hS hA [0] rfl
    refine va_calli (va_runV (As := [.int 1]) (rest := []) ⟨hx, hb, hml, hown, hts⟩ (k_X17_fails_1 l hfl G h0 th n1 b1 c1 f1 g1 H.size) (cwV 1 hts (gV wm1392 wm1394 ws_p29 wm11 wm1395) rfl rfl rfl (by decide +kernel) ⟨Nat.le_of_ble_eq_true rfl, Nat.le_of_ble_eq_true rfl⟩) (pre_v (pre_s hK hP hD hS hE [0] rfl rfl (by decide) hFc) (va_recv hK hP (ci := 12) (q0 := 0) rfl rfl)) rfl rfl hl.1 rfl (lv_room (Nat.le_of_ble_eq_true rfl)) dX17_variable_27 ⟨Nat.le_of_ble_eq_true rfl, Nat.le_of_ble_eq_true rfl⟩) hS (fun q _ h => hFc q h) hFc (fun r u t H locs ht hvm hw hB hz1 hk1 hS => ?_)
    obtain rfl : r = 1 := hw
    obtain ⟨hP1, hD1⟩ := hB
    rw [ht] at hP1
    obtain ⟨hP, hD⟩ := va_join (wr := [(n1, .inr (1, [.int 0, .ref (aE G), .int 0]))]) (w1 := [(h0, .inr (12, [.int 1, .ref n1, .int 0, .ref b1, .ref c1, .ref f1, .ref g1, .long 0, .int 0]))]) hP hD [0] [1] rfl rfl (by decide) (by decide) hk1 hFc hP1 hD1
    have hP : va_P (DG G) clP1 [(n1, .inr (1, [.int 0, .ref (aE G), .int 0])), (h0, .inr (12, [.int 1, .ref n1, .int 0, .ref b1, .ref c1, .ref f1, .ref g1, .long 0, .int 0]))] H := hP
    have hD : va_D A [(n1, .inr (1, [.int 0, .ref (aE G), .int 0])), (h0, .inr (12, [.int 1, .ref n1, .int 0, .ref b1, .ref c1, .ref f1, .ref g1, .long 0, .int 0]))] := hD
    refine W.widen (k := 0) (n := 0) (Nat.le_of_ble_eq_true rfl) (Nat.le_of_ble_eq_true rfl) ?_
    refine lv_if_eq (tgt := 37) hx hb dX17_variable_30 (by decide) (fun c => absurd c (by decide)) (fun _ => ?_)
    refine lv_iconst (v := 0) hx hb dX17_variable_33 (by decide) ?_
    refine lv_goto (tgt := 47) hx hb dX17_variable_34 (by decide) ?_
    have hP9 := hP.sub (ws' := [(h0, .inr (12, [.int 1, .ref n1, .int 0, .ref b1, .ref c1, .ref f1, .ref g1, .long 0, .int 0]))]) [1] rfl
    have hD9 := hD.sub (ws' := [(h0, .inr (12, [.int 1, .ref n1, .int 0, .ref b1, .ref c1, .ref f1, .ref g1, .long 0, .int 0]))]) [1] (by decide) rfl
    refine W.widen (k := 2) (n := 16) (Nat.le_of_ble_eq_true rfl) (Nat.le_of_ble_eq_true rfl) ?_
    exact W.iret (v := 0) hx hb hr (fun t ht hW => ⟨⟨0, 0, rfl, (Or.inl ⟨rfl, rfl, by omega⟩), ⟨fun _ => ⟨by rw [ht]; exact hP9, hD9⟩, fun h => absurd h (by decide)⟩⟩, hS.F ht⟩) hS.2.2 dX17_variable_47 hlocks
  · obtain ⟨hP1, hD1⟩ := hB.2 rfl
    rw [ht] at hP1
    obtain ⟨hP, hD⟩ := va_join (wr := [(h0, .inr (12, [.int th, .ref n1, .int 0, .ref b1, .ref c1, .ref f1, .ref g1, .long 0, .int 0])), (n1, .inr (1, [.int 0, .ref (aE G), .int 0]))]) (w1 := []) hP hD [] [0, 1] rfl rfl (by decide) (by decide) hk1 hFc hP1 hD1
    have hP : va_P (DG G) clP1 [(h0, .inr (12, [.int th, .ref n1, .int 0, .ref b1, .ref c1, .ref f1, .ref g1, .long 0, .int 0])), (n1, .inr (1, [.int 0, .ref (aE G), .int 0]))] H := hP
    have hD : va_D A [(h0, .inr (12, [.int th, .ref n1, .int 0, .ref b1, .ref c1, .ref f1, .ref g1, .long 0, .int 0])), (n1, .inr (1, [.int 0, .ref (aE G), .int 0]))] := hD
    refine W.widen (k := 0) (n := 0) (Nat.le_of_ble_eq_true rfl) (Nat.le_of_ble_eq_true rfl) ?_
    refine lv_if_ne (tgt := 15) hx hb dX17_variable_8 (by decide) (fun _ => ?_) (fun c => absurd c (by decide))
    refine lv_aload_n hx hb dX17_variable_15 rfl (lv_at hl 0 rfl) ?_
    have hFc := va_free (wc := [(h0, .inr (12, [.int th, .ref n1, .int 0, .ref b1, .ref c1, .ref f1, .ref g1, .long 0, .int 0])), (n1, .inr (1, [.int 0, .ref (aE G), .int 0]))]) hD hS hA [0, 1] rfl
    refine va_calli (va_runV (As := []) (rest := [.ref h0]) ⟨hx, hb, hml, hown, hts⟩ (k_X17_isFull l hfl G h0 th n1 b1 c1 f1 g1 H.size) (cwV 0 hts (gV wm1384 wm1386 ws_p28 wm11 wm1387) rfl rfl rfl (by decide +kernel) ⟨Nat.le_of_ble_eq_true rfl, Nat.le_of_ble_eq_true rfl⟩) (pre_v (pre_s hK hP hD hS hE [0, 1] rfl rfl (by decide) hFc) (va_recv hK hP (ci := 12) (q0 := 0) rfl rfl)) rfl rfl hl.1 rfl (lv_room (Nat.le_of_ble_eq_true rfl)) dX17_variable_16 ⟨Nat.le_of_ble_eq_true rfl, Nat.le_of_ble_eq_true rfl⟩) hS (fun q _ h => hFc q h) hFc (fun r u t H locs ht hvm hw hB hz1 hk1 hS => ?_)
    obtain rfl : r = 0 := hw
    obtain ⟨hP1, hD1⟩ := hB
    rw [ht] at hP1
    obtain ⟨hP, hD⟩ := va_join (wr := []) (w1 := [(h0, .inr (12, [.int th, .ref n1, .int 0, .ref b1, .ref c1, .ref f1, .ref g1, .long 0, .int 0])), (n1, .inr (1, [.int 0, .ref (aE G), .int 0]))]) hP hD [0, 1] [] rfl rfl (by decide) (by decide) hk1 hFc hP1 hD1
    have hP : va_P (DG G) clP1 [(h0, .inr (12, [.int th, .ref n1, .int 0, .ref b1, .ref c1, .ref f1, .ref g1, .long 0, .int 0])), (n1, .inr (1, [.int 0, .ref (aE G), .int 0]))] H := hP
    have hD : va_D A [(h0, .inr (12, [.int th, .ref n1, .int 0, .ref b1, .ref c1, .ref f1, .ref g1, .long 0, .int 0])), (n1, .inr (1, [.int 0, .ref (aE G), .int 0]))] := hD
    refine W.widen (k := 0) (n := 0) (Nat.le_of_ble_eq_true rfl) (Nat.le_of_ble_eq_true rfl) ?_
    refine lv_if_eq (tgt := 26) hx hb dX17_variable_19 (by decide) (fun _ => ?_) (fun c => absurd (by decide) c)
    refine lv_iconst (v := 0) hx hb dX17_variable_26 (by decide) ?_
    have hFc := va_free (wc := [(h0, .inr (12, [.int th, .ref n1, .int 0, .ref b1, .ref c1, .ref f1, .ref g1, .long 0, .int 0]))]) hD hS hA [0] rfl
    refine va_calli (va_runV (As := [.int 0]) (rest := []) ⟨hx, hb, hml, hown, hts⟩ (k_X17_fails_0 l hfl G h0 th n1 b1 c1 f1 g1 H.size) (cwV 1 hts (gV wm1392 wm1394 ws_p29 wm11 wm1395) rfl rfl rfl (by decide +kernel) ⟨Nat.le_of_ble_eq_true rfl, Nat.le_of_ble_eq_true rfl⟩) (pre_v (pre_s hK hP hD hS hE [0] rfl rfl (by decide) hFc) (va_recv hK hP (ci := 12) (q0 := 0) rfl rfl)) rfl rfl hl.1 rfl (lv_room (Nat.le_of_ble_eq_true rfl)) dX17_variable_27 ⟨Nat.le_of_ble_eq_true rfl, Nat.le_of_ble_eq_true rfl⟩) hS (fun q _ h => hFc q h) hFc (fun r u t H locs ht hvm hw hB hz1 hk1 hS => ?_)
    obtain rfl : r = 0 := hw
    obtain ⟨hP1, hD1⟩ := hB
    rw [ht] at hP1
    obtain ⟨hP, hD⟩ := va_join (wr := [(n1, .inr (1, [.int 0, .ref (aE G), .int 0]))]) (w1 := [(h0, .inr (12, [.int 0, .ref n1, .int 0, .ref b1, .ref c1, .ref f1, .ref g1, .long 0, .int 0]))]) hP hD [0] [1] rfl rfl (by decide) (by decide) hk1 hFc hP1 hD1
    have hP : va_P (DG G) clP1 [(n1, .inr (1, [.int 0, .ref (aE G), .int 0])), (h0, .inr (12, [.int 0, .ref n1, .int 0, .ref b1, .ref c1, .ref f1, .ref g1, .long 0, .int 0]))] H := hP
    have hD : va_D A [(n1, .inr (1, [.int 0, .ref (aE G), .int 0])), (h0, .inr (12, [.int 0, .ref n1, .int 0, .ref b1, .ref c1, .ref f1, .ref g1, .long 0, .int 0]))] := hD
    refine W.widen (k := 0) (n := 0) (Nat.le_of_ble_eq_true rfl) (Nat.le_of_ble_eq_true rfl) ?_
    refine lv_if_eq (tgt := 37) hx hb dX17_variable_30 (by decide) (fun _ => ?_) (fun c => absurd (by decide) c)
    refine lv_aload_n hx hb dX17_variable_37 rfl (lv_at hl 0 rfl) ?_
    refine lv_bipush (v := 118) hx hb dX17_variable_38 (by decide) ?_
    refine lv_iload_n hx hb dX17_variable_40 rfl (lv_at hl 1 rfl) ?_
    have hFc := va_free (wc := []) hD hS hA [] rfl
    refine va_callr (va_runS (As := [.int 118, .int p0]) (rest := [.ref h0]) ⟨hx, hb, hml, hown, hts⟩ (k_X17_leaf_118 l hfl G p0 H.size) (cwS 2 hts (gS wm1396 wm1397 wm11 wm1398) rfl rfl rfl (by decide +kernel) ⟨Nat.le_of_ble_eq_true rfl, Nat.le_of_ble_eq_true rfl⟩) (pre_s hK hP hD hS hE [] rfl rfl (by decide) hFc) rfl rfl hl.1 rfl (lv_room (Nat.le_of_ble_eq_true rfl)) dX17_variable_41 ⟨Nat.le_of_ble_eq_true rfl, Nat.le_of_ble_eq_true rfl⟩) hS (fun q _ h => hFc q h) hFc (fun u ra t H locs ht hvm hw hB hz1 hk1 hS => ?_)
    obtain ⟨z_2, hP1, hD1⟩ := hB
    rw [ht] at hP1
    obtain ⟨hP, hD⟩ := va_join (wr := [(n1, .inr (1, [.int 0, .ref (aE G), .int 0])), (h0, .inr (12, [.int 0, .ref n1, .int 0, .ref b1, .ref c1, .ref f1, .ref g1, .long 0, .int 0]))]) (w1 := [(ra, .inr (11, [.int 118, .int p0, .null, .null, .int 1, .int z_2]))]) hP hD [] [0, 1] rfl rfl (by decide) (by decide) hk1 hFc hP1 hD1
    have hP : va_P (DG G) clP1 [(n1, .inr (1, [.int 0, .ref (aE G), .int 0])), (h0, .inr (12, [.int 0, .ref n1, .int 0, .ref b1, .ref c1, .ref f1, .ref g1, .long 0, .int 0])), (ra, .inr (11, [.int 118, .int p0, .null, .null, .int 1, .int z_2]))] H := hP
    have hD : va_D A [(n1, .inr (1, [.int 0, .ref (aE G), .int 0])), (h0, .inr (12, [.int 0, .ref n1, .int 0, .ref b1, .ref c1, .ref f1, .ref g1, .long 0, .int 0])), (ra, .inr (11, [.int 118, .int p0, .null, .null, .int 1, .int z_2]))] := hD
    refine W.widen (k := 1) (n := 6) (Nat.le_of_ble_eq_true rfl) (Nat.le_of_ble_eq_true rfl) ?_
    obtain ⟨q_3, eq_3⟩ : ∃ z : Nat, z = ra := ⟨_, rfl⟩
    subst eq_3
    have hP : va_P (DG G) clP1 [(n1, .inr (1, [.int 0, .ref (aE G), .int 0])), (h0, .inr (12, [.int 0, .ref n1, .int 0, .ref b1, .ref c1, .ref f1, .ref g1, .long 0, .int 0])), (q_3, .inr (11, [.int 118, .int p0, .null, .null, .int 1, .int z_2]))] H := hP
    have hD : va_D A [(n1, .inr (1, [.int 0, .ref (aE G), .int 0])), (h0, .inr (12, [.int 0, .ref n1, .int 0, .ref b1, .ref c1, .ref f1, .ref g1, .long 0, .int 0])), (q_3, .inr (11, [.int 118, .int p0, .null, .null, .int 1, .int z_2]))] := hD
    have hFc := va_free (wc := [(h0, .inr (12, [.int 0, .ref n1, .int 0, .ref b1, .ref c1, .ref f1, .ref g1, .long 0, .int 0])), (n1, .inr (1, [.int 0, .ref (aE G), .int 0])), (q_3, .inr (11, [.int 118, .int p0, .null, .null, .int 1, .int z_2]))]) hD hS hA [1, 0, 2] rfl
    refine va_calli (va_runV (As := [.ref q_3]) (rest := []) ⟨hx, hb, hml, hown, hts⟩ (k_X17_lays l hfl G h0 q_3 0 n1 b1 c1 f1 g1 118 p0 z_2 H.size) (cwV 1 hts (gV wm1431 wm1433 ws_p30 wm11 wm1434) rfl rfl rfl (by decide +kernel) ⟨Nat.le_of_ble_eq_true rfl, Nat.le_of_ble_eq_true rfl⟩) (pre_v (pre_s hK hP hD hS hE [1, 0, 2] rfl rfl (by decide) hFc) (va_recv hK hP (ci := 12) (q0 := 1) rfl rfl)) rfl rfl hl.1 rfl (lv_room (Nat.le_of_ble_eq_true rfl)) dX17_variable_44 ⟨Nat.le_of_ble_eq_true rfl, Nat.le_of_ble_eq_true rfl⟩) hS (fun q _ h => hFc q h) hFc (fun r u t H locs ht hvm hw hB hz1 hk1 hS => ?_)
    obtain rfl : r = 0 := hw
    obtain ⟨hP1, hD1⟩ := hB
    rw [ht] at hP1
    obtain ⟨hP, hD⟩ := va_join (wr := []) (w1 := [(h0, .inr (12, [.int 0, .ref n1, .int 0, .ref b1, .ref c1, .ref f1, .ref g1, .long 0, .int 0]))]) hP hD [1, 0, 2] [] rfl rfl (by decide) (by decide) hk1 hFc hP1 hD1
    have hP : va_P (DG G) clP1 [(h0, .inr (12, [.int 0, .ref n1, .int 0, .ref b1, .ref c1, .ref f1, .ref g1, .long 0, .int 0]))] H := hP
    have hD : va_D A [(h0, .inr (12, [.int 0, .ref n1, .int 0, .ref b1, .ref c1, .ref f1, .ref g1, .long 0, .int 0]))] := hD
    refine W.widen (k := 2) (n := 16) (Nat.le_of_ble_eq_true rfl) (Nat.le_of_ble_eq_true rfl) ?_
    have hP9 := hP.sub (ws' := [(h0, .inr (12, [.int 0, .ref n1, .int 0, .ref b1, .ref c1, .ref f1, .ref g1, .long 0, .int 0]))]) [0] rfl
    have hD9 := hD.sub (ws' := [(h0, .inr (12, [.int 0, .ref n1, .int 0, .ref b1, .ref c1, .ref f1, .ref g1, .long 0, .int 0]))]) [0] (by decide) rfl
    refine W.widen (k := 2) (n := 16) (Nat.le_of_ble_eq_true rfl) (Nat.le_of_ble_eq_true rfl) ?_
    exact W.iret (v := 0) hx hb hr (fun t ht hW => ⟨⟨0, 1, rfl, (Or.inr ⟨rfl, rfl, by omega⟩), ⟨fun h => absurd h (by decide), fun _ => ⟨by rw [ht]; exact hP9, hD9⟩⟩⟩, hS.F ht⟩) hS.2.2 dX17_variable_47 hlocks
