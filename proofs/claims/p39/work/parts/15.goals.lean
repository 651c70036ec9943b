def f_X3_fillWith  (os : Int32) (og : Int32) (p1 : Int32) : Option (Int32 × Int32) := some (102, p1)
set_option maxHeartbeats 4000000 in
set_option maxRecDepth 100000 in
theorem k_X3_fillWith (l : Launch) (hfl : l.stackTraces = false) (G : GC) (o1 : Nat) (p1 : Int32) (on : Int32) (oc : Nat) (ot : Int32) (op : Nat) (os : Int32) (og : Int32) (ol : Int32) (oh : Int32) (os_9 : Int32) (og_9 : Int32) (hm : f_X3_fillWith os og p1 = some (os_9, og_9)) (sz : Nat) : Met l yX3_fillWith (Cond.code yX3_fillWith cX3_fillWith 2 none :: W0) ({ frames := 0, cells := 0, slots := 0, locals := 0 }) (va_Pc [.ref o1, .int p1] (WD G [(o1, .inr (3, [.int on, .ref oc, .int ot, .ref op, .int os, .int og, .int ol, .int oh]))] sz)) (va_Qv (fun _ : Unit => True) (fun _ t => PW G (va_A [(o1, .inr (3, [.int on, .ref oc, .int ot, .ref op, .int os, .int og, .int ol, .int oh]))] sz) [(o1, .inr (3, [.int on, .ref oc, .int ot, .ref op, .int os_9, .int og_9, .int ol, .int oh]))] t) (va_A [(o1, .inr (3, [.int on, .ref oc, .int ot, .ref op, .int os, .int og, .int ol, .int oh]))] sz)) 0 0 (va_A [(o1, .inr (3, [.int on, .ref oc, .int ot, .ref op, .int os, .int og, .int ol, .int oh]))] sz) := by
  rw [f_X3_fillWith] at hm
  refine Met.ofW (cc := cX3_fillWith) (maxL := 2) (ret := none) (by decide) rfl ?_
  intro p e s m args below meth c s₁ B hml hv
  obtain ⟨rfl, hsz, hP, hK, hD0, hE⟩ := hv
  have hx := B.exec
  have hb := B.bytes
  have hr := B.returns
  have hts := w0_tail B.pre
  have hown : s.vm.findClass RX3 = some m.cls := findClass_of_methodNamed B.named
  have hlocks := B.notSynchronized
  subst hsz
  have hD := hD0.self (sz := s.heap.size)
  generalize hAe : va_A [(o1, .inr (3, [.int on, .ref oc, .int ot, .ref op, .int os, .int og, .int ol, .int oh]))] s.heap.size = A at hD hE ⊢
  have hA : ∀ q : Nat, s.heap.size ≤ q → A q := fun q h => by rw [← hAe]; exact Or.inr h
  have hS : va_S A s.heap s.heap [] := va_S.rf
  obtain ⟨H, hHe⟩ : ∃ H : Heap, H = s.heap := ⟨_, rfl⟩
  have hP : va_P (DG G) clP3 [(o1, .inr (3, [.int on, .ref oc, .int ot, .ref op, .int os, .int og, .int ol, .int oh]))] H := by rw [hHe]; exact hP
  have hS : va_S A s.heap H [] := by rw [hHe]; exact hS
  have hl := lv_entry ([.ref o1, .int p1]) (n := 2) (Nat.le_of_ble_eq_true rfl)
  rw [lg_entry_eq, ← hHe]
  generalize (lg_sl ([.ref o1, .int p1]) ++ List.replicate (2 - (lg_sl ([.ref o1, .int p1])).length) Slot.unset).toArray = ls at hl ⊢
  have hl : lv_has ls 2 [(0, .ref o1), (1, .int p1)] := hl
  refine lv_aload_n hx hb dX3_fillWith_0 rfl (lv_at hl 0 rfl) ?_
  refine lv_bipush (v := 102) hx hb dX3_fillWith_1 (by decide) ?_
  refine va_put (D := DG G) (ci := 3) (v := .int 102) (ty := tyX3 4) (C := RX3) (T := TX3) (N := 8) hx hb hts inW_X3 tyX3 tyX3_ok nmX3 hown hK hP hD hS 0 rfl rfl 4 (by decide) (hts _ wm919) (fun _ h9 => h9) rfl (by decide +kernel) rfl rfl (Nat.le_of_ble_eq_true rfl) dX3_fillWith_3 (fun H locs hP hD hS => ?_)
  have hP : va_P (DG G) clP3 [(o1, .inr (3, [.int on, .ref oc, .int ot, .ref op, .int 102, .int og, .int ol, .int oh]))] H := hP
  have hD : va_D A [(o1, .inr (3, [.int on, .ref oc, .int ot, .ref op, .int 102, .int og, .int ol, .int oh]))] := hD
  refine lv_aload_n hx hb dX3_fillWith_6 rfl (lv_at hl 0 rfl) ?_
  refine lv_iload_n hx hb dX3_fillWith_7 rfl (lv_at hl 1 rfl) ?_
  refine va_put (D := DG G) (ci := 3) (v := .int p1) (ty := tyX3 5) (C := RX3) (T := TX3) (N := 8) hx hb hts inW_X3 tyX3 tyX3_ok nmX3 hown hK hP hD hS 0 rfl rfl 5 (by decide) (hts _ wm924) (fun _ h9 => h9) rfl (by decide +kernel) rfl rfl (Nat.le_of_ble_eq_true rfl) dX3_fillWith_8 (fun H locs hP hD hS => ?_)
  have hP : va_P (DG G) clP3 [(o1, .inr (3, [.int on, .ref oc, .int ot, .ref op, .int 102, .int p1, .int ol, .int oh]))] H := hP
  have hD : va_D A [(o1, .inr (3, [.int on, .ref oc, .int ot, .ref op, .int 102, .int p1, .int ol, .int oh]))] := hD
  simp only [Option.some.injEq, Prod.mk.injEq] at hm
  obtain ⟨rfl, rfl⟩ := hm
  have hP9 := hP.sub (ws' := [(o1, .inr (3, [.int on, .ref oc, .int ot, .ref op, .int 102, .int p1, .int ol, .int oh]))]) [0] rfl
  have hD9 := hD.sub (ws' := [(o1, .inr (3, [.int on, .ref oc, .int ot, .ref op, .int 102, .int p1, .int ol, .int oh]))]) [0] (by decide) rfl
  refine W.widen (k := 0) (n := 0) (Nat.le_of_ble_eq_true rfl) (Nat.le_of_ble_eq_true rfl) ?_
  exact W.vret hx hb hr (fun t ht hW => ⟨⟨(), rfl, trivial, ⟨by rw [ht]; exact hP9, hD9⟩⟩, hS.F ht⟩) hS.2.2 dX3_fillWith_11 hlocks
def f_X3_open  (os : Int32) (og : Int32)  : Option (Int32 × Int32) := some (111, (-1))
set_option maxHeartbeats 4000000 in
set_option maxRecDepth 100000 in
theorem k_X3_open (l : Launch) (hfl : l.stackTraces = false) (G : GC) (o1 : Nat) (on : Int32) (oc : Nat) (ot : Int32) (op : Nat) (os : Int32) (og : Int32) (ol : Int32) (oh : Int32) (os_9 : Int32) (og_9 : Int32) (hm : f_X3_open os og = some (os_9, og_9)) (sz : Nat) : Met l yX3_open (Cond.code yX3_open cX3_open 1 none :: W0) ({ frames := 0, cells := 0, slots := 0, locals := 0 }) (va_Pc [.ref o1] (WD G [(o1, .inr (3, [.int on, .ref oc, .int ot, .ref op, .int os, .int og, .int ol, .int oh]))] sz)) (va_Qv (fun _ : Unit => True) (fun _ t => PW G (va_A [(o1, .inr (3, [.int on, .ref oc, .int ot, .ref op, .int os, .int og, .int ol, .int oh]))] sz) [(o1, .inr (3, [.int on, .ref oc, .int ot, .ref op, .int os_9, .int og_9, .int ol, .int oh]))] t) (va_A [(o1, .inr (3, [.int on, .ref oc, .int ot, .ref op, .int os, .int og, .int ol, .int oh]))] sz)) 0 0 (va_A [(o1, .inr (3, [.int on, .ref oc, .int ot, .ref op, .int os, .int og, .int ol, .int oh]))] sz) := by
  rw [f_X3_open] at hm
  refine Met.ofW (cc := cX3_open) (maxL := 1) (ret := none) (by decide) rfl ?_
  intro p e s m args below meth c s₁ B hml hv
  obtain ⟨rfl, hsz, hP, hK, hD0, hE⟩ := hv
  have hx := B.exec
  have hb := B.bytes
  have hr := B.returns
  have hts := w0_tail B.pre
  have hown : s.vm.findClass RX3 = some m.cls := findClass_of_methodNamed B.named
  have hlocks := B.notSynchronized
  subst hsz
  have hD := hD0.self (sz := s.heap.size)
  generalize hAe : va_A [(o1, .inr (3, [.int on, .ref oc, .int ot, .ref op, .int os, .int og, .int ol, .int oh]))] s.heap.size = A at hD hE ⊢
  have hA : ∀ q : Nat, s.heap.size ≤ q → A q := fun q h => by rw [← hAe]; exact Or.inr h
  have hS : va_S A s.heap s.heap [] := va_S.rf
  obtain ⟨H, hHe⟩ : ∃ H : Heap, H = s.heap := ⟨_, rfl⟩
  have hP : va_P (DG G) clP3 [(o1, .inr (3, [.int on, .ref oc, .int ot, .ref op, .int os, .int og, .int ol, .int oh]))] H := by rw [hHe]; exact hP
  have hS : va_S A s.heap H [] := by rw [hHe]; exact hS
  have hl := lv_entry ([.ref o1]) (n := 1) (Nat.le_of_ble_eq_true rfl)
  rw [lg_entry_eq, ← hHe]
  generalize (lg_sl ([.ref o1]) ++ List.replicate (1 - (lg_sl ([.ref o1])).length) Slot.unset).toArray = ls at hl ⊢
  have hl : lv_has ls 1 [(0, .ref o1)] := hl
  refine lv_aload_n hx hb dX3_open_0 rfl (lv_at hl 0 rfl) ?_
  refine lv_bipush (v := 111) hx hb dX3_open_1 (by decide) ?_
  refine va_put (D := DG G) (ci := 3) (v := .int 111) (ty := tyX3 4) (C := RX3) (T := TX3) (N := 8) hx hb hts inW_X3 tyX3 tyX3_ok nmX3 hown hK hP hD hS 0 rfl rfl 4 (by decide) (hts _ wm919) (fun _ h9 => h9) rfl (by decide +kernel) rfl rfl (Nat.le_of_ble_eq_true rfl) dX3_open_3 (fun H locs hP hD hS => ?_)
  have hP : va_P (DG G) clP3 [(o1, .inr (3, [.int on, .ref oc, .int ot, .ref op, .int 111, .int og, .int ol, .int oh]))] H := hP
  have hD : va_D A [(o1, .inr (3, [.int on, .ref oc, .int ot, .ref op, .int 111, .int og, .int ol, .int oh]))] := hD
  refine lv_aload_n hx hb dX3_open_6 rfl (lv_at hl 0 rfl) ?_
  refine lv_iconst (v := (-1)) hx hb dX3_open_7 (by decide) ?_
  refine va_put (D := DG G) (ci := 3) (v := .int (-1)) (ty := tyX3 5) (C := RX3) (T := TX3) (N := 8) hx hb hts inW_X3 tyX3 tyX3_ok nmX3 hown hK hP hD hS 0 rfl rfl 5 (by decide) (hts _ wm924) (fun _ h9 => h9) rfl (by decide +kernel) rfl rfl (Nat.le_of_ble_eq_true rfl) dX3_open_8 (fun H locs hP hD hS => ?_)
  have hP : va_P (DG G) clP3 [(o1, .inr (3, [.int on, .ref oc, .int ot, .ref op, .int 111, .int (-1), .int ol, .int oh]))] H := hP
  have hD : va_D A [(o1, .inr (3, [.int on, .ref oc, .int ot, .ref op, .int 111, .int (-1), .int ol, .int oh]))] := hD
  simp only [Option.some.injEq, Prod.mk.injEq] at hm
  obtain ⟨rfl, rfl⟩ := hm
  have hP9 := hP.sub (ws' := [(o1, .inr (3, [.int on, .ref oc, .int ot, .ref op, .int 111, .int (-1), .int ol, .int oh]))]) [0] rfl
  have hD9 := hD.sub (ws' := [(o1, .inr (3, [.int on, .ref oc, .int ot, .ref op, .int 111, .int (-1), .int ol, .int oh]))]) [0] (by decide) rfl
  refine W.widen (k := 0) (n := 0) (Nat.le_of_ble_eq_true rfl) (Nat.le_of_ble_eq_true rfl) ?_
  exact W.vret hx hb hr (fun t ht hW => ⟨⟨(), rfl, trivial, ⟨by rw [ht]; exact hP9, hD9⟩⟩, hS.F ht⟩) hS.2.2 dX3_open_11 hlocks
def f_X3_splitInto  (os : Int32) (ol : Int32) (oh : Int32) (p1 : Int32) (p2 : Int32) : Option (Int32 × Int32 × Int32) := some (115, p1, p2)
set_option maxHeartbeats 4000000 in
set_option maxRecDepth 100000 in
theorem k_X3_splitInto (l : Launch) (hfl : l.stackTraces = false) (G : GC) (o1 : Nat) (p1 : Int32) (p2 : Int32) (on : Int32) (oc : Nat) (ot : Int32) (op : Nat) (os : Int32) (og : Int32) (ol : Int32) (oh : Int32) (os_9 : Int32) (ol_9 : Int32) (oh_9 : Int32) (hm : f_X3_splitInto os ol oh p1 p2 = some (os_9, ol_9, oh_9)) (sz : Nat) : Met l yX3_splitInto (Cond.code yX3_splitInto cX3_splitInto 3 none :: W0) ({ frames := 0, cells := 0, slots := 0, locals := 0 }) (va_Pc [.ref o1, .int p1, .int p2] (WD G [(o1, .inr (3, [.int on, .ref oc, .int ot, .ref op, .int os, .int og, .int ol, .int oh]))] sz)) (va_Qv (fun _ : Unit => True) (fun _ t => PW G (va_A [(o1, .inr (3, [.int on, .ref oc, .int ot, .ref op, .int os, .int og, .int ol, .int oh]))] sz) [(o1, .inr (3, [.int on, .ref oc, .int ot, .ref op, .int os_9, .int og, .int ol_9, .int oh_9]))] t) (va_A [(o1, .inr (3, [.int on, .ref oc, .int ot, .ref op, .int os, .int og, .int ol, .int oh]))] sz)) 0 0 (va_A [(o1, .inr (3, [.int on, .ref oc, .int ot, .ref op, .int os, .int og, .int ol, .int oh]))] sz) := by
  rw [f_X3_splitInto] at hm
  refine Met.ofW (cc := cX3_splitInto) (maxL := 3) (ret := none) (by decide) rfl ?_
  intro p e s m args below meth c s₁ B hml hv
  obtain ⟨rfl, hsz, hP, hK, hD0, hE⟩ := hv
  have hx := B.exec
  have hb := B.bytes
  have hr := B.returns
  have hts := w0_tail B.pre
  have hown : s.vm.findClass RX3 = some m.cls := findClass_of_methodNamed B.named
  have hlocks := B.notSynchronized
  subst hsz
  have hD := hD0.self (sz := s.heap.size)
  generalize hAe : va_A [(o1, .inr (3, [.int on, .ref oc, .int ot, .ref op, .int os, .int og, .int ol, .int oh]))] s.heap.size = A at hD hE ⊢
  have hA : ∀ q : Nat, s.heap.size ≤ q → A q := fun q h => by rw [← hAe]; exact Or.inr h
  have hS : va_S A s.heap s.heap [] := va_S.rf
  obtain ⟨H, hHe⟩ : ∃ H : Heap, H = s.heap := ⟨_, rfl⟩
  have hP : va_P (DG G) clP3 [(o1, .inr (3, [.int on, .ref oc, .int ot, .ref op, .int os, .int og, .int ol, .int oh]))] H := by rw [hHe]; exact hP
  have hS : va_S A s.heap H [] := by rw [hHe]; exact hS
  have hl := lv_entry ([.ref o1, .int p1, .int p2]) (n := 3) (Nat.le_of_ble_eq_true rfl)
  rw [lg_entry_eq, ← hHe]
  generalize (lg_sl ([.ref o1, .int p1, .int p2]) ++ List.replicate (3 - (lg_sl ([.ref o1, .int p1, .int p2])).length) Slot.unset).toArray = ls at hl ⊢
  have hl : lv_has ls 3 [(0, .ref o1), (1, .int p1), (2, .int p2)] := hl
  refine lv_aload_n hx hb dX3_splitInto_0 rfl (lv_at hl 0 rfl) ?_
  refine lv_bipush (v := 115) hx hb dX3_splitInto_1 (by decide) ?_
  refine va_put (D := DG G) (ci := 3) (v := .int 115) (ty := tyX3 4) (C := RX3) (T := TX3) (N := 8) hx hb hts inW_X3 tyX3 tyX3_ok nmX3 hown hK hP hD hS 0 rfl rfl 4 (by decide) (hts _ wm919) (fun _ h9 => h9) rfl (by decide +kernel) rfl rfl (Nat.le_of_ble_eq_true rfl) dX3_splitInto_3 (fun H locs hP hD hS => ?_)
  have hP : va_P (DG G) clP3 [(o1, .inr (3, [.int on, .ref oc, .int ot, .ref op, .int 115, .int og, .int ol, .int oh]))] H := hP
  have hD : va_D A [(o1, .inr (3, [.int on, .ref oc, .int ot, .ref op, .int 115, .int og, .int ol, .int oh]))] := hD
  refine lv_aload_n hx hb dX3_splitInto_6 rfl (lv_at hl 0 rfl) ?_
  refine lv_iload_n hx hb dX3_splitInto_7 rfl (lv_at hl 1 rfl) ?_
  refine va_put (D := DG G) (ci := 3) (v := .int p1) (ty := tyX3 6) (C := RX3) (T := TX3) (N := 8) hx hb hts inW_X3 tyX3 tyX3_ok nmX3 hown hK hP hD hS 0 rfl rfl 6 (by decide) (hts _ wm928) (fun _ h9 => h9) rfl (by decide +kernel) rfl rfl (Nat.le_of_ble_eq_true rfl) dX3_splitInto_8 (fun H locs hP hD hS => ?_)
  have hP : va_P (DG G) clP3 [(o1, .inr (3, [.int on, .ref oc, .int ot, .ref op, .int 115, .int og, .int p1, .int oh]))] H := hP
  have hD : va_D A [(o1, .inr (3, [.int on, .ref oc, .int ot, .ref op, .int 115, .int og, .int p1, .int oh]))] := hD
  refine lv_aload_n hx hb dX3_splitInto_11 rfl (lv_at hl 0 rfl) ?_
  refine lv_iload_n hx hb dX3_splitInto_12 rfl (lv_at hl 2 rfl) ?_
  refine va_put (D := DG G) (ci := 3) (v := .int p2) (ty := tyX3 7) (C := RX3) (T := TX3) (N := 8) hx hb hts inW_X3 tyX3 tyX3_ok nmX3 hown hK hP hD hS 0 rfl rfl 7 (by decide) (hts _ wm930) (fun _ h9 => h9) rfl (by decide +kernel) rfl rfl (Nat.le_of_ble_eq_true rfl) dX3_splitInto_13 (fun H locs hP hD hS => ?_)
  have hP : va_P (DG G) clP3 [(o1, .inr (3, [.int on, .ref oc, .int ot, .ref op, .int 115, .int og, .int p1, .int p2]))] H := hP
  have hD : va_D A [(o1, .inr (3, [.int on, .ref oc, .int ot, .ref op, .int 115, .int og, .int p1, .int p2]))] := hD
  simp only [Option.some.injEq, Prod.mk.injEq] at hm
  obtain ⟨rfl, rfl, rfl⟩ := hm
  have hP9 := hP.sub (ws' := [(o1, .inr (3, [.int on, .ref oc, .int ot, .ref op, .int 115, .int og, .int p1, .int p2]))]) [0] rfl
  have hD9 := hD.sub (ws' := [(o1, .inr (3, [.int on, .ref oc, .int ot, .ref op, .int 115, .int og, .int p1, .int p2]))]) [0] (by decide) rfl
  refine W.widen (k := 0) (n := 0) (Nat.le_of_ble_eq_true rfl) (Nat.le_of_ble_eq_true rfl) ?_
  exact W.vret hx hb hr (fun t ht hW => ⟨⟨(), rfl, trivial, ⟨by rw [ht]; exact hP9, hD9⟩⟩, hS.F ht⟩) hS.2.2 dX3_splitInto_16 hlocks
def gix (D : DS) (e : Int32) : Bool := decide (¬ e < 0 ∧ e.toNatClampNeg < D.2.1.toNatClampNeg)
def fix (D : DS) (e : Int32) : Bool := decide (¬ e < 0 ∧ e.toNatClampNeg < D.1.toNatClampNeg)
theorem gix_lt {D : DS} {e : Int32} (h : gix D e = true) : e.toNatClampNeg < D.2.1.toNatClampNeg := (of_decide_eq_true h).2
theorem fix_lt {D : DS} {e : Int32} (h : fix D e = true) : e.toNatClampNeg < D.1.toNatClampNeg := (of_decide_eq_true h).2
theorem rfG_pos {a : AS} {D : DS} {e : Int32} (h : gix D e = true) : rfG a e = some (a.2.2.1 e.toNatClampNeg 0) := if_neg (of_decide_eq_true h).1
theorem rfF_pos {a : AS} {D : DS} {e : Int32} (h : fix D e = true) : rfF a e = some (a.2.1 e.toNatClampNeg) := if_neg (of_decide_eq_true h).1
theorem at_goalC {G : GC} {a : AS} {T : TS} {F : FS} {U : US} {S : SS} {D : DS} {R : RS} {M : MS} {N : NS} {P : PS} {i c : Nat} (h : i < D.2.1.toNatClampNeg) (hc : c < 4) : (wC G a T F U S D R M N P)[37 + (D.1.toNatClampNeg + (4 * i + c))]? = (gcells G a P i)[c]? := at_goal (X := wX G a T F U S D R M N) h hc
theorem at_funC {G : GC} {a : AS} {T : TS} {F : FS} {U : US} {S : SS} {D : DS} {R : RS} {M : MS} {N : NS} {P : PS} {i : Nat} (h : i < D.1.toNatClampNeg) : (wC G a T F U S D R M N P)[37 + i]? = some (fcell a P i) := at_fun (X := wX G a T F U S D R M N) h
theorem tsw_out {x : Int32} {lo hi : Int} (hlh : lo ≤ hi) (h : ∀ k : Int, lo ≤ k → k ≤ hi → ¬ x.toInt = k) : x.toInt < lo ∨ hi < x.toInt := by
  by_cases h1 : x.toInt < lo
  · exact Or.inl h1
  · by_cases h2 : hi < x.toInt
    · exact Or.inr h2
    · exact absurd rfl (h x.toInt (by omega) (by omega))
theorem open_C {G : GC} {a : AS} {T : TS} {F : FS} {U : US} {S : SS} {D : DS} {R : RS} {M : MS} {N : NS} {P : PS} {i : Nat} (h : i < D.2.1.toNatClampNeg) : ∃ B : va_W, ∀ P' : PS, (∀ j, j ≠ i → gcells G a P' j = gcells G a P j) → (∀ j, fcell a P' j = fcell a P j) → (wC G a T F U S D R M N P').Perm (gcells G a P' i ++ B) := by
  obtain ⟨B, hB⟩ := open_goal (G := G) (a := a) (P := P) (nf := D.1.toNatClampNeg) h
  refine ⟨wX G a T F U S D R M N ++ B, fun P' h1 h2 => ?_⟩
  exact (List.Perm.append_left _ (hB P' h1 h2)).trans (List.perm_append_comm_assoc _ _ _)
theorem perm_12 {α : Type} {w x y z : α} {B : List α} : (w :: x :: y :: z :: B).Perm (x :: y :: w :: z :: B) := (List.Perm.swap x w _).trans (List.Perm.cons x (List.Perm.swap y w _))
theorem perm_two {α : Type} {u v x y : α} {r s : List α} : (([u, v] ++ r) ++ (x :: y :: s)).Perm ([u, v, x, y] ++ (r ++ s)) := by
  rw [List.append_assoc]
  exact List.Perm.cons u (List.Perm.cons v (List.perm_append_comm_assoc r [x, y] s))
theorem become_L {tn un : Nat} : ∀ (n : Nat) (tm : Int32) (tf : IA) (um : Int32) (uf : IA) (v2 : Int32) (z : Int32 × IA × Int32 × IA), f_X8_become_L7 tn un n tm tf um uf v2 = some z → z.2.2.1 = um ∧ z.2.2.2 = uf := by
  intro n
  induction n with
  | zero => intro tm tf um uf v2 z h; rw [f_X8_become_L7] at h; cases h
  | succ n ih =>
    intro tm tf um uf v2 z h
    rw [f_X8_become_L7] at h
    by_cases c : um ≤ v2
    · rw [if_pos c] at h; obtain rfl := Option.some.inj h; exact ⟨rfl, rfl⟩
    · rw [if_neg c] at h
      obtain ⟨-, h⟩ := ite_some h
      obtain ⟨q, -, h⟩ := bind_some h
      exact ih _ _ _ _ _ _ h
theorem become_same {tn un : Nat} {tm : Int32} {tf : IA} {um : Int32} {uf : IA} {z : Int32 × IA × Int32 × IA} (h : f_X8_become tn un tm tf um uf = some z) : z.2.2.1 = um ∧ z.2.2.2 = uf := become_L _ _ _ _ _ _ _ h
theorem nar_bool {v : Int32} (h : inb v 2 = true) : narrow .boolean (.int v) = .int v := by
  have h1 : 0 ≤ v.toInt ∧ v.toInt < (2 : Nat) := of_decide_eq_true h
  have h2 : v = 0 ∨ v = 1 := by
    have h3 : v.toInt = 0 ∨ v.toInt = 1 := by omega
    rcases h3 with h3 | h3
    · exact Or.inl (Int32.toInt_inj.mp (by rw [h3]; decide))
    · exact Or.inr (Int32.toInt_inj.mp (by rw [h3]; decide))
  rcases h2 with rfl | rfl <;> decide
/-- a char of a goal's state -/
def chb (v : Int32) : Bool := decide (v = 111 ∨ v = 115 ∨ v = 102)
theorem nar_char {v : Int32} (h : chb v = true) : narrow .char (.int v) = .int v := by
  have h1 : v = 111 ∨ v = 115 ∨ v = 102 := of_decide_eq_true h
  rcases h1 with rfl | rfl | rfl <;> decide
def cpok (sp dp n : Int32) (n0 n1 : Nat) : Bool := decide (¬ sp < 0 ∧ ¬ dp < 0 ∧ ¬ n < 0 ∧ sp.toNatClampNeg + n.toNatClampNeg ≤ n0 ∧ dp.toNatClampNeg + n.toNatClampNeg ≤ n1)
theorem cpok_1 {sp dp n : Int32} {n0 n1 : Nat} (h : cpok sp dp n n0 n1 = true) : ¬ sp < 0 := (of_decide_eq_true h).1
theorem cpok_2 {sp dp n : Int32} {n0 n1 : Nat} (h : cpok sp dp n n0 n1 = true) : ¬ dp < 0 := (of_decide_eq_true h).2.1
theorem cpok_3 {sp dp n : Int32} {n0 n1 : Nat} (h : cpok sp dp n n0 n1 = true) : ¬ n < 0 := (of_decide_eq_true h).2.2.1
theorem cpok_4 {sp dp n : Int32} {n0 n1 : Nat} (h : cpok sp dp n n0 n1 = true) : sp.toNatClampNeg + n.toNatClampNeg ≤ n0 := (of_decide_eq_true h).2.2.2.1
theorem cpok_5 {sp dp n : Int32} {n0 n1 : Nat} (h : cpok sp dp n n0 n1 = true) : dp.toNatClampNeg + n.toNatClampNeg ≤ n1 := (of_decide_eq_true h).2.2.2.2
theorem at_pre {X Y : va_W} {i : Nat} {c : Nat × va_E} (h : X[i]? = some c) : (X ++ Y)[i]? = some c := by
  rw [List.getElem?_append_left (List.getElem?_eq_some_iff.mp h).1]; exact h
theorem at_tail {X E : va_W} {j : Nat} {c : Nat × va_E} (h : E[j]? = some c) : (X ++ E)[X.length + j]? = some c := by
  rw [List.getElem?_append_right (Nat.le_add_right _ _), Nat.add_sub_cancel_left]; exact h
theorem set_tail {X E : va_W} {j : Nat} {c : Nat × va_E} : (X ++ E).set (X.length + j) c = X ++ E.set j c := by
  rw [List.set_append_right _ _ (Nat.le_add_right _ _), Nat.add_sub_cancel_left]
theorem perm_last {X E : va_W} {c : Nat × va_E} : (X ++ (E ++ [c])).Perm ([c] ++ (X ++ E)) := by
  rw [← List.append_assoc]; exact List.perm_append_comm
/-- the length of a telescope's row -/
def tsz (n : Int32) : Nat := Int32.toNatClampNeg (if n < 0 then 0 else n)
theorem tsz_of (n : Int32) : (if n < 0 then 0 else n).toNatClampNeg = tsz n := rfl
theorem tsz_pos (n : Int32) : ¬ (if n < 0 then 0 else n) < 0 := by
  by_cases h : n < 0
  · rw [if_pos h]; decide
  · rw [if_neg h]; exact h
def szok (n : Int32) : Bool := decide (tsz n ≤ 64)
theorem frame_vS {S : Type} {l : Launch} {y : MethodName} {ws : List Cond} {rm : Room} {av : List Value} {G : GC} {wc wr X : va_W} {w1 X1 : S → va_W} {sz mc ms : Nat} {post : S → Prop} (hX : X.Perm (wc ++ wr)) (hX1 : ∀ u, (X1 u).Perm (w1 u ++ wr))
    (h : Met l y ws rm (va_Pc av (WD G wc sz)) (va_Qv post (fun u t => PW G (va_A wc sz) (w1 u) t) (va_A wc sz)) mc ms (va_A wc sz)) : Met l y ws rm (va_Pc av (WD G X sz)) (va_Qv post (fun u t => PW G (va_A X sz) (X1 u) t) (va_A X sz)) mc ms (va_A X sz) := by
  intro p e hl hc1 hc2 s m args below hf happ hP hK
  obtain ⟨n, o, h1, h2, h3, ⟨⟨u, ho, hp, hb⟩, hF⟩, L, hfr, hL⟩ := h p e hl hc1 hc2 s m args below hf happ ⟨hP.1, frame_WD hX hP.2⟩ hK
  refine ⟨n, o, h1, h2, h3, ⟨⟨u, ho, hp, ?_⟩, hF.1, fun q g1 g2 => hF.2 q g1 (fun z => g2 (frame_A hX q z))⟩, L, hfr, fun q hq => frame_A hX _ (hL q hq)⟩
  exact frame_w hX (hX1 u) hP.2.1 hP.2.2.1 hP.2.2.2.2.1 (fun q g1 g2 => hF.2 q g1 g2) hb.1 hb.2
theorem inb_nn {n : Int32} {N : Nat} (h : inb n N = true) : ¬ n < 0 := by
  have h1 : 0 ≤ n.toInt ∧ n.toInt < (N : Int) := of_decide_eq_true h
  intro q
  have h2 := i_lt q
  have h3 : (0 : Int32).toInt = 0 := by decide
  omega
theorem inb_cl {n : Int32} {N : Nat} (h : inb n N = true) : n.toNatClampNeg < N := by
  have h1 : 0 ≤ n.toInt ∧ n.toInt < (N : Int) := of_decide_eq_true h
  have h2 : n.toNatClampNeg = n.toInt.toNat := rfl
  omega
theorem inb_by {n : Int32} (h : inb n 65 = true) : n.toNatClampNeg * componentBytes .int ≤ 536870912 := by
  have := inb_cl h
  show n.toNatClampNeg * 4 ≤ _
  omega
theorem inb_sl {n : Int32} {k M : Nat} (h : inb n 65 = true) (hk : k + 64 ≤ M) : k + n.toNatClampNeg ≤ M := by
  have := inb_cl h
  omega
theorem inb_wd {n : Int32} {k : Nat} (h : inb n 65 = true) : k + n.toNatClampNeg ≤ k + 64 := by
  have := inb_cl h
  omega
theorem tsz_by {n : Int32} (h : szok n = true) : tsz n * componentBytes .int ≤ 536870912 := by
  have : tsz n ≤ 64 := of_decide_eq_true h
  show tsz n * 4 ≤ _
  omega
theorem tsz_sl {n : Int32} {k M : Nat} (h : szok n = true) (hk : k + 64 ≤ M) : k + tsz n ≤ M := by
  have : tsz n ≤ 64 := of_decide_eq_true h
  omega
abbrev BS : Type := (Nat → Nat) × (Nat → Nat → Nat) × (Nat → Option Nat) × (Nat → Option Nat)
/-- a goal's numbers as it is made: function, type, room, many, types, how many patterns, patterns -/
abbrev CS : Type := Int32 × Int32 × Nat × Int32 × IA × Nat × IA
def childcells (G : GC) (u : Nat × Nat × Nat × Nat) (Z : CS) : va_W :=
  [(u.2.1, .inr (7, [.ref u.2.2.1, .int Z.2.2.2.1])), (u.2.2.1, .inl (cyA G 0, Z.2.2.1, .inl Z.2.2.2.2.1)), (u.2.2.2, .inl (cyA G 0, Z.2.2.2.2.2.1, .inl Z.2.2.2.2.2.2)), (u.1, .inr (3, [.int Z.1, .ref u.2.1, .int Z.2.1, .ref u.2.2.2, .int 111, .int (-1), .int (-1), .int (-1)]))]
def addG (P : PS) (i : Nat) (Z : CS) : PS := (P.1, P.2.1, P.2.2.1, va_up P.2.2.2.1 i Z.1, va_up P.2.2.2.2.1 i Z.2.1, va_up P.2.2.2.2.2.1 i 111, va_up P.2.2.2.2.2.2.1 i (-1), va_up P.2.2.2.2.2.2.2.1 i (-1), va_up P.2.2.2.2.2.2.2.2.1 i (-1), va_up P.2.2.2.2.2.2.2.2.2.1 i Z.2.2.1, va_up P.2.2.2.2.2.2.2.2.2.2.1 i Z.2.2.2.1, va_up P.2.2.2.2.2.2.2.2.2.2.2.1 i Z.2.2.2.2.1, va_up P.2.2.2.2.2.2.2.2.2.2.2.2.1 i Z.2.2.2.2.2.1, va_up P.2.2.2.2.2.2.2.2.2.2.2.2.2 i Z.2.2.2.2.2.2)
def addF (P : PS) (i : Nat) (ty ar fg : Int32) : PS := (va_up P.1 i ty, va_up P.2.1 i ar, va_up P.2.2.1 i fg, P.2.2.2)
def adrG (b : BS) (i : Nat) (u : Nat × Nat × Nat × Nat) : Nat → Nat → Nat := fun j c => if j = i then (match c with | 0 => u.1 | 1 => u.2.1 | 2 => u.2.2.1 | _ => u.2.2.2) else b.2.1 j c
theorem gcells_add {G : GC} {ad : Nat → Nat} {b b' : BS} {P : PS} {i : Nat} {u : Nat × Nat × Nat × Nat} {Z : CS} (hb : b'.2.1 = adrG b i u) : (gcells G (ad, b') (addG P i Z) i).Perm (childcells G u Z) := by
  have e : gcells G (ad, b') (addG P i Z) i = [(u.1, .inr (3, [.int Z.1, .ref u.2.1, .int Z.2.1, .ref u.2.2.2, .int 111, .int (-1), .int (-1), .int (-1)])), (u.2.1, .inr (7, [.ref u.2.2.1, .int Z.2.2.2.1])), (u.2.2.1, .inl (cyA G 0, Z.2.2.1, .inl Z.2.2.2.2.1)), (u.2.2.2, .inl (cyA G 0, Z.2.2.2.2.2.1, .inl Z.2.2.2.2.2.2))] := by
    simp only [gcells, addG, hb, adrG, va_up_self, if_true]
  rw [e]
  exact (List.perm_append_comm (l₁ := [_]) (l₂ := [_, _, _]))
theorem gcells_old {G : GC} {ad : Nat → Nat} {b b' : BS} {P : PS} {i j : Nat} {u : Nat × Nat × Nat × Nat} {Z : CS} (hb : b'.2.1 = adrG b i u) (h : j ≠ i) : gcells G (ad, b') (addG P i Z) j = gcells G (ad, b) P j := by
  simp only [gcells, addG, hb, adrG, va_up_ne _ _ h, if_neg h]
theorem flat_congr {G : GC} {a a' : AS} {P P' : PS} {n : Nat} (h : ∀ j, j < n → gcells G a' P' j = gcells G a P j) : (List.range n).flatMap (gcells G a' P') = (List.range n).flatMap (gcells G a P) := by
  rw [List.flatMap_def, List.flatMap_def]
  congr 1
  exact List.map_congr_left (fun j hj => h j (List.mem_range.mp hj))
/-- one function and its goal behind the others -/
theorem wP_enter {G : GC} {ad : Nat → Nat} {b b' : BS} {P : PS} {nf ng : Nat} {u : Nat × Nat × Nat × Nat} {Z : CS} {v : Nat} {ty ar fg : Int32} (h1 : b'.1 = va_up b.1 nf v) (h2 : b'.2.1 = adrG b ng u) :
    (wP G (ad, b) P nf ng ++ (childcells G u Z ++ ([(v, .inr (2, [.int ty, .int ar, .int fg]))] : va_W))).Perm (wP G (ad, b') (addG (addF P nf ty ar fg) ng Z) (nf + 1) (ng + 1)) := by
  have e1 : (List.range nf).map (fcell (ad, b') (addG (addF P nf ty ar fg) ng Z)) = (List.range nf).map (fcell (ad, b) P) := List.map_congr_left (fun j hj => by
    have : j ≠ nf := by have := List.mem_range.mp hj; omega
    simp only [fcell, addG, addF, h1, va_up_ne _ _ this])
  have e2 : (List.range ng).flatMap (gcells G (ad, b') (addG (addF P nf ty ar fg) ng Z)) = (List.range ng).flatMap (gcells G (ad, b) P) := flat_congr (fun j hj => by
    rw [gcells_old h2 (by omega)]; rfl)
  have e3 : fcell (ad, b') (addG (addF P nf ty ar fg) ng Z) nf = ((v, .inr (2, [.int ty, .int ar, .int fg])) : Nat × va_E) := by
    simp only [fcell, addG, addF, h1, va_up_self]
  have e4 : (gcells G (ad, b') (addG (addF P nf ty ar fg) ng Z) ng).Perm (childcells G u Z) := gcells_add h2
  rw [wP, wP, List.range_succ, List.range_succ, List.map_append, List.flatMap_append, e1, e2]
  have e5 : [nf].map (fcell (ad, b') (addG (addF P nf ty ar fg) ng Z)) = ([(v, .inr (2, [.int ty, .int ar, .int fg]))] : va_W) := by rw [List.map_cons, e3]; rfl
  have e6 : [ng].flatMap (gcells G (ad, b') (addG (addF P nf ty ar fg) ng Z)) = gcells G (ad, b') (addG (addF P nf ty ar fg) ng Z) ng := by simp
  rw [e5, e6]
  generalize (List.range nf).map (fcell (ad, b) P) = A1
  generalize (List.range ng).flatMap (gcells G (ad, b) P) = A2
  refine List.Perm.trans ?_ (List.Perm.append_left _ (List.Perm.append_left _ e4.symm))
  rw [List.append_assoc, List.append_assoc]
  refine List.Perm.append_left _ ?_
  rw [← List.append_assoc]
  exact List.perm_append_comm
theorem lk_enter {ad : Nat → Nat} {b b' : BS} {nf ng : Nat} {u : Nat × Nat × Nat × Nat} {v : Nat} (h : lkA (ad, b) nf ng) (h1 : b'.1 = va_up b.1 nf v) (h2 : b'.2.1 = adrG b ng u) (h3 : b'.2.2.1 = va_up b.2.2.1 nf (some v)) (h4 : b'.2.2.2 = va_up b.2.2.2 ng (some u.1)) : lkA (ad, b') (nf + 1) (ng + 1) := by
  refine ⟨fun i hi => ?_, fun i hi => ?_⟩
  · show b'.2.2.1 i = some (b'.1 i)
    rw [h1, h3]
    by_cases c : i = nf
    · subst c; rw [va_up_self, va_up_self]
    · rw [va_up_ne _ _ c, va_up_ne _ _ c]; exact h.1 i (by omega)
  · show b'.2.2.2 i = some (b'.2.1 i 0)
    rw [h2, h4]
    by_cases c : i = ng
    · subst c; rw [va_up_self]; simp [adrG]
    · rw [va_up_ne _ _ c]; simp only [adrG, if_neg c]; exact h.2 i (by omega)
theorem inc_cl {n : Int32} {N : Nat} (h : inb n N = true) (hN : N < 2147483647) : (n + 1).toNatClampNeg = n.toNatClampNeg + 1 := by
  have h1 : 0 ≤ n.toInt ∧ n.toInt < (N : Int) := of_decide_eq_true h
  have h2 : (n + 1).toInt = n.toInt + 1 := by
    rw [Int32.toInt_add]
    have : (1 : Int32).toInt = 1 := by decide
    rw [this, Int.bmod_eq_of_le] <;> omega
  show (n + 1).toInt.toNat = n.toInt.toNat + 1
  omega
theorem take_tail {A : Nat → Prop} {D : va_G} {cl : List vw_C} {X E : va_W} {H : Heap} (hP : va_P D cl (X ++ E) H) (hD : va_D A (X ++ E)) : va_P D cl (X ++ []) H ∧ va_D A (X ++ []) := by
  rw [List.append_nil]; exact ⟨va_Pleft hP, va_Dleft hD⟩
def g_X8_typeAt_g (P : PS) (e p1 : Int32) : Option Int32 := f_X8_typeAt (P.2.2.2.2.2.2.2.2.2.1 (Int32.toNatClampNeg e)) (P.2.2.2.2.2.2.2.2.2.2.1 (Int32.toNatClampNeg e)) (P.2.2.2.2.2.2.2.2.2.2.2.1 (Int32.toNatClampNeg e)) p1
set_option maxHeartbeats 1000000 in
set_option maxRecDepth 100000 in
theorem K_X8_typeAt_g (l : Launch) (hfl : l.stackTraces = false) (G : GC) (a : AS) (T : TS) (F : FS) (U : US) (S : SS) (D : DS) (R : RS) (M : MS) (N : NS) (P : PS) (e p1 : Int32) (hg : gix D e = true) (r9 : Int32) (hm : g_X8_typeAt_g P e p1 = some r9) (sz : Nat) : Met l yX8_typeAt (Cond.code yX8_typeAt cX8_typeAt 2 (some .int) :: W0) ({ frames := 0, cells := 0, slots := 0, locals := 0 }) (va_Pc [.ref (a.2.2.1 (Int32.toNatClampNeg e) 1), .int p1] (WD G (wC G a T F U S D R M N P) sz)) (va_Qi (fun (r : Int32) (_ : Unit) => r = r9) (fun _ t => PW G (va_A (wC G a T F U S D R M N P) sz) (wC G a T F U S D R M N P) t) (va_A (wC G a T F U S D R M N P) sz)) 0 0 (va_A (wC G a T F U S D R M N P) sz) := by
  obtain ⟨B, hB⟩ := open_C (G := G) (a := a) (T := T) (F := F) (U := U) (S := S) (R := R) (M := M) (N := N) (P := P) (gix_lt hg)
  have hX := (hB P (fun _ _ => rfl) (fun _ => rfl)).trans perm_12
  exact frame_i hX hX (wc := [_, _]) (w1 := [_, _]) (k_X8_typeAt l hfl G (P.2.2.2.2.2.2.2.2.2.1 (Int32.toNatClampNeg e)) (a.2.2.1 (Int32.toNatClampNeg e) 1) p1 (a.2.2.1 (Int32.toNatClampNeg e) 2) (P.2.2.2.2.2.2.2.2.2.2.1 (Int32.toNatClampNeg e)) (P.2.2.2.2.2.2.2.2.2.2.2.1 (Int32.toNatClampNeg e)) r9 hm sz)
def g_X8_become_n (U : US) : Option US := (f_X8_become 42 0 U.1 U.2 0 (fun _ => 0)).map (fun z => (z.1, z.2.1))
set_option maxHeartbeats 1000000 in
set_option maxRecDepth 100000 in
theorem K_X8_become_n (l : Launch) (hfl : l.stackTraces = false) (G : GC) (a : AS) (T : TS) (F : FS) (U : US) (S : SS) (D : DS) (R : RS) (M : MS) (N : NS) (P : PS) (U9 : US) (hm : g_X8_become_n U = some U9) (sz : Nat) : Met l yX8_become (Cond.code yX8_become cX8_become 3 none :: W0) ({ frames := 1, cells := 0, slots := 0, locals := 21 }) (va_Pc [.ref (a.1 27), .ref (a.1 25)] (WD G (wC G a T F U S D R M N P) sz)) (va_Qv (fun _ : Unit => True) (fun _ t => PW G (va_A (wC G a T F U S D R M N P) sz) (wC G a T F U9 S D R M N P) t) (va_A (wC G a T F U S D R M N P) sz)) 0 0 (va_A (wC G a T F U S D R M N P) sz) := by
  obtain ⟨⟨z1, z2, z3, z4⟩, hz, he⟩ := Option.map_eq_some_iff.mp hm
  obtain rfl := he
  have h3 : z3 = 0 := (become_same hz).1
  have h4 : z4 = fun _ => 0 := (become_same hz).2
  subst h3; subst h4
  exact frameD_v (X := wX G a T F U S D R M N) (X1 := wX G a _ _ _ _ _ _ _ _) (wr := [((a.1 0), .inr (10, [.ref (a.1 1), .ref (a.1 11), .ref (a.1 13), .ref (a.1 21), .ref (a.1 24), .ref (a.1 29), .ref (a.1 31), .ref (a.1 36), .int N.2.1, .long N.2.2])), ((a.1 1), .inr (8, [.ref (a.1 2), .ref (a.1 3), .ref (a.1 4), .ref (a.1 5), .ref (a.1 6), .ref (a.1 7), .ref (a.1 8), .ref (a.1 9), .ref (a.1 10), .int T.1])), ((a.1 2), .inl (cyA G 0, 32768, .inl T.2.1)), ((a.1 3), .inl (cyA G 0, 32768, .inl T.2.2.1)), ((a.1 4), .inl (cyA G 0, 32768, .inl T.2.2.2.1)), ((a.1 5), .inl (cyA G 0, 32768, .inl T.2.2.2.2.1)), ((a.1 6), .inl (cyA G 0, 32768, .inl T.2.2.2.2.2.1)), ((a.1 7), .inl (cyA G 0, 32768, .inl T.2.2.2.2.2.2.1)), ((a.1 8), .inl (cyA G 0, 32768, .inl T.2.2.2.2.2.2.2.1)), ((a.1 9), .inl (cyA G 1, 32768, .inl T.2.2.2.2.2.2.2.2)), ((a.1 10), .inl (cyA G 0, 32768, .inl F.2.2)), ((a.1 11), .inr (1, [.ref (a.1 1), .ref (a.1 12), .int F.1])), ((a.1 12), .inl (cyA G 0, 80, .inl F.2.1)), ((a.1 13), .inr (6, [.ref (a.1 1), .ref (a.1 14), .ref (a.1 15), .ref (a.1 16), .ref (a.1 17), .ref (a.1 18), .ref (a.1 19), .ref (a.1 20), .int S.1, .int S.2.1])), ((a.1 14), .inl (cyA G 1, 6, .inl S.2.2.1)), ((a.1 15), .inl (cyA G 0, 16, .inl S.2.2.2.1)), ((a.1 16), .inl (cyA G 0, 16, .inl S.2.2.2.2.1)), ((a.1 17), .inl (cyA G 0, 48, .inl S.2.2.2.2.2.1)), ((a.1 18), .inl (cyA G 0, 16, .inl S.2.2.2.2.2.2.1)), ((a.1 19), .inl (cyA G 0, 16, .inl S.2.2.2.2.2.2.2.1)), ((a.1 20), .inl (cyA G 0, 6, .inl S.2.2.2.2.2.2.2.2)), ((a.1 21), .inr (0, [.ref (a.1 1), .ref (a.1 11), .ref (a.1 13), .ref (a.1 22), .ref (a.1 23), .int D.1, .int D.2.1, .int D.2.2])), ((a.1 22), .inl (cyA G 2, 8, .inr (.inr (.inr (.inr a.2.2.2.1))))), ((a.1 23), .inl (cyA G 3, 40, .inr (.inr (.inr (.inr a.2.2.2.2))))), ((a.1 24), .inr (9, [.ref (a.1 1), .ref (a.1 11), .ref (a.1 13), .ref (a.1 21), .ref (a.1 25), .ref (a.1 27)])), ((a.1 29), .inr (4, [.ref (a.1 1), .ref (a.1 30), .int R.1, .int R.2.1, .int R.2.2.1, .int R.2.2.2.1])), ((a.1 30), .inl (cyA G 0, 200, .inl R.2.2.2.2)), ((a.1 31), .inr (5, [.ref (a.1 1), .ref (a.1 13), .ref (a.1 21), .ref (a.1 32), .ref (a.1 33), .ref (a.1 34), .ref (a.1 35), .int M.2.2.2.2.1, .int M.2.2.2.2.2.1, .int M.2.2.2.2.2.2.1, .int M.2.2.2.2.2.2.2.1, .int M.2.2.2.2.2.2.2.2])), ((a.1 32), .inl (cyA G 0, 4200, .inl M.1)), ((a.1 33), .inl (cyA G 1, 4200, .inl M.2.1)), ((a.1 34), .inl (cyA G 0, 4, .inl M.2.2.1)), ((a.1 35), .inl (cyA G 0, 12, .inl M.2.2.2.1)), ((a.1 36), .inl (cyA G 0, 250, .inl N.1))]) [27, 28, 25, 26, 0, 1, 2, 3, 4, 5, 6, 7, 8, 9, 10, 11, 12, 13, 14, 15, 16, 17, 18, 19, 20, 21, 22, 23, 24, 29, 30, 31, 32, 33, 34, 35, 36] (by decide +kernel) (k_X8_become l hfl G 42 0 (a.1 27) (a.1 25) (a.1 28) U.1 U.2 (a.1 26) 0 (fun _ => 0) z1 z2 0 (fun _ => 0) hz sz) rfl rfl rfl rfl
def g_X8_become_g (U : US) (P : PS) (e : Int32) : Option US := (f_X8_become 42 (P.2.2.2.2.2.2.2.2.2.1 (Int32.toNatClampNeg e)) U.1 U.2 (P.2.2.2.2.2.2.2.2.2.2.1 (Int32.toNatClampNeg e)) (P.2.2.2.2.2.2.2.2.2.2.2.1 (Int32.toNatClampNeg e))).map (fun z => (z.1, z.2.1))
set_option maxHeartbeats 1000000 in
set_option maxRecDepth 100000 in
theorem K_X8_become_g (l : Launch) (hfl : l.stackTraces = false) (G : GC) (a : AS) (T : TS) (F : FS) (U : US) (S : SS) (D : DS) (R : RS) (M : MS) (N : NS) (P : PS) (e : Int32) (hg : gix D e = true) (U9 : US) (hm : g_X8_become_g U P e = some U9) (sz : Nat) : Met l yX8_become (Cond.code yX8_become cX8_become 3 none :: W0) ({ frames := 1, cells := 0, slots := 0, locals := 21 }) (va_Pc [.ref (a.1 27), .ref (a.2.2.1 (Int32.toNatClampNeg e) 1)] (WD G (wC G a T F U S D R M N P) sz)) (va_Qv (fun _ : Unit => True) (fun _ t => PW G (va_A (wC G a T F U S D R M N P) sz) (wC G a T F U9 S D R M N P) t) (va_A (wC G a T F U S D R M N P) sz)) 0 0 (va_A (wC G a T F U S D R M N P) sz) := by
  obtain ⟨⟨z1, z2, z3, z4⟩, hz, he⟩ := Option.map_eq_some_iff.mp hm
  obtain rfl := he
  have h3 := (become_same hz).1
  have h4 := (become_same hz).2
  dsimp only at h3 h4
  subst h3; subst h4
  obtain ⟨B, hB⟩ := open_goal (G := G) (a := a) (P := P) (nf := D.1.toNatClampNeg) (gix_lt hg)
  have hX := (hB P (fun _ _ => rfl) (fun _ => rfl)).trans perm_12
  have e0 : ∀ V : US, (wX G a T F V S D R M N).Perm ([(a.1 27, .inr (7, [.ref (a.1 28), .int V.1])), (a.1 28, .inl (cyA G 0, 42, .inl V.2))] ++ [((a.1 0), .inr (10, [.ref (a.1 1), .ref (a.1 11), .ref (a.1 13), .ref (a.1 21), .ref (a.1 24), .ref (a.1 29), .ref (a.1 31), .ref (a.1 36), .int N.2.1, .long N.2.2])), ((a.1 1), .inr (8, [.ref (a.1 2), .ref (a.1 3), .ref (a.1 4), .ref (a.1 5), .ref (a.1 6), .ref (a.1 7), .ref (a.1 8), .ref (a.1 9), .ref (a.1 10), .int T.1])), ((a.1 2), .inl (cyA G 0, 32768, .inl T.2.1)), ((a.1 3), .inl (cyA G 0, 32768, .inl T.2.2.1)), ((a.1 4), .inl (cyA G 0, 32768, .inl T.2.2.2.1)), ((a.1 5), .inl (cyA G 0, 32768, .inl T.2.2.2.2.1)), ((a.1 6), .inl (cyA G 0, 32768, .inl T.2.2.2.2.2.1)), ((a.1 7), .inl (cyA G 0, 32768, .inl T.2.2.2.2.2.2.1)), ((a.1 8), .inl (cyA G 0, 32768, .inl T.2.2.2.2.2.2.2.1)), ((a.1 9), .inl (cyA G 1, 32768, .inl T.2.2.2.2.2.2.2.2)), ((a.1 10), .inl (cyA G 0, 32768, .inl F.2.2)), ((a.1 11), .inr (1, [.ref (a.1 1), .ref (a.1 12), .int F.1])), ((a.1 12), .inl (cyA G 0, 80, .inl F.2.1)), ((a.1 13), .inr (6, [.ref (a.1 1), .ref (a.1 14), .ref (a.1 15), .ref (a.1 16), .ref (a.1 17), .ref (a.1 18), .ref (a.1 19), .ref (a.1 20), .int S.1, .int S.2.1])), ((a.1 14), .inl (cyA G 1, 6, .inl S.2.2.1)), ((a.1 15), .inl (cyA G 0, 16, .inl S.2.2.2.1)), ((a.1 16), .inl (cyA G 0, 16, .inl S.2.2.2.2.1)), ((a.1 17), .inl (cyA G 0, 48, .inl S.2.2.2.2.2.1)), ((a.1 18), .inl (cyA G 0, 16, .inl S.2.2.2.2.2.2.1)), ((a.1 19), .inl (cyA G 0, 16, .inl S.2.2.2.2.2.2.2.1)), ((a.1 20), .inl (cyA G 0, 6, .inl S.2.2.2.2.2.2.2.2)), ((a.1 21), .inr (0, [.ref (a.1 1), .ref (a.1 11), .ref (a.1 13), .ref (a.1 22), .ref (a.1 23), .int D.1, .int D.2.1, .int D.2.2])), ((a.1 22), .inl (cyA G 2, 8, .inr (.inr (.inr (.inr a.2.2.2.1))))), ((a.1 23), .inl (cyA G 3, 40, .inr (.inr (.inr (.inr a.2.2.2.2))))), ((a.1 24), .inr (9, [.ref (a.1 1), .ref (a.1 11), .ref (a.1 13), .ref (a.1 21), .ref (a.1 25), .ref (a.1 27)])), ((a.1 25), .inr (7, [.ref (a.1 26), .int 0])), ((a.1 26), .inl (cyA G 0, 0, .inl (fun _ => 0))), ((a.1 29), .inr (4, [.ref (a.1 1), .ref (a.1 30), .int R.1, .int R.2.1, .int R.2.2.1, .int R.2.2.2.1])), ((a.1 30), .inl (cyA G 0, 200, .inl R.2.2.2.2)), ((a.1 31), .inr (5, [.ref (a.1 1), .ref (a.1 13), .ref (a.1 21), .ref (a.1 32), .ref (a.1 33), .ref (a.1 34), .ref (a.1 35), .int M.2.2.2.2.1, .int M.2.2.2.2.2.1, .int M.2.2.2.2.2.2.1, .int M.2.2.2.2.2.2.2.1, .int M.2.2.2.2.2.2.2.2])), ((a.1 32), .inl (cyA G 0, 4200, .inl M.1)), ((a.1 33), .inl (cyA G 1, 4200, .inl M.2.1)), ((a.1 34), .inl (cyA G 0, 4, .inl M.2.2.1)), ((a.1 35), .inl (cyA G 0, 12, .inl M.2.2.2.1)), ((a.1 36), .inl (cyA G 0, 250, .inl N.1))]) := fun V => perm_lit (n := 37) [27, 28, 0, 1, 2, 3, 4, 5, 6, 7, 8, 9, 10, 11, 12, 13, 14, 15, 16, 17, 18, 19, 20, 21, 22, 23, 24, 25, 26, 29, 30, 31, 32, 33, 34, 35, 36] (by decide +kernel) rfl rfl
  obtain ⟨wr, e1⟩ : ∃ wr : va_W, ∀ V : US, (wC G a T F V S D R M N P).Perm ([(a.1 27, .inr (7, [.ref (a.1 28), .int V.1])), (a.1 28, .inl (cyA G 0, 42, .inl V.2)), ((a.2.2.1 (Int32.toNatClampNeg e) 1), .inr (7, [.ref (a.2.2.1 (Int32.toNatClampNeg e) 2), .int (P.2.2.2.2.2.2.2.2.2.2.1 (Int32.toNatClampNeg e))])), ((a.2.2.1 (Int32.toNatClampNeg e) 2), .inl (cyA G 0, (P.2.2.2.2.2.2.2.2.2.1 (Int32.toNatClampNeg e)), .inl (P.2.2.2.2.2.2.2.2.2.2.2.1 (Int32.toNatClampNeg e))))] ++ wr) := ⟨[((a.1 0), .inr (10, [.ref (a.1 1), .ref (a.1 11), .ref (a.1 13), .ref (a.1 21), .ref (a.1 24), .ref (a.1 29), .ref (a.1 31), .ref (a.1 36), .int N.2.1, .long N.2.2])), ((a.1 1), .inr (8, [.ref (a.1 2), .ref (a.1 3), .ref (a.1 4), .ref (a.1 5), .ref (a.1 6), .ref (a.1 7), .ref (a.1 8), .ref (a.1 9), .ref (a.1 10), .int T.1])), ((a.1 2), .inl (cyA G 0, 32768, .inl T.2.1)), ((a.1 3), .inl (cyA G 0, 32768, .inl T.2.2.1)), ((a.1 4), .inl (cyA G 0, 32768, .inl T.2.2.2.1)), ((a.1 5), .inl (cyA G 0, 32768, .inl T.2.2.2.2.1)), ((a.1 6), .inl (cyA G 0, 32768, .inl T.2.2.2.2.2.1)), ((a.1 7), .inl (cyA G 0, 32768, .inl T.2.2.2.2.2.2.1)), ((a.1 8), .inl (cyA G 0, 32768, .inl T.2.2.2.2.2.2.2.1)), ((a.1 9), .inl (cyA G 1, 32768, .inl T.2.2.2.2.2.2.2.2)), ((a.1 10), .inl (cyA G 0, 32768, .inl F.2.2)), ((a.1 11), .inr (1, [.ref (a.1 1), .ref (a.1 12), .int F.1])), ((a.1 12), .inl (cyA G 0, 80, .inl F.2.1)), ((a.1 13), .inr (6, [.ref (a.1 1), .ref (a.1 14), .ref (a.1 15), .ref (a.1 16), .ref (a.1 17), .ref (a.1 18), .ref (a.1 19), .ref (a.1 20), .int S.1, .int S.2.1])), ((a.1 14), .inl (cyA G 1, 6, .inl S.2.2.1)), ((a.1 15), .inl (cyA G 0, 16, .inl S.2.2.2.1)), ((a.1 16), .inl (cyA G 0, 16, .inl S.2.2.2.2.1)), ((a.1 17), .inl (cyA G 0, 48, .inl S.2.2.2.2.2.1)), ((a.1 18), .inl (cyA G 0, 16, .inl S.2.2.2.2.2.2.1)), ((a.1 19), .inl (cyA G 0, 16, .inl S.2.2.2.2.2.2.2.1)), ((a.1 20), .inl (cyA G 0, 6, .inl S.2.2.2.2.2.2.2.2)), ((a.1 21), .inr (0, [.ref (a.1 1), .ref (a.1 11), .ref (a.1 13), .ref (a.1 22), .ref (a.1 23), .int D.1, .int D.2.1, .int D.2.2])), ((a.1 22), .inl (cyA G 2, 8, .inr (.inr (.inr (.inr a.2.2.2.1))))), ((a.1 23), .inl (cyA G 3, 40, .inr (.inr (.inr (.inr a.2.2.2.2))))), ((a.1 24), .inr (9, [.ref (a.1 1), .ref (a.1 11), .ref (a.1 13), .ref (a.1 21), .ref (a.1 25), .ref (a.1 27)])), ((a.1 25), .inr (7, [.ref (a.1 26), .int 0])), ((a.1 26), .inl (cyA G 0, 0, .inl (fun _ => 0))), ((a.1 29), .inr (4, [.ref (a.1 1), .ref (a.1 30), .int R.1, .int R.2.1, .int R.2.2.1, .int R.2.2.2.1])), ((a.1 30), .inl (cyA G 0, 200, .inl R.2.2.2.2)), ((a.1 31), .inr (5, [.ref (a.1 1), .ref (a.1 13), .ref (a.1 21), .ref (a.1 32), .ref (a.1 33), .ref (a.1 34), .ref (a.1 35), .int M.2.2.2.2.1, .int M.2.2.2.2.2.1, .int M.2.2.2.2.2.2.1, .int M.2.2.2.2.2.2.2.1, .int M.2.2.2.2.2.2.2.2])), ((a.1 32), .inl (cyA G 0, 4200, .inl M.1)), ((a.1 33), .inl (cyA G 1, 4200, .inl M.2.1)), ((a.1 34), .inl (cyA G 0, 4, .inl M.2.2.1)), ((a.1 35), .inl (cyA G 0, 12, .inl M.2.2.2.1)), ((a.1 36), .inl (cyA G 0, 250, .inl N.1))] ++ (_ :: _ :: B), fun V => (List.Perm.append (e0 V) hX).trans perm_two⟩
  exact frame_v (e1 U) (e1 (z1, z2)) (k_X8_become l hfl G 42 (P.2.2.2.2.2.2.2.2.2.1 (Int32.toNatClampNeg e)) (a.1 27) (a.2.2.1 (Int32.toNatClampNeg e) 1) (a.1 28) U.1 U.2 (a.2.2.1 (Int32.toNatClampNeg e) 2) (P.2.2.2.2.2.2.2.2.2.2.1 (Int32.toNatClampNeg e)) (P.2.2.2.2.2.2.2.2.2.2.2.1 (Int32.toNatClampNeg e)) z1 z2 _ _ hz sz)
def g_X3_fillWith (P : PS) (e p1 : Int32) : Option PS := (f_X3_fillWith (P.2.2.2.2.2.1 (Int32.toNatClampNeg e)) (P.2.2.2.2.2.2.1 (Int32.toNatClampNeg e)) p1).map (fun z => (P.1, P.2.1, P.2.2.1, P.2.2.2.1, P.2.2.2.2.1, (va_up P.2.2.2.2.2.1 (Int32.toNatClampNeg e) z.1), (va_up P.2.2.2.2.2.2.1 (Int32.toNatClampNeg e) z.2), P.2.2.2.2.2.2.2.1, P.2.2.2.2.2.2.2.2.1, P.2.2.2.2.2.2.2.2.2.1, P.2.2.2.2.2.2.2.2.2.2.1, P.2.2.2.2.2.2.2.2.2.2.2.1, P.2.2.2.2.2.2.2.2.2.2.2.2.1, P.2.2.2.2.2.2.2.2.2.2.2.2.2))
set_option maxHeartbeats 1000000 in
set_option maxRecDepth 100000 in
theorem K_X3_fillWith (l : Launch) (hfl : l.stackTraces = false) (G : GC) (a : AS) (T : TS) (F : FS) (U : US) (S : SS) (D : DS) (R : RS) (M : MS) (N : NS) (P : PS) (e p1 : Int32) (hg : gix D e = true) (P9 : PS) (hm : g_X3_fillWith P e p1 = some P9) (sz : Nat) : Met l yX3_fillWith (Cond.code yX3_fillWith cX3_fillWith 2 none :: W0) ({ frames := 0, cells := 0, slots := 0, locals := 0 }) (va_Pc [.ref (a.2.2.1 (Int32.toNatClampNeg e) 0), .int p1] (WD G (wC G a T F U S D R M N P) sz)) (va_Qv (fun _ : Unit => True) (fun _ t => PW G (va_A (wC G a T F U S D R M N P) sz) (wC G a T F U S D R M N P9) t) (va_A (wC G a T F U S D R M N P) sz)) 0 0 (va_A (wC G a T F U S D R M N P) sz) := by
  obtain ⟨z, hz, he⟩ := Option.map_eq_some_iff.mp hm
  obtain rfl := he
  obtain ⟨B, hB⟩ := open_C (G := G) (a := a) (T := T) (F := F) (U := U) (S := S) (R := R) (M := M) (N := N) (P := P) (gix_lt hg)
  have hX := hB P (fun _ _ => rfl) (fun _ => rfl)
  have hX1 := hB (P.1, P.2.1, P.2.2.1, P.2.2.2.1, P.2.2.2.2.1, (va_up P.2.2.2.2.2.1 (Int32.toNatClampNeg e) z.1), (va_up P.2.2.2.2.2.2.1 (Int32.toNatClampNeg e) z.2), P.2.2.2.2.2.2.2.1, P.2.2.2.2.2.2.2.2.1, P.2.2.2.2.2.2.2.2.2.1, P.2.2.2.2.2.2.2.2.2.2.1, P.2.2.2.2.2.2.2.2.2.2.2.1, P.2.2.2.2.2.2.2.2.2.2.2.2.1, P.2.2.2.2.2.2.2.2.2.2.2.2.2) (fun j hj => by simp only [gcells, va_up_ne _ _ hj]) (fun _ => rfl)
  simp only [gcells, va_up_self] at hX hX1
  exact frame_v (wc := [_]) (w1 := [_]) hX hX1 (k_X3_fillWith l hfl G (a.2.2.1 (Int32.toNatClampNeg e) 0) p1 (P.2.2.2.1 (Int32.toNatClampNeg e)) (a.2.2.1 (Int32.toNatClampNeg e) 1) (P.2.2.2.2.1 (Int32.toNatClampNeg e)) (a.2.2.1 (Int32.toNatClampNeg e) 3) (P.2.2.2.2.2.1 (Int32.toNatClampNeg e)) (P.2.2.2.2.2.2.1 (Int32.toNatClampNeg e)) (P.2.2.2.2.2.2.2.1 (Int32.toNatClampNeg e)) (P.2.2.2.2.2.2.2.2.1 (Int32.toNatClampNeg e)) z.1 z.2 hz sz)
def g_X3_open (P : PS) (e : Int32) : Option PS := (f_X3_open (P.2.2.2.2.2.1 (Int32.toNatClampNeg e)) (P.2.2.2.2.2.2.1 (Int32.toNatClampNeg e))).map (fun z => (P.1, P.2.1, P.2.2.1, P.2.2.2.1, P.2.2.2.2.1, (va_up P.2.2.2.2.2.1 (Int32.toNatClampNeg e) z.1), (va_up P.2.2.2.2.2.2.1 (Int32.toNatClampNeg e) z.2), P.2.2.2.2.2.2.2.1, P.2.2.2.2.2.2.2.2.1, P.2.2.2.2.2.2.2.2.2.1, P.2.2.2.2.2.2.2.2.2.2.1, P.2.2.2.2.2.2.2.2.2.2.2.1, P.2.2.2.2.2.2.2.2.2.2.2.2.1, P.2.2.2.2.2.2.2.2.2.2.2.2.2))
set_option maxHeartbeats 1000000 in
set_option maxRecDepth 100000 in
theorem K_X3_open (l : Launch) (hfl : l.stackTraces = false) (G : GC) (a : AS) (T : TS) (F : FS) (U : US) (S : SS) (D : DS) (R : RS) (M : MS) (N : NS) (P : PS) (e : Int32) (hg : gix D e = true) (P9 : PS) (hm : g_X3_open P e = some P9) (sz : Nat) : Met l yX3_open (Cond.code yX3_open cX3_open 1 none :: W0) ({ frames := 0, cells := 0, slots := 0, locals := 0 }) (va_Pc [.ref (a.2.2.1 (Int32.toNatClampNeg e) 0)] (WD G (wC G a T F U S D R M N P) sz)) (va_Qv (fun _ : Unit => True) (fun _ t => PW G (va_A (wC G a T F U S D R M N P) sz) (wC G a T F U S D R M N P9) t) (va_A (wC G a T F U S D R M N P) sz)) 0 0 (va_A (wC G a T F U S D R M N P) sz) := by
  obtain ⟨z, hz, he⟩ := Option.map_eq_some_iff.mp hm
  obtain rfl := he
  obtain ⟨B, hB⟩ := open_C (G := G) (a := a) (T := T) (F := F) (U := U) (S := S) (R := R) (M := M) (N := N) (P := P) (gix_lt hg)
  have hX := hB P (fun _ _ => rfl) (fun _ => rfl)
  have hX1 := hB (P.1, P.2.1, P.2.2.1, P.2.2.2.1, P.2.2.2.2.1, (va_up P.2.2.2.2.2.1 (Int32.toNatClampNeg e) z.1), (va_up P.2.2.2.2.2.2.1 (Int32.toNatClampNeg e) z.2), P.2.2.2.2.2.2.2.1, P.2.2.2.2.2.2.2.2.1, P.2.2.2.2.2.2.2.2.2.1, P.2.2.2.2.2.2.2.2.2.2.1, P.2.2.2.2.2.2.2.2.2.2.2.1, P.2.2.2.2.2.2.2.2.2.2.2.2.1, P.2.2.2.2.2.2.2.2.2.2.2.2.2) (fun j hj => by simp only [gcells, va_up_ne _ _ hj]) (fun _ => rfl)
  simp only [gcells, va_up_self] at hX hX1
  exact frame_v (wc := [_]) (w1 := [_]) hX hX1 (k_X3_open l hfl G (a.2.2.1 (Int32.toNatClampNeg e) 0) (P.2.2.2.1 (Int32.toNatClampNeg e)) (a.2.2.1 (Int32.toNatClampNeg e) 1) (P.2.2.2.2.1 (Int32.toNatClampNeg e)) (a.2.2.1 (Int32.toNatClampNeg e) 3) (P.2.2.2.2.2.1 (Int32.toNatClampNeg e)) (P.2.2.2.2.2.2.1 (Int32.toNatClampNeg e)) (P.2.2.2.2.2.2.2.1 (Int32.toNatClampNeg e)) (P.2.2.2.2.2.2.2.2.1 (Int32.toNatClampNeg e)) z.1 z.2 hz sz)
def g_X3_splitInto (P : PS) (e p1 p2 : Int32) : Option PS := (f_X3_splitInto (P.2.2.2.2.2.1 (Int32.toNatClampNeg e)) (P.2.2.2.2.2.2.2.1 (Int32.toNatClampNeg e)) (P.2.2.2.2.2.2.2.2.1 (Int32.toNatClampNeg e)) p1 p2).map (fun z => (P.1, P.2.1, P.2.2.1, P.2.2.2.1, P.2.2.2.2.1, (va_up P.2.2.2.2.2.1 (Int32.toNatClampNeg e) z.1), P.2.2.2.2.2.2.1, (va_up P.2.2.2.2.2.2.2.1 (Int32.toNatClampNeg e) z.2.1), (va_up P.2.2.2.2.2.2.2.2.1 (Int32.toNatClampNeg e) z.2.2), P.2.2.2.2.2.2.2.2.2.1, P.2.2.2.2.2.2.2.2.2.2.1, P.2.2.2.2.2.2.2.2.2.2.2.1, P.2.2.2.2.2.2.2.2.2.2.2.2.1, P.2.2.2.2.2.2.2.2.2.2.2.2.2))
set_option maxHeartbeats 1000000 in
set_option maxRecDepth 100000 in
theorem K_X3_splitInto (l : Launch) (hfl : l.stackTraces = false) (G : GC) (a : AS) (T : TS) (F : FS) (U : US) (S : SS) (D : DS) (R : RS) (M : MS) (N : NS) (P : PS) (e p1 p2 : Int32) (hg : gix D e = true) (P9 : PS) (hm : g_X3_splitInto P e p1 p2 = some P9) (sz : Nat) : Met l yX3_splitInto (Cond.code yX3_splitInto cX3_splitInto 3 none :: W0) ({ frames := 0, cells := 0, slots := 0, locals := 0 }) (va_Pc [.ref (a.2.2.1 (Int32.toNatClampNeg e) 0), .int p1, .int p2] (WD G (wC G a T F U S D R M N P) sz)) (va_Qv (fun _ : Unit => True) (fun _ t => PW G (va_A (wC G a T F U S D R M N P) sz) (wC G a T F U S D R M N P9) t) (va_A (wC G a T F U S D R M N P) sz)) 0 0 (va_A (wC G a T F U S D R M N P) sz) := by
  obtain ⟨z, hz, he⟩ := Option.map_eq_some_iff.mp hm
  obtain rfl := he
  obtain ⟨B, hB⟩ := open_C (G := G) (a := a) (T := T) (F := F) (U := U) (S := S) (R := R) (M := M) (N := N) (P := P) (gix_lt hg)
  have hX := hB P (fun _ _ => rfl) (fun _ => rfl)
  have hX1 := hB (P.1, P.2.1, P.2.2.1, P.2.2.2.1, P.2.2.2.2.1, (va_up P.2.2.2.2.2.1 (Int32.toNatClampNeg e) z.1), P.2.2.2.2.2.2.1, (va_up P.2.2.2.2.2.2.2.1 (Int32.toNatClampNeg e) z.2.1), (va_up P.2.2.2.2.2.2.2.2.1 (Int32.toNatClampNeg e) z.2.2), P.2.2.2.2.2.2.2.2.2.1, P.2.2.2.2.2.2.2.2.2.2.1, P.2.2.2.2.2.2.2.2.2.2.2.1, P.2.2.2.2.2.2.2.2.2.2.2.2.1, P.2.2.2.2.2.2.2.2.2.2.2.2.2) (fun j hj => by simp only [gcells, va_up_ne _ _ hj]) (fun _ => rfl)
  simp only [gcells, va_up_self] at hX hX1
  exact frame_v (wc := [_]) (w1 := [_]) hX hX1 (k_X3_splitInto l hfl G (a.2.2.1 (Int32.toNatClampNeg e) 0) p1 p2 (P.2.2.2.1 (Int32.toNatClampNeg e)) (a.2.2.1 (Int32.toNatClampNeg e) 1) (P.2.2.2.2.1 (Int32.toNatClampNeg e)) (a.2.2.1 (Int32.toNatClampNeg e) 3) (P.2.2.2.2.2.1 (Int32.toNatClampNeg e)) (P.2.2.2.2.2.2.1 (Int32.toNatClampNeg e)) (P.2.2.2.2.2.2.2.1 (Int32.toNatClampNeg e)) (P.2.2.2.2.2.2.2.2.1 (Int32.toNatClampNeg e)) z.1 z.2.1 z.2.2 hz sz)
