def STRS : List (String × Nat × String) := [("TelescopeCourt", 342, "no such node"), ("TelescopeCourt", 347, "no such function"), ("TelescopeCourt", 72, "a level is 0 to 3"), ("TelescopeCourt", 333, "there are 250 nodes"), ("TelescopeCourt", 81, "an index is 0 to 15"), ("TelescopeCourt", 335, "there are 250 nodes, or this one would be too large"), ("TelescopeCourt", 93, "no such data type"), ("TelescopeCourt", 99, "no such constructor"), ("TelescopeCourt", 111, "there are 6 data types"), ("TelescopeCourt", 118, "a constructor takes 0 to 3 arguments"), ("TelescopeCourt", 129, "no more constructors for this data type"), ("TelescopeCourt", 355, "there is no such term"), ("TelescopeCourt", 160, "the term has no level"), ("TelescopeCourt", 176, "no function can be declared with this type"), ("TelescopeCourt", 184, "there are 8 functions or 40 goals"), ("TelescopeCourt", 349, "no such goal"), ("TelescopeCourt", 351, "no such place in the context"), ("TelescopeCourt", 207, "the goal is not open, or there would be too much of it"), ("TelescopeCourt", 213, "no data type, or a normal form is not there"), ("TelescopeCourt", 353, "the goal is not open"), ("TelescopeCourt", 236, "no right side for this goal"), ("TelescopeCourt", 248, "no variable has the type of the goal"), ("TelescopeCourt", 261, "the goal is not filled, or its function is accepted"), ("TelescopeCourt", 272, "the function is accepted, or has open goals"), ("TelescopeCourt", 293, "the function does not come to an end")]
def NCS : List (String × String) := [("java/lang/IllegalArgumentException", "java/lang/IllegalStateException"), ("java/lang/IllegalArgumentException", "java/lang/IndexOutOfBoundsException"), ("java/lang/IllegalArgumentException", "java/util/NoSuchElementException"), ("java/lang/IllegalArgumentException", "java/lang/UnsupportedOperationException"), ("java/lang/IllegalStateException", "java/lang/IllegalArgumentException"), ("java/lang/IllegalStateException", "java/lang/IndexOutOfBoundsException"), ("java/lang/IllegalStateException", "java/util/NoSuchElementException"), ("java/lang/IllegalStateException", "java/lang/UnsupportedOperationException"), ("java/lang/IndexOutOfBoundsException", "java/lang/IllegalArgumentException"), ("java/lang/IndexOutOfBoundsException", "java/lang/IllegalStateException"), ("java/lang/IndexOutOfBoundsException", "java/util/NoSuchElementException"), ("java/lang/IndexOutOfBoundsException", "java/lang/UnsupportedOperationException"), ("java/util/NoSuchElementException", "java/lang/IllegalArgumentException"), ("java/util/NoSuchElementException", "java/lang/IllegalStateException"), ("java/util/NoSuchElementException", "java/lang/IndexOutOfBoundsException"), ("java/util/NoSuchElementException", "java/lang/UnsupportedOperationException"), ("java/lang/UnsupportedOperationException", "java/lang/IllegalArgumentException"), ("java/lang/UnsupportedOperationException", "java/lang/IllegalStateException"), ("java/lang/UnsupportedOperationException", "java/lang/IndexOutOfBoundsException"), ("java/lang/UnsupportedOperationException", "java/util/NoSuchElementException")]
def NWk : Cond → Bool
  | .fieldLinkNest .. => true
  | .methodLinkNest .. => true
  | .castable .. => true
  | .declares .. => true
  | _ => false
def W0 : List Cond := lw_tbl.filter goodWord
def NW : List Cond := lw_tbl.filter NWk
theorem wm_of {w : Cond} (i : Nat) (h : tables_1[i]? = some w) (hg : goodWord w = true) : w ∈ W0 := List.mem_filter.mpr ⟨List.mem_append_right _ (List.mem_of_getElem? h), hg⟩
theorem nw_of {w : Cond} (i : Nat) (h : tables_1[i]? = some w) (hg : NWk w = true) : w ∈ NW := List.mem_filter.mpr ⟨List.mem_append_right _ (List.mem_of_getElem? h), hg⟩
theorem wms_of {q : MethodName × Nat} (i : Nat) (h : lw_privs[i]? = some q) : Cond.selects q.1.cls q.1 q.1 ∈ W0 := List.mem_filter.mpr ⟨List.mem_append_left _ (List.mem_map.mpr ⟨q, List.mem_of_getElem? h, rfl⟩), rfl⟩
theorem nw_tab {w : Cond} (h : NWk w = true) : w.onTables = true := by
  cases w <;> first | rfl | (cases h; done)
theorem nw_warm {w : Cond} (hk : NWk w = true) {s U : State} (hW : s.WarmedH U.vm) (h : va_Nw w s) : va_Nw w U := by
  cases w <;> first | exact va_Nw.warmF hW h | exact va_Nw.warmM hW h | exact va_Nw.warmC hW h | exact va_Nw.warmD hW h | (cases hk; done)
theorem w0g {w : Cond} (h : w ∈ W0) : w ∈ W0 ∧ ((w.onTables && w.keeps) = true ∨ ∃ ty, w = .arrayClass ty) := ⟨h, good_of_word (List.mem_filter.mp h).2⟩
theorem gC {c0 : Cond} (h5 : c0 ∈ W0) : GoodIn W0 (c0 :: W0) := fun w hw => (List.mem_cons.mp hw).elim (fun e => w0g (e ▸ h5)) w0g
theorem gL4 {a b c d c0 : Cond} (h1 : a ∈ W0) (h2 : b ∈ W0) (h3 : c ∈ W0) (h4 : d ∈ W0) (h5 : c0 ∈ W0) : GoodIn W0 (([a, b, c, d] : List Cond) ++ (c0 :: W0)) := fun w hw => (List.mem_append.mp hw).elim (fun h => w0g (by
  simp only [List.mem_cons, List.not_mem_nil, or_false] at h
  rcases h with rfl | rfl | rfl | rfl <;> assumption)) (fun h => gC h5 w h)
theorem gL3 {a b c c0 : Cond} (h1 : a ∈ W0) (h2 : b ∈ W0) (h3 : c ∈ W0) (h5 : c0 ∈ W0) : GoodIn W0 (([a, b, c] : List Cond) ++ (c0 :: W0)) := fun w hw => (List.mem_append.mp hw).elim (fun h => w0g (by
  simp only [List.mem_cons, List.not_mem_nil, or_false] at h
  rcases h with rfl | rfl | rfl <;> assumption)) (fun h => gC h5 w h)
theorem gV {own C : String} {idx : Nat} {y : MethodName} {c0 : Cond} (h1 : Cond.methodLink own idx y ∈ W0) (h2 : Cond.instanceMethod y ∈ W0) (h3 : Cond.selects C y y ∈ W0) (h4 : Cond.initialized C ∈ W0) (h5 : c0 ∈ W0) : GoodIn W0 (wsV own idx C y (c0 :: W0)) := gL4 h1 h2 h3 h4 h5
theorem gS {own : String} {idx : Nat} {y : MethodName} {c0 : Cond} (h1 : Cond.methodLink own idx y ∈ W0) (h2 : Cond.static y ∈ W0) (h4 : Cond.initialized own ∈ W0) (h5 : c0 ∈ W0) : GoodIn W0 (wsS own idx y (c0 :: W0)) := gL3 h1 h2 h4 h5
theorem gSW {own : String} {idx : Nat} {y : MethodName} {c0 : Cond} (h1 : Cond.methodLink own idx y ∈ W0) (h2 : Cond.static y ∈ W0) (h4 : Cond.initialized y.cls ∈ W0) (h5 : c0 ∈ W0) : GoodIn W0 (va_wsS own idx y (c0 :: W0)) := gL3 h1 h2 h4 h5
theorem gF {own C : String} {idx : Nat} {x y : MethodName} {c0 : Cond} (h1 : Cond.methodLink own idx x ∈ W0) (h2 : Cond.selects C x y ∈ W0) (h3 : Cond.instanceMethod y ∈ W0) (h4 : Cond.initialized y.cls ∈ W0) (h5 : c0 ∈ W0) : GoodIn W0 (va_wsF own idx C x y (c0 :: W0)) := gL4 h1 h2 h3 h4 h5
theorem w0_tail {c0 : Cond} {rm : Room} {args : Array Value} {s : State} (h : (headSpec (c0 :: W0) rm).pre.before args s = true) : ∀ w ∈ W0, w.before args s = true := fun w hw => atoms_spec (ws := c0 :: W0) h w (List.mem_cons_of_mem _ hw)
/-- what the methods take as given beside the tables' words: the worlds' classes, the classes of the arrays -/
abbrev GC : Type := va_G × (Nat → ClassId)
abbrev DG (G : GC) : va_G := G.1
abbrev cyA (G : GC) (k : Nat) : ClassId := G.2 k
abbrev TY (G : GC) : List (ClassId × FieldType) := [(cyA G 0, .int), (cyA G 1, .boolean), (cyA G 2, .object "TelescopeCourt$Function"), (cyA G 3, .object "TelescopeCourt$Goal")]
def AOS : List String := ["TelescopeCourt$Function", "TelescopeCourt$Goal"]
theorem ao0 : "TelescopeCourt$Function" ∈ AOS := by simp [AOS]
theorem ao1 : "TelescopeCourt$Goal" ∈ AOS := by simp [AOS]
def sa_0 : Nat → Int32 := fun j => match j with | 0 => 3 | 1 => 11 | 2 => 101 | 3 => 201 | _ => 301
def sa_1 : Nat → Int32 := fun j => match j with | 0 => 7 | 1 => 11 | _ => 29
def sa_2 : Nat → Int32 := fun j => match j with | 0 => 13 | 1 => 19 | _ => 31
def sa_3 : Nat → Int32 := fun j => match j with | 0 => 17 | 1 => 23 | _ => 37
def SAs : List (String × Nat × (Nat → Int32)) := [("NUMBER_OF_LEAF", 5, sa_0), ("FACTOR_OF_FIRST", 3, sa_1), ("FACTOR_OF_SECOND", 3, sa_2), ("ADDED_TO_PAIR", 3, sa_3)]
def EV (G : GC) (A : Nat → Prop) (U : State) (H : Heap) : Prop :=
  (∀ w ∈ NW, va_Nw w U) ∧ (∀ q ∈ STRS, ∃ sa, vk_R q.1 q.2.1 q.2.2 sa U) ∧ (∀ q ∈ NCS, va_Nc q.1 q.2 U) ∧ (∀ q ∈ AOS, va_AO q U) ∧
  vx_Zq Bundle.tN "UNASSIGNED_STACK" Bundle.steD A U H ∧ vx_Zq Bundle.tN "SUPPRESSED_SENTINEL" Bundle.listD A U H ∧
  (∀ q ∈ SAs, ∃ n : Nat, va_Z "TelescopeCourt" q.1 "[I" (.ref n) A U H ∧ va_T .int n q.2.1 (fun j => .int (q.2.2 j)) A U H)
theorem EV.go {G : GC} {A A' : Nat → Prop} {s U : State} {H : Heap} {locs : List Loc} (h : EV G A s s.heap) (hS : va_S A s.heap H locs) (hA : ∀ q, A' q → A q) (hW : s.WarmedH U.vm) : EV G A' U H := by
  obtain ⟨h1, h2, h3, h4, h5, h6, h7⟩ := h
  refine ⟨fun w hw => nw_warm (List.mem_filter.mp hw).2 hW (h1 w hw), fun q hq => ?_, fun q hq => va_Nc.moved hW.alike (h3 q hq), fun q hq => va_AO.moved hW.alike (h4 q hq), vx_Zq.moved hW.alike ((h5.kept hS.2.1).narrow hA), vx_Zq.moved hW.alike ((h6.kept hS.2.1).narrow hA), fun q hq => ?_⟩
  · obtain ⟨sa, hsa⟩ := h2 q hq
    exact ⟨sa, vk_R.warm hW hsa⟩
  · obtain ⟨n, e1, e2⟩ := h7 q hq
    exact ⟨n, va_Z.moved hW.alike ((e1.kept hS.2.1).narrow hA), va_T.moved hW.alike ((e2.kept hS.2.1).narrow hA)⟩
theorem EV.same {G : GC} {A : Nat → Prop} {u U : State} {H : Heap} (hv : u.vm = U.vm) (h : EV G A u H) : EV G A U H := by
  have ha : u.vm.Alike U.vm := by rw [hv]; exact Vm.Alike.refl _
  obtain ⟨h1, h2, h3, h4, h5, h6, h7⟩ := h
  refine ⟨fun w hw => va_Nw.same (nw_tab (List.mem_filter.mp hw).2) hv (h1 w hw), fun q hq => ?_, fun q hq => va_Nc.moved ha (h3 q hq), fun q hq => va_AO.moved ha (h4 q hq), vx_Zq.moved ha h5, vx_Zq.moved ha h6, fun q hq => ?_⟩
  · obtain ⟨sa, hsa⟩ := h2 q hq
    exact ⟨sa, vk_R.same hv.symm hsa⟩
  · obtain ⟨n, e1, e2⟩ := h7 q hq
    exact ⟨n, va_Z.moved ha e1, va_T.moved ha e2⟩
theorem EV.un {G : GC} {A : Nat → Prop} {U : State} {H : Heap} (h : EV G A U H) : vx_Zq Bundle.tN "UNASSIGNED_STACK" Bundle.steD A U H := h.2.2.2.2.1
theorem EV.su {G : GC} {A : Nat → Prop} {U : State} {H : Heap} (h : EV G A U H) : vx_Zq Bundle.tN "SUPPRESSED_SENTINEL" Bundle.listD A U H := h.2.2.2.2.2.1
theorem EV.s0 {G : GC} {A : Nat → Prop} {U : State} {H : Heap} (h : EV G A U H) : ∃ n : Nat, va_Z "TelescopeCourt" "NUMBER_OF_LEAF" "[I" (.ref n) A U H ∧ va_T .int n 5 (fun j => .int (sa_0 j)) A U H := h.2.2.2.2.2.2 ("NUMBER_OF_LEAF", 5, sa_0) (List.mem_of_getElem? (i := 0) rfl)
theorem EV.s1 {G : GC} {A : Nat → Prop} {U : State} {H : Heap} (h : EV G A U H) : ∃ n : Nat, va_Z "TelescopeCourt" "FACTOR_OF_FIRST" "[I" (.ref n) A U H ∧ va_T .int n 3 (fun j => .int (sa_1 j)) A U H := h.2.2.2.2.2.2 ("FACTOR_OF_FIRST", 3, sa_1) (List.mem_of_getElem? (i := 1) rfl)
theorem EV.s2 {G : GC} {A : Nat → Prop} {U : State} {H : Heap} (h : EV G A U H) : ∃ n : Nat, va_Z "TelescopeCourt" "FACTOR_OF_SECOND" "[I" (.ref n) A U H ∧ va_T .int n 3 (fun j => .int (sa_2 j)) A U H := h.2.2.2.2.2.2 ("FACTOR_OF_SECOND", 3, sa_2) (List.mem_of_getElem? (i := 2) rfl)
theorem EV.s3 {G : GC} {A : Nat → Prop} {U : State} {H : Heap} (h : EV G A U H) : ∃ n : Nat, va_Z "TelescopeCourt" "ADDED_TO_PAIR" "[I" (.ref n) A U H ∧ va_T .int n 3 (fun j => .int (sa_3 j)) A U H := h.2.2.2.2.2.2 ("ADDED_TO_PAIR", 3, sa_3) (List.mem_of_getElem? (i := 3) rfl)
def WD (G : GC) (ws : va_W) (sz : Nat) (U : State) : Prop := U.heap.size = sz ∧ va_P (DG G) clP3 ws U.heap ∧ va_K (DG G) clP3 (TY G) U ∧ va_D (fun _ => True) ws ∧ EV G (va_A ws sz) U U.heap
abbrev PW (G : GC) (A : Nat → Prop) (ws : va_W) (t : State) : Prop := va_P (DG G) clP3 ws t.heap ∧ va_D A ws
theorem pre_s {G : GC} {s : State} {H : Heap} {A : Nat → Prop} {locs : List Loc} {ws wc : va_W} {av : List Value} (hK : va_K (DG G) clP3 (TY G) s) (hP : va_P (DG G) clP3 ws H) (hD : va_D A ws) (hS : va_S A s.heap H locs) (hE : EV G A s s.heap) (is : List Nat) (h1 : is.filterMap (fun i => ws[i]?) = wc) (h2 : is.map (fun i => ws[i]?) = wc.map some) (hn : va_nd is = true) (hF : ∀ q, va_A wc H.size q → A q) : PreS s H (va_Pc av (WD G wc H.size)) av :=
  ⟨fun a U g mk q => ⟨q.1, q.2.1, q.2.2.1, va_K.moved (u := U) (U := U.calling g mk a) (Vm.Alike.refl U.vm) q.2.2.2.1, q.2.2.2.2.1, EV.same (u := U) (U := U.calling g mk a) rfl q.2.2.2.2.2⟩,
   fun U hU hW => ⟨rfl, by rw [hU], by rw [hU]; exact hP.sub is h1, va_K.moved hW.alike hK, (hD.sub is hn h2).weaken (fun _ _ _ _ => trivial), by rw [hU]; exact hE.go hS hF hW⟩⟩
theorem pre_v {s : State} {H : Heap} {Pc : Array Value → State → Prop} {b : Addr} {As : List Value} {C : String} (h : PreS s H Pc (.ref b :: As)) (r : ∃ cell : Cell, H[b]? = some cell ∧ cell.vm.isStatics = false ∧ s.vm.findClass C = some cell.cls) : PreV s H C b Pc As := ⟨h.1, r, h.2⟩
theorem ra_eq {U : State} {c1 c2 : ClassId} {ty : FieldType} (h1 : va_RA U c1 ty) (h2 : va_RA U c2 ty) : c1 = c2 := by
  cases ty with
  | object C =>
    obtain ⟨-, -, -, -, -, e1⟩ := h1
    obtain ⟨-, -, -, -, -, e2⟩ := h2
    exact Option.some.inj (e1.symm.trans e2)
  | _ =>
    have e1 : U.vm.findClass _ = some c1 := h1
    have e2 : U.vm.findClass _ = some c2 := h2
    exact Option.some.inj (e1.symm.trans e2)
section MYN
variable {p : Program} {l : Launch} {e : Env} {R : Room} {s : State} {m : MethodId} {args : Array Value} {below : List Frame} {meth : Method} {c : Code} {H : Heap} {locs : List Loc} {cells slots : Nat} {Q : State → Prop}
variable {cc : ByteArray} {pc : Nat} {ls : Array Slot} {rest : List Value} {D : va_G} {cl : List vw_C} {A : Nat → Prop} {tys : List (ClassId × FieldType)} {ws : va_W} {H0 : Heap}
theorem my_newa (hexec : p.tables.exec = Jvm.exec) (hb : c.code = cc) {atype : ArrayType} (harr : (Cond.arrayClass (newarray.typeOf atype)).before args s = true) {ty : FieldType} (hty : newarray.typeOf atype = ty) {cA : ClassId} (t1 : Nat) (t0 : tys[t1]? = some (cA, ty)) (hK : va_K D cl tys s) (hP : va_P D cl ws H) (hD : va_D A ws) (hS : va_S A H0 H locs) (hA : ∀ q, H0.size ≤ q → A q)
    {n : Int32} {N' : Nat} {a0 : vp_A} (ha : ∀ cA : ClassId, vp_cell cA a0 = arrV cA N' (fun _ => defaultValue ty)) (hn : ¬ n < 0) (hN : n.toNatClampNeg = N') (hbytes : N' * componentBytes ty ≤ 536870912) (hcells : cells + 1 ≤ R.cells) (hslots : slots + N' ≤ R.slots) (hdg : decode cc pc = .ok (.newarray atype, 2))
    (kk : ∀ (q : Nat) (H1 : Heap), va_P D cl (ws ++ [(q, .inl (cA, a0))]) H1 → va_D A (ws ++ [(q, .inl (cA, a0))]) → va_S A H0 H1 locs →
      W p l e R s m args below meth c H1 locs (cells + 1) (slots + N') Q (F0 m (pc + 2) ls (.ref q :: rest))) : W p l e R s m args below meth c H locs cells slots Q (F0 m pc ls (.int n :: rest)) := by
  refine va_newa hexec hb harr hty hK hP hD hS hA ha hn hN hbytes hcells hslots hdg (fun q cB H1 hK2 hP2 hD2 hS2 => ?_)
  have e9 : cB = cA := ra_eq (hK2.2 tys.length (cB, ty) (by simp)).2 (hK.2 t1 (cA, ty) t0).2
  subst e9
  exact kk q H1 hP2 hD2 hS2
theorem my_newq (hexec : p.tables.exec = Jvm.exec) (hb : c.code = cc) {own C : String} {index : Nat} (hown : s.vm.findClass own = some m.cls) (hclink : (Cond.classLink own index C).before args s = true) (hover : va_AO C s) {cA : ClassId} (t1 : Nat) (t0 : tys[t1]? = some (cA, .object C)) (hK : va_K D cl tys s) (hP : va_P D cl ws H) (hD : va_D A ws) (hS : va_S A H0 H locs) (hA : ∀ q, H0.size ≤ q → A q)
    {n : Int32} {N' : Nat} (hn : ¬ n < 0) (hN : n.toNatClampNeg = N') (hbytes : N' * 4 ≤ 536870912) (hcells : cells + 1 ≤ R.cells) (hslots : slots + N' ≤ R.slots) (hdg : decode cc pc = .ok (.anewarray index, 3))
    (kk : ∀ (q : Nat) (H1 : Heap), va_P D cl (ws ++ [(q, .inl (cA, N', .inr (.inr (.inr (.inr (fun _ => none))))))]) H1 → va_D A (ws ++ [(q, .inl (cA, N', .inr (.inr (.inr (.inr (fun _ => none))))))]) → va_S A H0 H1 locs →
      W p l e R s m args below meth c H1 locs (cells + 1) (slots + N') Q (F0 m (pc + 3) ls (.ref q :: rest))) : W p l e R s m args below meth c H locs cells slots Q (F0 m pc ls (.int n :: rest)) := by
  refine va_newq hexec hb hown hclink hover hK hP hD hS hA hn hN hbytes hcells hslots hdg (fun q cB H1 hK2 hP2 hD2 hS2 => ?_)
  have e9 : cB = cA := ra_eq (hK2.2 tys.length (cB, .object C) (by simp)).2 (hK.2 t1 (cA, .object C) t0).2
  subst e9
  exact kk q H1 hP2 hD2 hS2
end MYN
theorem i_lt {x y : Int32} (h : x < y) : x.toInt < y.toInt := Int32.lt_iff_toInt_lt.mp h
theorem i_nlt {x y : Int32} (h : ¬ x < y) : y.toInt ≤ x.toInt := Int.not_lt.mp (fun q => h (Int32.lt_iff_toInt_lt.mpr q))
theorem i_le {x y : Int32} (h : x ≤ y) : x.toInt ≤ y.toInt := Int32.le_iff_toInt_le.mp h
theorem i_nle {x y : Int32} (h : ¬ x ≤ y) : y.toInt < x.toInt := Int.not_le.mp (fun q => h (Int32.le_iff_toInt_le.mpr q))
theorem i_eq {x y : Int32} (h : x = y) : x.toInt = y.toInt := by rw [h]
theorem i_ne {x y : Int32} (h : ¬ x = y) : x.toInt ≠ y.toInt := fun q => h (Int32.toInt_inj.mp q)
theorem xF {A : Nat → Prop} {s t : State} {H : Heap} {locs : List Loc} (hS : va_S A s.heap H locs) (h1 : H.size ≤ t.heap.size) (h2 : ∀ q : Nat, q < H.size → t.heap[q]? = H[q]?) : va_F A s t := ⟨Nat.le_trans hS.1 h1, fun q hq hn => (h2 q (Nat.lt_of_lt_of_le hq hS.1)).trans (hS.2.1 q hq hn)⟩
theorem nilP {D : va_G} {cl : List vw_C} {H : Heap} : va_P D cl [] H := fun k q h => by simp at h
theorem nilD {A : Nat → Prop} : va_D A [] := ⟨fun i j p q h => by simp at h, fun k q h => by simp at h⟩
theorem xP0 {P : ExceptionTableEntry → Prop} : ∀ z ∈ tableOf [], P z := fun z h => by simp [tableOf] at h
theorem xPc {P : ExceptionTableEntry → Prop} {q : Nat × Nat × Nat × Nat} {r : List (Nat × Nat × Nat × Nat)} (h : P ⟨q.1, q.2.1, q.2.2.1, q.2.2.2⟩) (t : ∀ z ∈ tableOf r, P z) : ∀ z ∈ tableOf (q :: r), P z := fun z hz => (List.mem_cons.mp hz).elim (fun e => by rw [e]; exact h) (t z)
theorem x_hat_of {G : GC} {A : Nat → Prop} {H : Heap} {s : State} {args : Array Value} {L : List Cond} (hL : ∀ w ∈ L, w ∈ lw_tbl ∧ (goodWord w || NWk w) = true) (hts : ∀ w ∈ W0, w.before args s = true) (hE : EV G A s H) : ∀ w ∈ L, w.before args s = true := fun w hw => by
  obtain ⟨h1, h2⟩ := hL w hw
  cases hg : goodWord w with
  | true => exact hts w (List.mem_filter.mpr ⟨h1, hg⟩)
  | false =>
    rw [hg, Bool.false_or] at h2
    exact va_Nw.use (nw_tab h2) (hE.1 w (List.mem_filter.mpr ⟨h1, h2⟩))
/-- the checks of the functions that the methods are turned into -/
def inb (i : Int32) (n : Nat) : Bool := decide (0 ≤ i.toInt ∧ i.toInt < (n : Int))
theorem inb_vp {i : Int32} {n : Nat} (h : inb i n = true) : vp_in i n := by
  have h1 : 0 ≤ i.toInt ∧ i.toInt < (n : Int) := of_decide_eq_true h
  intro hq
  have h2 : i.toNatClampNeg = i.toInt.toNat := rfl
  rcases hq with hq | hq
  · have h3 := i_lt hq
    have h4 : (0 : Int32).toInt = 0 := by decide
    omega
  · omega
theorem ite_some {P : Prop} [Decidable P] {α : Type} {a : Option α} {z : α} (h : (if P then a else none) = some z) : P ∧ a = some z := by
  by_cases hp : P
  · exact ⟨hp, by rw [if_pos hp] at h; exact h⟩
  · rw [if_neg hp] at h; cases h
theorem bind_some {α β : Type} {o : Option α} {f : α → Option β} {z : β} (h : o.bind f = some z) : ∃ q, o = some q ∧ f q = some z := by
  cases o with
  | none => cases h
  | some q => exact ⟨q, rfl, h⟩

