/-! a contract over some cells, beside all others: the frame of a whole contract -/
theorem EV.narrow {G : GC} {A A' : Nat → Prop} {U : State} {H : Heap} (h : EV G A U H) (hA : ∀ q, A' q → A q) : EV G A' U H := by
  obtain ⟨h1, h2, h3, h4, h5, h6, h7⟩ := h
  exact ⟨h1, h2, h3, h4, h5.narrow hA, h6.narrow hA, fun q hq => by
    obtain ⟨n, e1, e2⟩ := h7 q hq
    exact ⟨n, e1.narrow hA, e2.narrow hA⟩⟩
theorem va_Amem {ws : va_W} {sz q : Nat} : va_A ws sz q ↔ (∃ p ∈ ws, p.1 = q) ∨ sz ≤ q := by
  constructor
  · rintro (⟨k, e, h⟩ | h)
    · exact Or.inl ⟨_, List.mem_of_getElem? h, rfl⟩
    · exact Or.inr h
  · rintro (⟨p, h, rfl⟩ | h)
    · obtain ⟨k, hk⟩ := List.mem_iff_getElem?.mp h
      exact Or.inl ⟨k, p.2, hk⟩
    · exact Or.inr h
theorem frame_w {G : GC} {wc w1 wr X X1 : va_W} {sz : Nat} {H H1 : Heap} (hX : X.Perm (wc ++ wr)) (hX1 : X1.Perm (w1 ++ wr)) (hsz : H.size = sz) (hP : va_P (DG G) clP3 X H) (hD : va_D (fun _ => True) X)
    (hk : ∀ q : Nat, q < H.size → ¬ va_A wc sz q → H1[q]? = H[q]?) (hP1 : va_P (DG G) clP3 w1 H1) (hD1 : va_D (va_A wc sz) w1) : va_P (DG G) clP3 X1 H1 ∧ va_D (va_A X sz) X1 := by
  have hD' := va_Dperm hD hX
  have hPr : va_P (DG G) clP3 wr H := va_Pmem hP (fun q hq => hX.mem_iff.mpr (List.mem_append_right _ hq))
  have hnot : ∀ q ∈ wr, q.1 < H.size ∧ ¬ va_A wc sz q.1 := by
    intro q hq
    obtain ⟨k, hk1⟩ := List.mem_iff_getElem?.mp hq
    have hl := (hPr k q hk1).lt
    refine ⟨hl, fun hz => ?_⟩
    rcases va_Amem.mp hz with ⟨p, hp, e⟩ | hz
    · exact va_Dcross hD' hp hq e
    · omega
  have hsub : ∀ q, va_A wc sz q → va_A X sz q := fun q h => va_Amem.mpr ((va_Amem.mp h).imp (fun ⟨p, hp, e⟩ => ⟨p, hX.mem_iff.mpr (List.mem_append_left _ hp), e⟩) id)
  have hPall : va_P (DG G) clP3 (w1 ++ wr) H1 := hP1.app (fun k q hq => by
    obtain ⟨g1, g2⟩ := hnot q (List.mem_of_getElem? hq)
    exact (hPr k q hq).kept (hk q.1 g1 g2))
  have hDr : va_D (va_A X sz) wr := (va_Dright hD').weaken (fun k q hq _ => va_Amem.mpr (Or.inl ⟨q, hX.mem_iff.mpr (List.mem_append_right _ (List.mem_of_getElem? hq)), rfl⟩))
  have hDall : va_D (va_A X sz) (w1 ++ wr) := va_Dapp (hD1.weaken (fun _ q _ h => hsub q.1 h)) hDr (fun p q hp hq he => by
    obtain ⟨k, hk1⟩ := List.mem_iff_getElem?.mp hp
    exact (hnot q hq).2 (by rw [← he]; exact hD1.2 k p hk1))
  exact ⟨va_Pmem hPall (fun q hq => hX1.mem_iff.mp hq), va_Dperm hDall hX1.symm⟩
theorem frame_WD {G : GC} {wc wr X : va_W} {sz : Nat} {U : State} (hX : X.Perm (wc ++ wr)) (h : WD G X sz U) : WD G wc sz U := by
  obtain ⟨h1, h2, h3, h4, h5⟩ := h
  exact ⟨h1, va_Pmem h2 (fun q hq => hX.mem_iff.mpr (List.mem_append_left _ hq)), h3, va_Dleft (va_Dperm h4 hX), h5.narrow (fun q hq => va_Amem.mpr ((va_Amem.mp hq).imp (fun ⟨p, hp, e⟩ => ⟨p, hX.mem_iff.mpr (List.mem_append_left _ hp), e⟩) id))⟩
theorem frame_A {wc wr X : va_W} {sz : Nat} (hX : X.Perm (wc ++ wr)) (q : Nat) (h : va_A wc sz q) : va_A X sz q := va_Amem.mpr ((va_Amem.mp h).imp (fun ⟨p, hp, e⟩ => ⟨p, hX.mem_iff.mpr (List.mem_append_left _ hp), e⟩) id)
theorem frame_i {l : Launch} {y : MethodName} {ws : List Cond} {rm : Room} {av : List Value} {G : GC} {wc w1 wr X X1 : va_W} {sz mc ms : Nat} {post : Int32 → Unit → Prop} (hX : X.Perm (wc ++ wr)) (hX1 : X1.Perm (w1 ++ wr))
    (h : Met l y ws rm (va_Pc av (WD G wc sz)) (va_Qi post (fun _ t => PW G (va_A wc sz) w1 t) (va_A wc sz)) mc ms (va_A wc sz)) : Met l y ws rm (va_Pc av (WD G X sz)) (va_Qi post (fun _ t => PW G (va_A X sz) X1 t) (va_A X sz)) mc ms (va_A X sz) := by
  intro p e hl hc1 hc2 s m args below hf happ hP hK
  obtain ⟨n, o, h1, h2, h3, ⟨⟨r, u, ho, hp, hb⟩, hF⟩, L, hfr, hL⟩ := h p e hl hc1 hc2 s m args below hf happ ⟨hP.1, frame_WD hX hP.2⟩ hK
  refine ⟨n, o, h1, h2, h3, ⟨⟨r, u, ho, hp, ?_⟩, hF.1, fun q g1 g2 => hF.2 q g1 (fun z => g2 (frame_A hX q z))⟩, L, hfr, fun q hq => frame_A hX _ (hL q hq)⟩
  exact frame_w hX hX1 hP.2.1 hP.2.2.1 hP.2.2.2.2.1 (fun q g1 g2 => hF.2 q g1 g2) hb.1 hb.2
theorem frame_v {l : Launch} {y : MethodName} {ws : List Cond} {rm : Room} {av : List Value} {G : GC} {wc w1 wr X X1 : va_W} {sz mc ms : Nat} {post : Unit → Prop} (hX : X.Perm (wc ++ wr)) (hX1 : X1.Perm (w1 ++ wr))
    (h : Met l y ws rm (va_Pc av (WD G wc sz)) (va_Qv post (fun _ t => PW G (va_A wc sz) w1 t) (va_A wc sz)) mc ms (va_A wc sz)) : Met l y ws rm (va_Pc av (WD G X sz)) (va_Qv post (fun _ t => PW G (va_A X sz) X1 t) (va_A X sz)) mc ms (va_A X sz) := by
  intro p e hl hc1 hc2 s m args below hf happ hP hK
  obtain ⟨n, o, h1, h2, h3, ⟨⟨u, ho, hp, hb⟩, hF⟩, L, hfr, hL⟩ := h p e hl hc1 hc2 s m args below hf happ ⟨hP.1, frame_WD hX hP.2⟩ hK
  refine ⟨n, o, h1, h2, h3, ⟨⟨u, ho, hp, ?_⟩, hF.1, fun q g1 g2 => hF.2 q g1 (fun z => g2 (frame_A hX q z))⟩, L, hfr, fun q hq => frame_A hX _ (hL q hq)⟩
  exact frame_w hX hX1 hP.2.1 hP.2.2.1 hP.2.2.2.2.1 (fun q g1 g2 => hF.2 q g1 g2) hb.1 hb.2
theorem perm_lit {X Y : va_W} {n : Nat} (is : List Nat) (hp : is.Perm (List.range n)) (hX : X.length = n) (h : is.map (fun i => X[i]?) = Y.map some) : X.Perm Y := by
  have h1 : (List.range n).map (fun i => X[i]?) = X.map some := by
    subst hX
    apply List.ext_getElem
    · simp
    · intro i h1 h2
      simp at h1
      simp [h1]
  have h2 : (X.map some).Perm (Y.map some) := by rw [← h1, ← h]; exact (hp.map _).symm
  have h3 := h2.filterMap id
  simpa using h3
theorem perm_tail {X Y Z P : va_W} (h : X.Perm (Y ++ Z)) : (X ++ P).Perm (Y ++ (Z ++ P)) := by rw [← List.append_assoc]; exact h.append_right P
/-! the court's whole world: addresses, and the numbers of each class -/
abbrev AS : Type := (Nat → Nat) × (Nat → Nat) × (Nat → Nat → Nat) × (Nat → Option Nat) × (Nat → Option Nat)
abbrev IA : Type := Nat → Int32
abbrev TS : Type := Int32 × IA × IA × IA × IA × IA × IA × IA × IA
abbrev FS : Type := Int32 × IA × IA
abbrev US : Type := Int32 × IA
abbrev SS : Type := Int32 × Int32 × IA × IA × IA × IA × IA × IA × IA
abbrev DS : Type := Int32 × Int32 × Int32
abbrev RS : Type := Int32 × Int32 × Int32 × Int32 × IA
abbrev MS : Type := IA × IA × IA × IA × Int32 × Int32 × Int32 × Int32 × Int32
abbrev NS : Type := IA × Int32 × Int64
abbrev PS : Type := IA × IA × IA × IA × IA × IA × IA × IA × IA × (Nat → Nat) × IA × (Nat → IA) × (Nat → Nat) × (Nat → IA)
def wX (G : GC) (a : AS) (T : TS) (F : FS) (U : US) (S : SS) (D : DS) (R : RS) (M : MS) (N : NS) : va_W :=
  [(a.1 0, .inr (10, [.ref (a.1 1), .ref (a.1 11), .ref (a.1 13), .ref (a.1 21), .ref (a.1 24), .ref (a.1 29), .ref (a.1 31), .ref (a.1 36), .int N.2.1, .long N.2.2])),
   (a.1 1, .inr (8, [.ref (a.1 2), .ref (a.1 3), .ref (a.1 4), .ref (a.1 5), .ref (a.1 6), .ref (a.1 7), .ref (a.1 8), .ref (a.1 9), .ref (a.1 10), .int T.1])),
   (a.1 2, .inl (cyA G 0, 32768, .inl T.2.1)), (a.1 3, .inl (cyA G 0, 32768, .inl T.2.2.1)), (a.1 4, .inl (cyA G 0, 32768, .inl T.2.2.2.1)), (a.1 5, .inl (cyA G 0, 32768, .inl T.2.2.2.2.1)), (a.1 6, .inl (cyA G 0, 32768, .inl T.2.2.2.2.2.1)), (a.1 7, .inl (cyA G 0, 32768, .inl T.2.2.2.2.2.2.1)), (a.1 8, .inl (cyA G 0, 32768, .inl T.2.2.2.2.2.2.2.1)), (a.1 9, .inl (cyA G 1, 32768, .inl T.2.2.2.2.2.2.2.2)), (a.1 10, .inl (cyA G 0, 32768, .inl F.2.2)),
   (a.1 11, .inr (1, [.ref (a.1 1), .ref (a.1 12), .int F.1])), (a.1 12, .inl (cyA G 0, 80, .inl F.2.1)),
   (a.1 13, .inr (6, [.ref (a.1 1), .ref (a.1 14), .ref (a.1 15), .ref (a.1 16), .ref (a.1 17), .ref (a.1 18), .ref (a.1 19), .ref (a.1 20), .int S.1, .int S.2.1])),
   (a.1 14, .inl (cyA G 1, 6, .inl S.2.2.1)), (a.1 15, .inl (cyA G 0, 16, .inl S.2.2.2.1)), (a.1 16, .inl (cyA G 0, 16, .inl S.2.2.2.2.1)), (a.1 17, .inl (cyA G 0, 48, .inl S.2.2.2.2.2.1)), (a.1 18, .inl (cyA G 0, 16, .inl S.2.2.2.2.2.2.1)), (a.1 19, .inl (cyA G 0, 16, .inl S.2.2.2.2.2.2.2.1)), (a.1 20, .inl (cyA G 0, 6, .inl S.2.2.2.2.2.2.2.2)),
   (a.1 21, .inr (0, [.ref (a.1 1), .ref (a.1 11), .ref (a.1 13), .ref (a.1 22), .ref (a.1 23), .int D.1, .int D.2.1, .int D.2.2])), (a.1 22, .inl (cyA G 2, 8, .inr (.inr (.inr (.inr a.2.2.2.1))))), (a.1 23, .inl (cyA G 3, 40, .inr (.inr (.inr (.inr a.2.2.2.2))))),
   (a.1 24, .inr (9, [.ref (a.1 1), .ref (a.1 11), .ref (a.1 13), .ref (a.1 21), .ref (a.1 25), .ref (a.1 27)])), (a.1 25, .inr (7, [.ref (a.1 26), .int 0])), (a.1 26, .inl (cyA G 0, 0, .inl (fun _ => 0))), (a.1 27, .inr (7, [.ref (a.1 28), .int U.1])), (a.1 28, .inl (cyA G 0, 42, .inl U.2)),
   (a.1 29, .inr (4, [.ref (a.1 1), .ref (a.1 30), .int R.1, .int R.2.1, .int R.2.2.1, .int R.2.2.2.1])), (a.1 30, .inl (cyA G 0, 200, .inl R.2.2.2.2)),
   (a.1 31, .inr (5, [.ref (a.1 1), .ref (a.1 13), .ref (a.1 21), .ref (a.1 32), .ref (a.1 33), .ref (a.1 34), .ref (a.1 35), .int M.2.2.2.2.1, .int M.2.2.2.2.2.1, .int M.2.2.2.2.2.2.1, .int M.2.2.2.2.2.2.2.1, .int M.2.2.2.2.2.2.2.2])), (a.1 32, .inl (cyA G 0, 4200, .inl M.1)), (a.1 33, .inl (cyA G 1, 4200, .inl M.2.1)), (a.1 34, .inl (cyA G 0, 4, .inl M.2.2.1)), (a.1 35, .inl (cyA G 0, 12, .inl M.2.2.2.1)),
   (a.1 36, .inl (cyA G 0, 250, .inl N.1))]
def fcell (a : AS) (P : PS) (i : Nat) : Nat × va_E := (a.2.1 i, .inr (2, [.int (P.1 i), .int (P.2.1 i), .int (P.2.2.1 i)]))
def gcells (G : GC) (a : AS) (P : PS) (i : Nat) : va_W :=
  [(a.2.2.1 i 0, .inr (3, [.int (P.2.2.2.1 i), .ref (a.2.2.1 i 1), .int (P.2.2.2.2.1 i), .ref (a.2.2.1 i 3), .int (P.2.2.2.2.2.1 i), .int (P.2.2.2.2.2.2.1 i), .int (P.2.2.2.2.2.2.2.1 i), .int (P.2.2.2.2.2.2.2.2.1 i)])),
   (a.2.2.1 i 1, .inr (7, [.ref (a.2.2.1 i 2), .int (P.2.2.2.2.2.2.2.2.2.2.1 i)])), (a.2.2.1 i 2, .inl (cyA G 0, P.2.2.2.2.2.2.2.2.2.1 i, .inl (P.2.2.2.2.2.2.2.2.2.2.2.1 i))),
   (a.2.2.1 i 3, .inl (cyA G 0, P.2.2.2.2.2.2.2.2.2.2.2.2.1 i, .inl (P.2.2.2.2.2.2.2.2.2.2.2.2.2 i)))]
def wP (G : GC) (a : AS) (P : PS) (nf ng : Nat) : va_W := (List.range nf).map (fcell a P) ++ (List.range ng).flatMap (gcells G a P)
def wC (G : GC) (a : AS) (T : TS) (F : FS) (U : US) (S : SS) (D : DS) (R : RS) (M : MS) (N : NS) (P : PS) : va_W := wX G a T F U S D R M N ++ wP G a P D.1.toNatClampNeg D.2.1.toNatClampNeg
theorem wX_len {G : GC} {a : AS} {T : TS} {F : FS} {U : US} {S : SS} {D : DS} {R : RS} {M : MS} {N : NS} : (wX G a T F U S D R M N).length = 37 := rfl
theorem pick_flat {α β : Type} {f : α → List β} {n : Nat} {w : Nat} {g : Nat → α} (hf : ∀ i, (f (g i)).length = w) {i c : Nat} (hi : i < n) (hc : c < w) : (((List.range n).map g).flatMap f)[w * i + c]? = (f (g i))[c]? := by
  induction n with
  | zero => omega
  | succ n ih =>
    have hlen : ∀ k, (((List.range k).map g).flatMap f).length = w * k := by
      intro k
      induction k with
      | zero => simp
      | succ k ihk => rw [List.range_succ, List.map_append, List.flatMap_append, List.length_append, ihk]; simp [hf, Nat.mul_succ]
    rw [List.range_succ, List.map_append, List.flatMap_append]
    by_cases h : i < n
    · rw [List.getElem?_append_left]
      · exact ih h
      · rw [hlen]
        calc w * i + c < w * i + w := by omega
          _ = w * (i + 1) := (Nat.mul_succ w i).symm
          _ ≤ w * n := Nat.mul_le_mul_left w h
    · obtain rfl : i = n := by omega
      rw [List.getElem?_append_right (by rw [hlen]; omega), hlen, Nat.add_sub_cancel_left]
      simp
theorem at_fun {X : va_W} {G : GC} {a : AS} {P : PS} {nf ng i : Nat} (h : i < nf) : (X ++ wP G a P nf ng)[X.length + i]? = some (fcell a P i) := by
  rw [List.getElem?_append_right (by omega), Nat.add_sub_cancel_left, wP, List.getElem?_append_left (by simpa using h)]
  simp [h]
theorem at_goal {X : va_W} {G : GC} {a : AS} {P : PS} {nf ng i c : Nat} (h : i < ng) (hc : c < 4) : (X ++ wP G a P nf ng)[X.length + (nf + (4 * i + c))]? = (gcells G a P i)[c]? := by
  rw [List.getElem?_append_right (by omega), Nat.add_sub_cancel_left, wP, List.getElem?_append_right (by simp), List.length_map, List.length_range, Nat.add_sub_cancel_left]
  have := pick_flat (f := gcells G a P) (g := id) (n := ng) (w := 4) (fun i => rfl) h hc
  simpa using this
/-- one goal's cells taken out of the pool, and put back -/
theorem open_goal {G : GC} {a : AS} {P : PS} {nf ng i : Nat} (h : i < ng) : ∃ B : va_W, ∀ P' : PS, (∀ j, j ≠ i → gcells G a P' j = gcells G a P j) → (∀ j, fcell a P' j = fcell a P j) → (wP G a P' nf ng).Perm (gcells G a P' i ++ B) := by
  refine ⟨(List.range nf).map (fcell a P) ++ ((List.range i).flatMap (gcells G a P) ++ ((List.range (ng - i - 1)).map (fun k => k + (i + 1))).flatMap (gcells G a P)), fun P' h1 h2 => ?_⟩
  have e1 : List.range ng = List.range i ++ ([i] ++ (List.range (ng - i - 1)).map (fun k => k + (i + 1))) := by
    apply List.ext_getElem
    · simp; omega
    · intro k k1 k2
      simp at k1
      rw [List.getElem_range]
      by_cases c1 : k < i
      · rw [List.getElem_append_left (by simpa using c1)]; simp
      · rw [List.getElem_append_right (by simpa using c1)]
        by_cases c2 : k = i
        · subst c2; simp
        · rw [List.getElem_append_right (by simp; omega)]
          simp; omega
  have e2 : (List.range nf).map (fcell a P') = (List.range nf).map (fcell a P) := List.map_congr_left (fun j _ => h2 j)
  have e3 : (List.range i).flatMap (gcells G a P') = (List.range i).flatMap (gcells G a P) := by
    rw [List.flatMap_def, List.flatMap_def]
    congr 1
    exact List.map_congr_left (fun j hj => h1 j (by have := List.mem_range.mp hj; omega))
  have e4 : ((List.range (ng - i - 1)).map (fun k => k + (i + 1))).flatMap (gcells G a P') = ((List.range (ng - i - 1)).map (fun k => k + (i + 1))).flatMap (gcells G a P) := by
    rw [List.flatMap_def, List.flatMap_def]
    congr 1
    refine List.map_congr_left (fun j hj => h1 j ?_)
    obtain ⟨k, -, rfl⟩ := List.mem_map.mp hj
    omega
  rw [wP, e1, List.flatMap_append, List.flatMap_append, e2, e3, e4]
  have e5 : [i].flatMap (gcells G a P') = gcells G a P' i := by simp
  rw [e5]
  refine (List.Perm.append_left _ (List.perm_append_comm_assoc _ _ _)).trans ?_
  exact List.perm_append_comm_assoc _ _ _
theorem free_all {A : Nat → Prop} {ws : va_W} {H0 H : Heap} {locs : List Loc} (hD : va_D A ws) (hS : va_S A H0 H locs) (hA : ∀ q, H0.size ≤ q → A q) : ∀ q, va_A ws H.size q → A q := by
  rintro q (⟨k, e, h⟩ | h)
  · exact hD.2 k _ h
  · exact hA q (Nat.le_trans hS.1 h)
theorem pre_w {G : GC} {s : State} {H : Heap} {A : Nat → Prop} {locs : List Loc} {ws : va_W} {av : List Value} (hK : va_K (DG G) clP3 (TY G) s) (hP : va_P (DG G) clP3 ws H) (hD : va_D A ws) (hS : va_S A s.heap H locs) (hE : EV G A s s.heap) (hF : ∀ q, va_A ws H.size q → A q) : PreS s H (va_Pc av (WD G ws H.size)) av :=
  ⟨fun a U g mk q => ⟨q.1, q.2.1, q.2.2.1, va_K.moved (u := U) (U := U.calling g mk a) (Vm.Alike.refl U.vm) q.2.2.2.1, q.2.2.2.2.1, EV.same (u := U) (U := U.calling g mk a) rfl q.2.2.2.2.2⟩,
   fun U hU hW => ⟨rfl, by rw [hU], by rw [hU]; exact hP, va_K.moved hW.alike hK, hD.weaken (fun _ _ _ _ => trivial), by rw [hU]; exact hE.go hS hF hW⟩⟩
/-- a reference to a function or a goal, by its number: -1 is none -/
def rfF (a : AS) (r : Int32) : Option Nat := if r < 0 then none else some (a.2.1 r.toNatClampNeg)
def rfG (a : AS) (r : Int32) : Option Nat := if r < 0 then none else some (a.2.2.1 r.toNatClampNeg 0)
/-- the arrays of functions and of goals hold what the pool's addresses say -/
def lkA (a : AS) (nf ng : Nat) : Prop := (∀ i, i < nf → a.2.2.2.1 i = some (a.2.1 i)) ∧ (∀ i, i < ng → a.2.2.2.2 i = some (a.2.2.1 i 0))
theorem fm_some {X : va_W} : ∀ (is : List Nat), (∀ i ∈ is, i < X.length) → is.map (fun i => X[i]?) = (is.filterMap (fun i => X[i]?)).map some
  | [], _ => rfl
  | i :: is, h => by
    have hi : X[i]? = some (X[i]'(h i List.mem_cons_self)) := List.getElem?_eq_getElem _
    rw [List.map_cons, List.filterMap_cons, hi, fm_some is (fun j hj => h j (List.mem_cons_of_mem _ hj))]
    rfl
theorem frameC {X X1 wc w1 : va_W} (isC isR : List Nat) (hp : (isC ++ isR).Perm (List.range 37)) (hl : X.length = 37) (hl1 : X1.length = 37) (h : isC.map (fun i => X[i]?) = wc.map some) (h1 : isC.map (fun i => X1[i]?) = w1.map some) (hr : isR.map (fun i => X1[i]?) = isR.map (fun i => X[i]?)) (Pl : va_W) : (X ++ Pl).Perm (wc ++ (isR.filterMap (fun i => X[i]?) ++ Pl)) ∧ (X1 ++ Pl).Perm (w1 ++ (isR.filterMap (fun i => X[i]?) ++ Pl)) := by
  have hb : ∀ i ∈ isR, i < X.length := fun i hi => by
    have := hp.mem_iff.mp (List.mem_append_right _ hi)
    rw [hl]; exact List.mem_range.mp this
  refine ⟨perm_tail (perm_lit _ hp hl ?_), perm_tail (perm_lit _ hp hl1 ?_)⟩
  · rw [List.map_append, List.map_append, h, fm_some isR hb]
  · rw [List.map_append, List.map_append, h1, hr, fm_some isR hb]
theorem frameC_i {l : Launch} {y : MethodName} {ws : List Cond} {rm : Room} {av : List Value} {G : GC} {wc w1 X X1 Pl : va_W} {sz mc ms : Nat} {post : Int32 → Unit → Prop} (isC isR : List Nat) (hp : (isC ++ isR).Perm (List.range 37))
    (hM : Met l y ws rm (va_Pc av (WD G wc sz)) (va_Qi post (fun _ t => PW G (va_A wc sz) w1 t) (va_A wc sz)) mc ms (va_A wc sz)) (hl : X.length = 37) (hl1 : X1.length = 37) (h : isC.map (fun i => X[i]?) = wc.map some) (h1 : isC.map (fun i => X1[i]?) = w1.map some) (hr : isR.map (fun i => X1[i]?) = isR.map (fun i => X[i]?)) :
    Met l y ws rm (va_Pc av (WD G (X ++ Pl) sz)) (va_Qi post (fun _ t => PW G (va_A (X ++ Pl) sz) (X1 ++ Pl) t) (va_A (X ++ Pl) sz)) mc ms (va_A (X ++ Pl) sz) := frame_i (frameC isC isR hp hl hl1 h h1 hr Pl).1 (frameC isC isR hp hl hl1 h h1 hr Pl).2 hM
theorem frameC_v {l : Launch} {y : MethodName} {ws : List Cond} {rm : Room} {av : List Value} {G : GC} {wc w1 X X1 Pl : va_W} {sz mc ms : Nat} {post : Unit → Prop} (isC isR : List Nat) (hp : (isC ++ isR).Perm (List.range 37))
    (hM : Met l y ws rm (va_Pc av (WD G wc sz)) (va_Qv post (fun _ t => PW G (va_A wc sz) w1 t) (va_A wc sz)) mc ms (va_A wc sz)) (hl : X.length = 37) (hl1 : X1.length = 37) (h : isC.map (fun i => X[i]?) = wc.map some) (h1 : isC.map (fun i => X1[i]?) = w1.map some) (hr : isR.map (fun i => X1[i]?) = isR.map (fun i => X[i]?)) :
    Met l y ws rm (va_Pc av (WD G (X ++ Pl) sz)) (va_Qv post (fun _ t => PW G (va_A (X ++ Pl) sz) (X1 ++ Pl) t) (va_A (X ++ Pl) sz)) mc ms (va_A (X ++ Pl) sz) := frame_v (frameC isC isR hp hl hl1 h h1 hr Pl).1 (frameC isC isR hp hl hl1 h h1 hr Pl).2 hM
theorem frameD_i {l : Launch} {y : MethodName} {ws : List Cond} {rm : Room} {av : List Value} {G : GC} {wc w1 wr X X1 Pl : va_W} {sz mc ms : Nat} {post : Int32 → Unit → Prop} (is : List Nat) (hp : is.Perm (List.range 37))
    (hM : Met l y ws rm (va_Pc av (WD G wc sz)) (va_Qi post (fun _ t => PW G (va_A wc sz) w1 t) (va_A wc sz)) mc ms (va_A wc sz)) (hl : X.length = 37) (hl1 : X1.length = 37) (h : is.map (fun i => X[i]?) = (wc ++ wr).map some) (h1 : is.map (fun i => X1[i]?) = (w1 ++ wr).map some) :
    Met l y ws rm (va_Pc av (WD G (X ++ Pl) sz)) (va_Qi post (fun _ t => PW G (va_A (X ++ Pl) sz) (X1 ++ Pl) t) (va_A (X ++ Pl) sz)) mc ms (va_A (X ++ Pl) sz) := frame_i (perm_tail (perm_lit is hp hl h)) (perm_tail (perm_lit is hp hl1 h1)) hM
theorem frameD_v {l : Launch} {y : MethodName} {ws : List Cond} {rm : Room} {av : List Value} {G : GC} {wc w1 wr X X1 Pl : va_W} {sz mc ms : Nat} {post : Unit → Prop} (is : List Nat) (hp : is.Perm (List.range 37))
    (hM : Met l y ws rm (va_Pc av (WD G wc sz)) (va_Qv post (fun _ t => PW G (va_A wc sz) w1 t) (va_A wc sz)) mc ms (va_A wc sz)) (hl : X.length = 37) (hl1 : X1.length = 37) (h : is.map (fun i => X[i]?) = (wc ++ wr).map some) (h1 : is.map (fun i => X1[i]?) = (w1 ++ wr).map some) :
    Met l y ws rm (va_Pc av (WD G (X ++ Pl) sz)) (va_Qv post (fun _ t => PW G (va_A (X ++ Pl) sz) (X1 ++ Pl) t) (va_A (X ++ Pl) sz)) mc ms (va_A (X ++ Pl) sz) := frame_v (perm_tail (perm_lit is hp hl h)) (perm_tail (perm_lit is hp hl1 h1)) hM
