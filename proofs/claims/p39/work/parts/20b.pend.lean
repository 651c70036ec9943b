def pend (G : GC) (a : AS) (P : PS) (g m : Nat) : va_W := (List.range m).flatMap (fun k => gcells G a P (g + k))
theorem wP_add {G : GC} {a : AS} {P : PS} {nf g : Nat} : ∀ (m : Nat), wP G a P nf (g + m) = wP G a P nf g ++ pend G a P g m
  | 0 => by simp [pend]
  | m + 1 => by
    have h := wP_add (G := G) (a := a) (P := P) (nf := nf) (g := g) m
    unfold wP pend at *
    rw [← Nat.add_assoc, List.range_succ, List.range_succ, List.flatMap_append, List.flatMap_append, ← List.append_assoc, ← List.append_assoc, h]
    simp
theorem pend_succ {G : GC} {a : AS} {P : PS} {g m : Nat} : pend G a P g (m + 1) = pend G a P g m ++ gcells G a P (g + m) := by
  unfold pend
  rw [List.range_succ, List.flatMap_append]
  simp
theorem pend_congr {G : GC} {a a' : AS} {P P' : PS} {g m : Nat} (h : ∀ k, k < m → gcells G a' P' (g + k) = gcells G a P (g + k)) : pend G a' P' g m = pend G a P g m := by
  unfold pend
  rw [List.flatMap_def, List.flatMap_def]
  congr 1
  exact List.map_congr_left (fun j hj => h j (List.mem_range.mp hj))
theorem lk_le {a : AS} {nf ng m : Nat} (h : lkA a nf (ng + m)) : lkA a nf ng := ⟨h.1, fun i hi => h.2 i (by omega)⟩
theorem idx_eq {g v : Int32} {m : Nat} (h : inb g 41 = true) (hv : v = Int32.ofNat m) (hm : g.toNatClampNeg + m ≤ 40) : (g + v).toNatClampNeg = g.toNatClampNeg + m := by
  have h1 : 0 ≤ g.toInt ∧ g.toInt < ((41 : Nat) : Int) := of_decide_eq_true h
  have h2 : v.toInt = (m : Int) := by rw [hv]; exact Int32.toInt_ofNat_of_lt (by omega)
  have h3 : (g + v).toInt = g.toInt + m := by
    rw [Int32.toInt_add, h2, Int.bmod_eq_of_le] <;> omega
  show (g + v).toInt.toNat = g.toInt.toNat + m
  omega
theorem ofn_succ {v : Int32} {m : Nat} (h : v = Int32.ofNat m) : v + 1 = Int32.ofNat (m + 1) := by rw [h]; exact (inc_ofNat m).symm
theorem splitInto_ne {G : GC} {a : AS} {P P9 : PS} {e p1 p2 : Int32} (h : g_X3_splitInto P e p1 p2 = some P9) (j : Nat) (hj : j ≠ e.toNatClampNeg) : gcells G a P9 j = gcells G a P j := by
  obtain ⟨z, -, rfl⟩ := Option.map_eq_some_iff.mp h
  simp only [gcells, va_up_ne _ _ hj]
/-- one more goal behind those that wait -/
theorem pend_push {G : GC} {ad : Nat → Nat} {b b' : BS} {T : TS} {F : FS} {U : US} {S : SS} {D : DS} {R : RS} {M : MS} {N : NS} {P : PS} {m n : Nat} {u : Nat × Nat × Nat × Nat} {Z : CS} (hn : n = D.2.1.toNatClampNeg + m) (h1 : b'.1 = b.1) (h2 : b'.2.1 = adrG b n u) :
    ((wX G (ad, b') T F U S D R M N ++ (wP G (ad, b) P D.1.toNatClampNeg D.2.1.toNatClampNeg ++ childcells G u Z)) ++ pend G (ad, b) P D.2.1.toNatClampNeg m).Perm (wC G (ad, b') T F U S D R M N (addG P n Z) ++ pend G (ad, b') (addG P n Z) D.2.1.toNatClampNeg (m + 1)) := by
  subst hn
  have e1 : wP G (ad, b') (addG P (D.2.1.toNatClampNeg + m) Z) D.1.toNatClampNeg D.2.1.toNatClampNeg = wP G (ad, b) P D.1.toNatClampNeg D.2.1.toNatClampNeg := by
    unfold wP
    rw [flat_congr (a := (ad, b)) (P := P) (fun j hj => gcells_old h2 (by omega))]
    congr 1
    exact List.map_congr_left (fun j _ => by simp only [fcell, addG, h1])
  have e2 : pend G (ad, b') (addG P (D.2.1.toNatClampNeg + m) Z) D.2.1.toNatClampNeg m = pend G (ad, b) P D.2.1.toNatClampNeg m := pend_congr (fun k hk => gcells_old h2 (by omega))
  rw [pend_succ, e2, wC, e1, List.append_assoc, List.append_assoc, List.append_assoc]
  refine List.Perm.append_left _ (List.Perm.append_left _ ?_)
  exact List.perm_append_comm.trans (List.Perm.append_left _ (gcells_add h2).symm)
theorem lk_push {ad : Nat → Nat} {b b' : BS} {nf g m n : Nat} {u : Nat × Nat × Nat × Nat} (hn : n = g + m) (h : lkA (ad, b) nf (g + m)) (h1 : b'.1 = b.1) (h2 : b'.2.1 = adrG b n u) (h3 : b'.2.2.1 = b.2.2.1) (h4 : b'.2.2.2 = va_up b.2.2.2 n (some u.1)) : lkA (ad, b') nf (g + (m + 1)) := by
  subst hn
  refine ⟨fun i hi => ?_, fun i hi => ?_⟩
  · show b'.2.2.1 i = some (b'.1 i)
    rw [h1, h3]; exact h.1 i hi
  · show b'.2.2.2 i = some (b'.2.1 i 0)
    rw [h2, h4]
    by_cases c : i = g + m
    · subst c; rw [va_up_self]; simp [adrG]
    · rw [va_up_ne _ _ c]; simp only [adrG, if_neg c]; exact h.2 i (by omega)
theorem wC_grow {G : GC} {a : AS} {T : TS} {F : FS} {U : US} {S : SS} {D D' : DS} {R : RS} {M : MS} {N : NS} {P P9 : PS} {m : Nat} (h1 : D'.1 = D.1) (h2 : D'.2.1.toNatClampNeg = D.2.1.toNatClampNeg + m) (hp : pend G a P9 D.2.1.toNatClampNeg m = pend G a P D.2.1.toNatClampNeg m) : wX G a T F U S D' R M N ++ (wP G a P9 D.1.toNatClampNeg D.2.1.toNatClampNeg ++ pend G a P D.2.1.toNatClampNeg m) = wC G a T F U S D' R M N P9 := by
  rw [← hp, ← wP_add, wC, h1, h2]
theorem frame_qS {S : Type} {l : Launch} {y : MethodName} {ws : List Cond} {rm : Room} {av : List Value} {G : GC} {wc wr X : va_W} {w1 X1 : S → va_W} {sz mc ms : Nat} {post : Option Nat → S → Prop} (hX : X.Perm (wc ++ wr)) (hX1 : ∀ u, (X1 u).Perm (w1 u ++ wr))
    (h : Met l y ws rm (va_Pc av (WD G wc sz)) (va_Qq post (fun u t => PW G (va_A wc sz) (w1 u) t) (va_A wc sz)) mc ms (va_A wc sz)) : Met l y ws rm (va_Pc av (WD G X sz)) (va_Qq post (fun u t => PW G (va_A X sz) (X1 u) t) (va_A X sz)) mc ms (va_A X sz) := by
  intro p e hl hc1 hc2 s m args below hf happ hP hK
  obtain ⟨n, o, h1, h2, h3, ⟨⟨r, u, ho, hp, hb⟩, hF⟩, L, hfr, hL⟩ := h p e hl hc1 hc2 s m args below hf happ ⟨hP.1, frame_WD hX hP.2⟩ hK
  refine ⟨n, o, h1, h2, h3, ⟨⟨r, u, ho, hp, ?_⟩, hF.1, fun q g1 g2 => hF.2 q g1 (fun z => g2 (frame_A hX q z))⟩, L, hfr, fun q hq => frame_A hX _ (hL q hq)⟩
  exact frame_w hX (hX1 u) hP.2.1 hP.2.2.1 hP.2.2.2.2.1 (fun q g1 g2 => hF.2 q g1 g2) hb.1 hb.2
