/-! what is asked of types, as the law asks it -/
def ansN (o : Option Tm) : Int32 := match o with | some u => numT u | none => -1500000
theorem scratch_ok {K : Rows} {n M j : Nat} {u : Tm} (hw : WF K M) (hn : n ≤ M) (hr : Rep K M u j) : f_X11_numberOfScratch K (nz n) (nz j) = some (0, numT u, setM K n) := by
  have hj := Rep_lt hr
  have hM := hw.2.1
  unfold f_X11_numberOfScratch
  rw [g_num, rNum_at hw hj, Option.bind_some, g_release hw hn, Option.bind_some, if_neg (nz_no (by omega)), (Rep_calls_loose hr).2.1]
theorem scratch_no {K : Rows} {n M : Nat} (hw : WF K M) (hn : n ≤ M) : f_X11_numberOfScratch K (nz n) (-1) = some (5, 0, setM K n) := by
  have e : rNum K (-1) = some (-1) := by
    unfold rNum f_X9_numberOf
    rw [if_pos (by decide)]
  unfold f_X11_numberOfScratch
  rw [g_num, e, Option.bind_some, g_release hw hn, Option.bind_some, if_pos rfl]
theorem L_normal {K : Rows} {n m k : Nat} {N : NS} {nt : Nat → Tm} (hw : WF K n) (hN : NodeC K n N nt m) (hk : k < m) (hn : n + 2500 ≤ 32768) (F : FS) : ∃ K' F', f_L_normal K F N (nz k) = some (ansN (nf (nt k)), K', F') ∧ WF K' n ∧ Ext K K' n := by
  obtain ⟨j, q1, q2⟩ := (termAt_ok hN (show k < 1000000 by have := hN.2.1; omega)).1 hk
  have hz := hN.2.2 k hk
  obtain ⟨f1, f2⟩ := form_ok hw q2 hn (by omega) F
  have st : f_L_normal K F N (nz k) = ((g_X1_formOf K F (nz j)).bind (fun q_4 => (f_X11_numberOfScratch q_4.2.1 (nz n) q_4.1).bind (fun q_5 => (if q_5.1 = 0 then some (0, q_5.2.1, q_5.2.2, q_4.2.2) else some (q_5.1, 0, q_5.2.2, q_4.2.2))))).bind (fun q_1 => (if q_1.1 = 0 then some (q_1.2.1, q_1.2.2.1, q_1.2.2.2) else (if q_1.1 = 3 then some ((-2500000), q_1.2.2.1, q_1.2.2.2) else (if q_1.1 = 5 then some ((-1500000), q_1.2.2.1, q_1.2.2.2) else none)))) := by
    unfold f_L_normal f_X11_normal
    rw [q1, Option.bind_some, if_pos (show ((0 : Int32), nz j).1 = 0 from rfl), g_mark, Option.bind_some, hw.1]
  rw [st]
  cases hf : nf (nt k) with
  | some u =>
    obtain ⟨K', M, F', j', e1, e2, e3, e4, e5, e6, -⟩ := f1 u hf
    refine ⟨setM K' n, F', ?_, WF_cut e2 e3, Ext_trans e5 (Ext_setM K' n n) (Nat.le_refl _)⟩
    rw [e1, Option.bind_some]
    show ((f_X11_numberOfScratch K' (nz n) (nz j')).bind _).bind _ = _
    rw [scratch_ok e2 e3 e6]
    rfl
  | none =>
    obtain ⟨K', F', e1, e2, e3⟩ := f2 hf
    refine ⟨setM K' n, F', ?_, WF_cut e2 (Nat.le_refl _), Ext_trans e3 (Ext_setM K' n n) (Nat.le_refl _)⟩
    rw [e1, Option.bind_some]
    show ((f_X11_numberOfScratch K' (nz n) (-1)).bind _).bind _ = _
    rw [scratch_no e2 (Nat.le_refl _)]
    rfl
theorem L_typeOf {K : Rows} {n m k : Nat} {S : SS} {D : DS} {P : PS} {A : SG} {B : FG} {G : GG} {N : NS} {nt : Nat → Tm} (h : CourtC K n S D P A B G) (ht : CourtT A B G) (hN : NodeC K n N nt m) (hk : k < m) (hn : n + 8100 ≤ 32768) (F : FS) (U : US) :
    ∃ K' F' U', f_L_typeOf K F U S D N P (nz k) = some (ansN ((tyT (tbl A B) (nt k) []).bind nf), K', F', U') ∧ WF K' n ∧ Ext K K' n := by
  have hw := h.1
  obtain ⟨j, q1, q2⟩ := (termAt_ok hN (show k < 1000000 by have := hN.2.1; omega)).1 hk
  have hz := hN.2.2 k hk
  obtain ⟨f1, f2⟩ := tform_ok (ask_node h ht q2 hz.2.1 (by omega) hn) F U
  have st : f_L_typeOf K F U S D N P (nz k) = ((f_X10_formOf K F U S D P (nz j)).bind (fun q_4 => (f_X11_numberOfScratch q_4.2.1 (nz n) q_4.1).bind (fun q_5 => (if q_5.1 = 0 then some (0, q_5.2.1, q_5.2.2, q_4.2.2.1, q_4.2.2.2) else some (q_5.1, 0, q_5.2.2, q_4.2.2.1, q_4.2.2.2))))).bind (fun q_1 => (if q_1.1 = 0 then some (q_1.2.1, q_1.2.2.1, q_1.2.2.2.1, q_1.2.2.2.2) else (if q_1.1 = 3 then some ((-2500000), q_1.2.2.1, q_1.2.2.2.1, q_1.2.2.2.2) else (if q_1.1 = 5 then some ((-1500000), q_1.2.2.1, q_1.2.2.2.1, q_1.2.2.2.2) else none)))) := by
    unfold f_L_typeOf f_X11_typeOf
    rw [q1, Option.bind_some, if_pos (show ((0 : Int32), nz j).1 = 0 from rfl), g_mark, Option.bind_some, hw.1]
  rw [st]
  cases hf : (tyT (tbl A B) (nt k) []).bind nf with
  | some u =>
    obtain ⟨K', M, F', U', j', e1, e2, e3, e4, e5, e6⟩ := f1 u hf
    refine ⟨setM K' n, F', U', ?_, WF_cut e2 e3, Ext_trans e5 (Ext_setM K' n n) (Nat.le_refl _)⟩
    rw [e1, Option.bind_some]
    show ((f_X11_numberOfScratch K' (nz n) (nz j')).bind _).bind _ = _
    rw [scratch_ok e2 e3 e6]
    rfl
  | none =>
    obtain ⟨K', F', U', e1, e2, e3⟩ := f2 hf
    refine ⟨setM K' n, F', U', ?_, WF_cut e2 (Nat.le_refl _), Ext_trans e3 (Ext_setM K' n n) (Nat.le_refl _)⟩
    rw [e1, Option.bind_some]
    show ((f_X11_numberOfScratch K' (nz n) (-1)).bind _).bind _ = _
    rw [scratch_no e2 (Nat.le_refl _)]
    rfl
theorem level_small {K : Rows} {n i : Nat} {S : SS} {D : DS} {P : PS} {tb : Nat → Option Tm} {t : Tm} (h : Ask K n S D P tb [] t i) {l : Nat} (hl : isUn ((tyT tb t []).bind nf) = some l) : l < 1000000 := by
  obtain ⟨A1, A2⟩ := ask_ok (U := (nz 0, fun _ => 0)) h ⟨rfl, Nat.zero_le _, fun k T h => by simp at h⟩ (0, fun _ => 0, fun _ => 0)
  cases hA : (tyT tb t []).bind nf with
  | none => rw [hA] at hl; cases hl
  | some u =>
    obtain ⟨K1, n1, F1, U1, j1, e1, e2, e3, e4, e5, e6, e7⟩ := A1 u hA
    rw [hA, isUn_at e6] at hl
    split at hl
    · have e : prT u = l := by injection hl
      rw [← e]
      rcases (Rep_view e6).2 with v | v
      · exact v.2.1
      · omega
    · cases hl
theorem L_level {K : Rows} {n m k : Nat} {S : SS} {D : DS} {P : PS} {A : SG} {B : FG} {G : GG} {N : NS} {nt : Nat → Tm} (h : CourtC K n S D P A B G) (ht : CourtT A B G) (hN : NodeC K n N nt m) (hk : k < m) (hn : n + 8100 ≤ 32768) (F : FS) (U : US) :
    ∃ K' F' U' r, f_L_level K F U S D N P (nz k) = some (r, K', F', U') ∧ WF K' n ∧ Ext K K' n ∧ (isUn ((tyT (tbl A B) (nt k) []).bind nf) ≠ none → 0 ≤ r) := by
  have hw := h.1
  obtain ⟨j, q1, q2⟩ := (termAt_ok hN (show k < 1000000 by have := hN.2.1; omega)).1 hk
  have hz := hN.2.2 k hk
  have ask := ask_node h ht q2 hz.2.1 (show freeT (nt k) ≤ 1000 by omega) hn
  obtain ⟨K', F', U', e1, e2, e3⟩ := level_ok ask F U
  have st : f_L_level K F U S D N P (nz k) = ((f_X10_levelOf K F U S D P (nz j)).bind (fun q_3 => (if q_3.1 = (-1) then some ((5 : Int32), (0 : Int32), q_3.2.1, q_3.2.2.1, q_3.2.2.2) else some ((0 : Int32), q_3.1, q_3.2.1, q_3.2.2.1, q_3.2.2.2)))).bind (fun q_1 => (if q_1.1 = 0 then some (q_1.2.1, q_1.2.2.1, q_1.2.2.2.1, q_1.2.2.2.2) else (if q_1.1 = 3 then some ((-2500000), q_1.2.2.1, q_1.2.2.2.1, q_1.2.2.2.2) else (if q_1.1 = 5 then some ((-1500000), q_1.2.2.1, q_1.2.2.2.1, q_1.2.2.2.2) else none)))) := by
    unfold f_L_level f_X11_level
    rw [q1, Option.bind_some, if_pos (show ((0 : Int32), nz j).1 = 0 from rfl)]
  rw [st, e1, Option.bind_some]
  cases hl : isUn ((tyT (tbl A B) (nt k) []).bind nf) with
  | none => exact ⟨K', F', U', -1500000, rfl, e2, e3, fun q => absurd rfl q⟩
  | some l =>
    have hs := level_small ask hl
    refine ⟨K', F', U', nz l, ?_, e2, e3, fun _ => ?_⟩
    · show Option.bind (if nz l = -1 then _ else _) _ = _
      rw [if_neg (nz_no (by omega))]
      rfl
    · have := (nz_le (i := 0) (j := l) (by decide) (by omega)).mpr (Nat.zero_le l)
      exact this
theorem X_isOf {K : Rows} {n m k k2 : Nat} {S : SS} {D : DS} {P : PS} {A : SG} {B : FG} {G : GG} {N : NS} {nt : Nat → Tm} (h : CourtC K n S D P A B G) (ht : CourtT A B G) (hN : NodeC K n N nt m) (hk : k < m) (hk2 : k2 < m) (hn : n + 8100 ≤ 32768) (F : FS) (U : US) :
    ∃ K' F' U' r, f_X11_isOf K F U S D N P (nz k) (nz k2) = some (0, r, K', F', U') ∧ WF K' n ∧ Ext K K' n ∧ (r = 0 ∨ r = 1) ∧ (r ≠ 0 ↔ ∃ u, (tyT (tbl A B) (nt k) []).bind nf = some u ∧ nf (nt k2) = some u) := by
  have hw := h.1
  obtain ⟨j, q1, q2⟩ := (termAt_ok hN (show k < 1000000 by have := hN.2.1; omega)).1 hk
  obtain ⟨j2, p1, p2⟩ := (termAt_ok hN (show k2 < 1000000 by have := hN.2.1; omega)).1 hk2
  have hz := hN.2.2 k hk
  have hz2 := hN.2.2 k2 hk2
  obtain ⟨f1, f2⟩ := tform_ok (ask_node h ht q2 hz.2.1 (by omega) hn) F U
  have st : f_X11_isOf K F U S D N P (nz k) (nz k2) = (f_X10_formOf K F U S D P (nz j)).bind (fun q_6 => (g_X1_formOf q_6.2.1 q_6.2.2.1 (nz j2)).bind (fun q_7 => (rSame 200 q_7.2.1 q_6.1 q_7.1).bind (fun q_8 => (g_X9_release q_7.2.1 (nz n)).bind (fun q_9 => (if inb q_8 2 = true then some ((0 : Int32), q_8, q_9, q_7.2.2, q_6.2.2.2) else none))))) := by
    unfold f_X11_isOf
    rw [q1, Option.bind_some, if_pos (show ((0 : Int32), nz j).1 = 0 from rfl), p1, Option.bind_some, if_pos (show ((0 : Int32), nz j2).1 = 0 from rfl), g_mark, Option.bind_some, hw.1]
    simp only [g_same]
  rw [st]
  cases hf : (tyT (tbl A B) (nt k) []).bind nf with
  | none =>
    obtain ⟨K1, F1, U1, e1, e2, e3⟩ := f2 hf
    obtain ⟨g1, g2⟩ := form_ok e2 (Rep_ext e3 (Nat.le_refl _) _ j2 p2) (by omega) (by omega) F1
    have st2 : ∀ K2 F2 x, g_X1_formOf K1 F1 (nz j2) = some (x, K2, F2) → ∀ M, WF K2 M → n ≤ M → (f_X10_formOf K F U S D P (nz j)).bind (fun q_6 => (g_X1_formOf q_6.2.1 q_6.2.2.1 (nz j2)).bind (fun q_7 => (rSame 200 q_7.2.1 q_6.1 q_7.1).bind (fun q_8 => (g_X9_release q_7.2.1 (nz n)).bind (fun q_9 => (if inb q_8 2 = true then some ((0 : Int32), q_8, q_9, q_7.2.2, q_6.2.2.2) else none))))) = some ((0 : Int32), (0 : Int32), setM K2 n, F2, U1) := by
      intro K2 F2 x hx M w1 w2
      rw [e1, Option.bind_some]
      show (g_X1_formOf K1 F1 (nz j2)).bind _ = _
      rw [hx, Option.bind_some]
      show (rSame 200 K2 (-1) x).bind _ = _
      rw [same_none K2 x 199, Option.bind_some]
      show (g_X9_release K2 (nz n)).bind _ = _
      rw [g_release w1 w2, Option.bind_some, if_pos (by decide)]
    cases hf2 : nf (nt k2) with
    | none =>
      obtain ⟨K2, F2, w1, w2, w3⟩ := g2 hf2
      exact ⟨setM K2 n, F2, U1, 0, st2 K2 F2 _ w1 n w2 (Nat.le_refl _), WF_cut w2 (Nat.le_refl _), Ext_trans e3 (Ext_trans w3 (Ext_setM K2 n n) (Nat.le_refl _)) (Nat.le_refl _), Or.inl rfl, fun q => absurd rfl q, fun ⟨u, a, _⟩ => by cases a⟩
    | some v =>
      obtain ⟨K2, M, F2, jj, w1, w2, w3, w4, w5, w6, -⟩ := g1 v hf2
      exact ⟨setM K2 n, F2, U1, 0, st2 K2 F2 _ w1 M w2 w3, WF_cut w2 w3, Ext_trans e3 (Ext_trans w5 (Ext_setM K2 n n) (Nat.le_refl _)) (Nat.le_refl _), Or.inl rfl, fun q => absurd rfl q, fun ⟨u, a, _⟩ => by cases a⟩
  | some u =>
    obtain ⟨K1, M1, F1, U1, j1, e1, e2, e3, e4, e5, e6⟩ := f1 u hf
    have hzu : sizeT u ≤ 80 := by
      cases hq : tyT (tbl A B) (nt k) [] with
      | none => rw [hq] at hf; cases hf
      | some X => rw [hq] at hf; exact (nfT_some 21 X u hf).1
    obtain ⟨g1, g2⟩ := form_ok e2 (Rep_ext e5 e3 _ j2 p2) (by omega) (by omega) F1
    have st2 : ∀ K2 F2 x r, g_X1_formOf K1 F1 (nz j2) = some (x, K2, F2) → rSame 200 K2 (nz j1) x = some r → inb r 2 = true → ∀ M, WF K2 M → n ≤ M → (f_X10_formOf K F U S D P (nz j)).bind (fun q_6 => (g_X1_formOf q_6.2.1 q_6.2.2.1 (nz j2)).bind (fun q_7 => (rSame 200 q_7.2.1 q_6.1 q_7.1).bind (fun q_8 => (g_X9_release q_7.2.1 (nz n)).bind (fun q_9 => (if inb q_8 2 = true then some ((0 : Int32), q_8, q_9, q_7.2.2, q_6.2.2.2) else none))))) = some ((0 : Int32), r, setM K2 n, F2, U1) := by
      intro K2 F2 x r hx hr hb M w1 w2
      rw [e1, Option.bind_some]
      show (g_X1_formOf K1 F1 (nz j2)).bind _ = _
      rw [hx, Option.bind_some]
      show (rSame 200 K2 (nz j1) x).bind _ = _
      rw [hr, Option.bind_some]
      show (g_X9_release K2 (nz n)).bind _ = _
      rw [g_release w1 w2, Option.bind_some, if_pos hb]
    cases hf2 : nf (nt k2) with
    | none =>
      obtain ⟨K2, F2, w1, w2, w3⟩ := g2 hf2
      have hs : rSame 200 K2 (nz j1) (-1) = some 0 := by
        have hk8 : kdT u < 8 := by rcases (Rep_view e6).2 with v | v <;> omega
        have r6 := Rep_ext w3 (Nat.le_refl _) u j1 e6
        rw [show (200 : Nat) = 199 + 1 from rfl, rSame_step, rKind_at w2 (Rep_lt r6), Option.bind_some, (Rep_view r6).1, if_neg (nz_no (by omega)), kind_none, Option.bind_some, if_neg (nz_no (by omega))]
      exact ⟨setM K2 n, F2, U1, 0, st2 K2 F2 _ 0 w1 hs (by decide) M1 w2 e3, WF_cut w2 e3, Ext_trans e5 (Ext_trans (Ext_le w3 e3) (Ext_setM K2 n n) (Nat.le_refl _)) (Nat.le_refl _), Or.inl rfl, fun q => absurd rfl q, fun ⟨u, _, a⟩ => by cases a⟩
    | some v =>
      obtain ⟨K2, M, F2, jj, w1, w2, w3, w4, w5, w6, -⟩ := g1 v hf2
      obtain ⟨s1, s2⟩ := rSame_yes w2 200 u v j1 jj (Rep_size u j1 e6) (Rep_ext w5 w3 u j1 e6) w6
      have xx := Ext_trans e5 (Ext_trans (Ext_le w5 e3) (Ext_setM K2 n n) (Nat.le_refl _)) (Nat.le_refl _)
      by_cases huv : u = v
      · exact ⟨setM K2 n, F2, U1, 1, st2 K2 F2 _ 1 w1 (s1 huv) (by decide) M w2 (by omega), WF_cut w2 (by omega), xx, Or.inr rfl, fun _ => ⟨u, rfl, by rw [huv]⟩, fun _ => by decide⟩
      · exact ⟨setM K2 n, F2, U1, 0, st2 K2 F2 _ 0 w1 (s2 huv) (by decide) M w2 (by omega), WF_cut w2 (by omega), xx, Or.inl rfl, fun q => absurd rfl q, fun ⟨x, a, b⟩ => absurd (by
          have a' : u = x := by injection a
          have b' : v = x := by injection b
          rw [a', b']) huv⟩
