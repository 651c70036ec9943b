theorem nz_m1 (k : Nat) : nz (k + 1) + (-1) = nz k := by
  rw [← nz_add k 1, Int32.add_assoc, show nz 1 + (-1) = 0 by decide, Int32.add_zero]
def wgt (K : Rows) (b i : Nat) : Nat := if i < b then (K.2.2.2.2.1 i).toNatClampNeg else 1
theorem keepPart_ok {mm : Int32} {mv : Nat → Int32} {j : Nat} (hj : j < 32768) : f_X9_keepPart mm mv (nz j) = some (mm, upd mv j (nz j)) := by
  unfold f_X9_keepPart
  rw [if_neg (nz_neg (by omega)), if_neg (fun hq : (32768 : Int32) ≤ nz j => absurd ((nz_le (i := 32768) (by decide) (by omega)).mp hq) (by omega)), if_pos (nz_inb hj (by decide)), nz_nat (by omega)]
theorem potR_none {f : Nat → Int32} {w : Nat → Nat} {lo : Nat} : ∀ k, (∀ i, lo ≤ i → i < lo + k → f i = -1) → potR f w lo k = 0 := by
  intro k
  induction k with
  | zero => intro _; rfl
  | succ k ih =>
    intro h
    show potR f w lo k + (if f (lo + k) = -1 then 0 else w (lo + k)) = 0
    rw [ih (fun i a b => h i a (by omega)), if_pos (h (lo + k) (by omega) (by omega))]
/-- the parts of a pair stand ahead of it -/
theorem Rep_parts {K : Rows} {n i : Nat} {u : Tm} (hn : n ≤ 32768) (hu : Rep K n u i) (h5 : 5 ≤ kdT u) : ∃ a b j l, j < i ∧ l < i ∧ sizeT u = 1 + sizeT a + sizeT b ∧ u = mkT (kdT u) a b ∧ K.2.2.1 i = nz j ∧ K.2.2.2.1 i = nz l ∧ Rep K n a j ∧ Rep K n b l := by
  cases u with
  | index k => exact absurd h5 (by decide : ¬ 5 ≤ 1)
  | arg p => have w : p % 8 < 5 := hu.2.2.1.1; exact absurd (show 5 ≤ p % 8 from h5) (by omega)
  | add a b => obtain ⟨-, -, -, j, l, w1, w2, w3, w4, w5, w6⟩ := hu; exact ⟨a, b, j, l, w1, w2, rfl, rfl, w3, w4, w5, w6⟩
  | sub a b => obtain ⟨-, -, -, j, l, w1, w2, w3, w4, w5, w6⟩ := hu; exact ⟨a, b, j, l, w1, w2, rfl, rfl, w3, w4, w5, w6⟩
  | mul a b => obtain ⟨-, -, -, j, l, w1, w2, w3, w4, w5, w6⟩ := hu; exact ⟨a, b, j, l, w1, w2, rfl, rfl, w3, w4, w5, w6⟩
  | _ => exact hu.elim
theorem sz_at {K : Rows} {n i : Nat} {u : Tm} (hu : Rep K n u i) : (K.2.2.2.2.1 i).toNatClampNeg = sizeT u := by
  rw [(Rep_calls_loose hu).1]
  exact nz_nat (by have := Rep_size u i hu; omega)
/-- what keep answers for a term behind the mark -/
def Kept (o : Option (Int32 × KO)) (K : Rows) (n mark term S : Nat) : Prop := ∃ M K' mv', o = some (flat (nz (M - 1)) K' mv') ∧ mark < M ∧ M ≤ mark + S ∧ WF K' M ∧ Ext K K' mark ∧ ∀ t, Rep K n t term → Rep K' M t (M - 1)
theorem kDn_ok {K : Rows} {n mark term S : Nat} (hw : WF K n) (hmt : mark ≤ term) (htn : term < n) : ∀ (k f : Nat) (mv : Nat → Int32), mark + k ≤ term + 1 → k < f → mv term ≠ -1 → Cl0 K (mark + k) term mark mv →
    potR mv (wgt K (mark + k)) mark (term + 1 - mark) ≤ S → Kept (kDn f K mv (nz mark) (nz term) (nz (mark + k) + (-1))) K n mark term S := by
  intro k
  have hn0 := hw.2.1
  induction k with
  | zero =>
    intro f mv hk hf hkt hcl hp
    obtain ⟨f, rfl⟩ : ∃ e, f = e + 1 := ⟨f - 1, by omega⟩
    have c1 : nz (mark + 0) + (-1) < nz mark := by
      cases mark with
      | zero => decide
      | succ x => rw [Nat.add_zero, nz_m1]; exact (nz_lt (by omega) (by omega)).mpr (Nat.lt_succ_self x)
    rw [kDn_step, if_pos c1]
    have hwc := WF_cut hw (show mark ≤ n by omega)
    obtain ⟨K', mv', e1, e2, e3, e4⟩ := kUp_ok hw hmt htn hcl hkt (term + 1 - mark) 100000 (setM K mark) mark mv mark (by omega) (Nat.le_refl _) (by omega)
      ⟨rfl, by rw [Nat.sub_self]; rfl, Ext_setM K mark mark, fun r _ => ⟨rfl, rfl, rfl, rfl, rfl, rfl, rfl, rfl⟩, hwc.2.2, fun j a b => absurd a (by omega), fun j _ => rfl⟩
    have e5 := potR_succ (f := mv) (w := fun _ => 1) hmt
    rw [if_neg hkt] at e5
    have e6 : potR mv (wgt K (mark + 0)) mark (term + 1 - mark) = potR mv (fun _ => 1) mark (term + 1 - mark) := potR_congr _ (fun i a _ _ => if_neg (by omega))
    exact ⟨_, K', mv', e1, by omega, by omega, e2, e3, e4⟩
  | succ k ih =>
    intro f mv hk hf hkt hcl hp
    obtain ⟨f, rfl⟩ : ∃ e, f = e + 1 := ⟨f - 1, by omega⟩
    have c0 : nz (mark + (k + 1)) + (-1) = nz (mark + k) := nz_m1 (mark + k)
    have c1 : ¬ nz (mark + k) < nz mark := fun hq => absurd ((nz_lt (by omega) (by omega)).mp hq) (by omega)
    have c2 : inb (nz (mark + k)) 32768 = true := nz_inb (by omega) (by decide)
    have hbig : ∀ i, i ≠ mark + k → wgt K (mark + (k + 1)) i = wgt K (mark + k) i := by
      intro i hi
      unfold wgt
      by_cases h : i < mark + k
      · rw [if_pos h, if_pos (by omega)]
      · rw [if_neg h, if_neg (by omega)]
    rw [kDn_step, c0, if_neg c1, if_pos c2, nz_nat (by omega)]
    by_cases hm : mv (mark + k) = -1
    · rw [if_pos hm]
      refine ih f mv (by omega) (by omega) hkt ?_ ?_
      · intro i q1 q2 q3
        rcases Nat.eq_or_lt_of_le q1 with q | q
        · rw [← q] at q3; exact absurd hm q3
        · exact hcl i (by omega) q2 q3
      · rw [← potR_congr (w := wgt K (mark + (k + 1))) _ (fun i _ _ q => hbig i (fun e => q (by rw [e]; exact hm)))]
        exact hp
    · rw [if_neg hm, if_pos c2]
      obtain ⟨u, hu⟩ := hw.2.2 (mark + k) (by omega)
      have hk1 := (Rep_view hu).1
      have hsz := sz_at hu
      have hone := potR_one (f := mv) (w := wgt K (mark + (k + 1))) (w' := wgt K (mark + k)) (lo := mark) (i := mark + k) (term + 1 - mark) (by omega) (by omega) hm hbig
      rw [show wgt K (mark + k) (mark + k) = 1 from if_neg (Nat.lt_irrefl _), show wgt K (mark + (k + 1)) (mark + k) = sizeT u from (if_pos (by omega)).trans hsz] at hone
      have hpu := sizeT_pos u
      have hk8 : kdT u < 8 := by rcases (Rep_view hu).2 with v | v <;> omega
      by_cases h5 : kdT u < 5
      · rw [if_pos (by rw [hk1]; exact (nz_lt (j := 5) (by omega) (by decide)).mpr h5)]
        refine ih f mv (by omega) (by omega) hkt ?_ (by omega)
        intro i q1 q2 q3 q4
        rcases Nat.eq_or_lt_of_le q1 with q | q
        · rw [← q, hk1] at q4
          exact absurd ((nz_lt (j := 5) (by omega) (by decide)).mpr h5) q4
        · exact hcl i (by omega) q2 q3 q4
      · rw [if_neg (by rw [hk1]; exact fun hq => h5 ((nz_lt (j := 5) (by omega) (by decide)).mp hq)), if_pos c2]
        obtain ⟨a, b, j, l, p1, p2, p3, p4, p5, p6, p7, p8⟩ := Rep_parts hn0 hu (by omega)
        have hsj := sz_at p7
        have hsl := sz_at p8
        rw [p5, keepPart_ok (by omega), Option.bind_some, if_pos c2, p6]
        show Kept (Option.bind (f_X9_keepPart K.1 (upd mv j (nz j)) (nz l)) _) K n mark term S
        rw [keepPart_ok (by omega), Option.bind_some]
        have stay : ∀ x, mv x ≠ -1 → upd (upd mv j (nz j)) l (nz l) x ≠ -1 := by
          intro x hx
          by_cases q : x = l
          · rw [show upd (upd mv j (nz j)) l (nz l) x = nz l from if_pos q]; exact nz_no (by omega)
          · rw [show upd (upd mv j (nz j)) l (nz l) x = upd mv j (nz j) x from if_neg q]
            by_cases q' : x = j
            · rw [show upd mv j (nz j) x = nz j from if_pos q']; exact nz_no (by omega)
            · rw [show upd mv j (nz j) x = mv x from if_neg q']; exact hx
        refine ih f _ (by omega) (by omega) (stay term hkt) ?_ ?_
        · intro i q1 q2 q3 q4 x x1 x2 x3
          show upd (upd mv j (nz j)) l (nz l) x ≠ -1
          have q3 : upd (upd mv j (nz j)) l (nz l) i ≠ -1 := q3
          by_cases q : i = mark + k
          · subst q
            by_cases y : x = l
            · rw [show upd (upd mv j (nz j)) l (nz l) x = nz l from if_pos y]; exact nz_no (by omega)
            · rw [show upd (upd mv j (nz j)) l (nz l) x = upd mv j (nz j) x from if_neg y]
              have y' : x = j := by
                rcases x3 with x3 | x3
                · exact (nz_inj (by omega) (by omega)).mp (x3.symm.trans p5)
                · exact absurd ((nz_inj (by omega) (by omega)).mp (x3.symm.trans p6)) y
              rw [show upd mv j (nz j) x = nz j from if_pos y']; exact nz_no (by omega)
          · have e : upd (upd mv j (nz j)) l (nz l) i = mv i := (if_neg (by omega)).trans (if_neg (by omega))
            rw [e] at q3
            exact stay x (hcl i (by omega) q2 q3 q4 x x1 x2 x3)
        · have g1 := potR_upd (f := upd mv j (nz j)) (w := wgt K (mark + k)) (lo := mark) (j := l) (v := nz l) (term + 1 - mark)
          have g2 := potR_upd (f := mv) (w := wgt K (mark + k)) (lo := mark) (j := j) (v := nz j) (term + 1 - mark)
          rw [show wgt K (mark + k) l = sizeT b from (if_pos p2).trans hsl] at g1
          rw [show wgt K (mark + k) j = sizeT a from (if_pos p1).trans hsj] at g2
          show potR (upd (upd mv j (nz j)) l (nz l)) (wgt K (mark + k)) mark (term + 1 - mark) ≤ S
          omega
theorem kSet_ok {K : Rows} {n mark term : Nat} {t : Tm} (hw : WF K n) (hmt : mark ≤ term) (ht : Rep K n t term) : ∀ (k f : Nat) (mv : Nat → Int32) (i : Nat), i + k = term + 1 → mark ≤ i → k < f → (∀ j, mark ≤ j → j < i → mv j = -1) →
    Kept (kSet f K mv (nz mark) (nz term) (nz i)) K n mark term (sizeT t) := by
  intro k
  have hn0 := hw.2.1
  have htn := Rep_lt ht
  induction k with
  | zero =>
    intro f mv i hi hmi hf h
    obtain ⟨f, rfl⟩ : ∃ e, f = e + 1 := ⟨f - 1, by omega⟩
    have hi' : i = term + 1 := by omega
    subst hi'
    rw [kSet_step, if_pos ((nz_lt (by omega) (by omega)).mpr (Nat.lt_succ_self _)), if_pos (nz_inb (by omega) (by decide)), nz_nat (by omega)]
    have e : nz term = nz (mark + (term + 1 - mark)) + (-1) := by
      rw [show mark + (term + 1 - mark) = term + 1 by omega, nz_m1]
    have q := kDn_ok (S := sizeT t) hw hmt htn (term + 1 - mark) 100000 (upd mv term (nz term)) (by omega) (by omega) (by rw [show upd mv term (nz term) term = nz term from if_pos rfl]; exact nz_no (by omega)) (fun i q1 q2 => absurd q1 (by omega)) ?_
    · rw [← e] at q; exact q
    · have g := potR_upd (f := mv) (w := wgt K (mark + (term + 1 - mark))) (lo := mark) (j := term) (v := nz term) (term + 1 - mark)
      rw [potR_none (f := mv) _ (fun i a b => h i a (by omega)), show wgt K (mark + (term + 1 - mark)) term = sizeT t from (if_pos (by omega)).trans (sz_at ht)] at g
      omega
  | succ k ih =>
    intro f mv i hi hmi hf h
    obtain ⟨f, rfl⟩ : ∃ e, f = e + 1 := ⟨f - 1, by omega⟩
    rw [kSet_step, if_neg (fun hq => absurd ((nz_lt (by omega) (by omega)).mp hq) (by omega)), if_pos (nz_inb (by omega) (by decide)), nz_nat (by omega), show nz i + 1 = nz (i + 1) from nz_add i 1]
    refine ih f _ (i + 1) (by omega) (by omega) (by omega) ?_
    intro j q1 q2
    by_cases q : j = i
    · exact if_pos q
    · exact (if_neg q).trans (h j q1 (by omega))
theorem release_ok {K : Rows} {n mark : Nat} (hw : WF K n) (hm : mark ≤ n) : f_X9_release K.1 (nz mark) = some (nz mark) := by
  have hn0 := hw.2.1
  unfold f_X9_release
  rw [if_neg (nz_neg (by omega)), hw.1]
  by_cases h : n ≤ mark
  · rw [if_pos ((nz_le (by omega) (by omega)).mpr h), show n = mark by omega]
  · rw [if_neg (fun hq => h ((nz_le (by omega) (by omega)).mp hq))]
/-- keep: at most as many rows stay behind the mark as the term is large, none if it stands ahead of it -/
theorem rKeep_ok {K : Rows} {n mark i : Nat} {t : Tm} {mv : Nat → Int32} (hw : WF K n) (hm : mark ≤ n) (ht : Rep K n t i) : ∃ K' M mv' j, rKeep K mv (nz mark) (nz i) = some (flat (nz j) K' mv') ∧ WF K' M ∧ mark ≤ M ∧ M ≤ mark + sizeT t ∧ Ext K K' mark ∧ Rep K' M t j ∧ (i < mark → M = mark ∧ j = i) := by
  have hn0 := hw.2.1
  have hin := Rep_lt ht
  rw [rKeep_step, if_neg (nz_neg (by omega))]
  by_cases h : i < mark
  · rw [if_pos ((nz_lt (by omega) (by omega)).mpr h), release_ok hw hm, Option.bind_some]
    exact ⟨setM K mark, mark, mv, i, rfl, WF_cut hw hm, Nat.le_refl _, Nat.le_add_right _ _, Ext_setM K mark mark, Rep_ext (Ext_setM K mark mark) (Nat.le_refl _) t i (Rep_cut t i ht h), fun _ => ⟨rfl, rfl⟩⟩
  · rw [if_neg (fun hq => h ((nz_lt (by omega) (by omega)).mp hq)), if_pos (by rw [hw.1]; exact (nz_lt (by omega) (by omega)).mpr hin)]
    obtain ⟨M, K', mv', e1, e2, e3, e4, e5, e6⟩ := kSet_ok hw (by omega) ht (i + 1 - mark) 100000 mv mark (by omega) (Nat.le_refl _) (by omega) (fun j a b => absurd a (by omega))
    exact ⟨K', M, mv', M - 1, e1, e4, by omega, e3, e5, e6 t ht, fun hq => absurd hq h⟩
theorem rKeep_no {K : Rows} {n mark : Nat} {mv : Nat → Int32} (hw : WF K n) (hm : mark ≤ n) : rKeep K mv (nz mark) (-1) = some (flat (-1) (setM K mark) mv) := by
  have hn0 := hw.2.1
  have c : (-1 : Int32) < nz mark := by
    rw [Int32.lt_iff_toInt_lt, nz_toInt (by omega)]
    have e : (-1 : Int32).toInt = -1 := by decide
    omega
  rw [rKeep_step, if_neg (nz_neg (by omega)), if_pos c, release_ok hw hm, Option.bind_some]
  rfl
