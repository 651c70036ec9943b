def flat (a : Int32) (K : Rows) (mv : Nat → Int32) : Int32 × KO := (a, flat2 K mv)
def rowsOf (q : KO) : Rows := (q.1, q.2.1, q.2.2.1, q.2.2.2.1, q.2.2.2.2.1, q.2.2.2.2.2.1, q.2.2.2.2.2.2.1, q.2.2.2.2.2.2.2.1, q.2.2.2.2.2.2.2.2.1)
def mvOf (q : KO) : Nat → Int32 := q.2.2.2.2.2.2.2.2.2
def kUp (f : Nat) (K : Rows) (mv : Nat → Int32) (v1 v2 v3 : Int32) : Option (Int32 × KO) := f_X9_keep_L111 f K.1 K.2.1 K.2.2.1 K.2.2.2.1 K.2.2.2.2.1 K.2.2.2.2.2.1 K.2.2.2.2.2.2.1 K.2.2.2.2.2.2.2.1 K.2.2.2.2.2.2.2.2 mv v1 v2 v3
def kDn (f : Nat) (K : Rows) (mv : Nat → Int32) (v1 v2 v3 : Int32) : Option (Int32 × KO) := f_X9_keep_L53 f K.1 K.2.1 K.2.2.1 K.2.2.2.1 K.2.2.2.2.1 K.2.2.2.2.2.1 K.2.2.2.2.2.2.1 K.2.2.2.2.2.2.2.1 K.2.2.2.2.2.2.2.2 mv v1 v2 v3
def kSet (f : Nat) (K : Rows) (mv : Nat → Int32) (v1 v2 v3 : Int32) : Option (Int32 × KO) := f_X9_keep_L26 f K.1 K.2.1 K.2.2.1 K.2.2.2.1 K.2.2.2.2.1 K.2.2.2.2.2.1 K.2.2.2.2.2.2.1 K.2.2.2.2.2.2.2.1 K.2.2.2.2.2.2.2.2 mv v1 v2 v3
def rKeep (K : Rows) (mv : Nat → Int32) (p1 p2 : Int32) : Option (Int32 × KO) := f_X9_keep K.1 K.2.1 K.2.2.1 K.2.2.2.1 K.2.2.2.2.1 K.2.2.2.2.2.1 K.2.2.2.2.2.2.1 K.2.2.2.2.2.2.2.1 K.2.2.2.2.2.2.2.2 mv p1 p2
theorem kUp_step (f : Nat) (K : Rows) (mv : Nat → Int32) (v1 v2 v3 : Int32) : kUp (f + 1) K mv v1 v2 v3 = (if v2 < v3 then some (flat (K.1 - 1) K mv) else (if inb v3 32768 = true then (if mv (Int32.toNatClampNeg v3) = -1 then kUp f K mv v1 v2 (v3 + 1) else (kSlide K mv v3 v1).bind (fun q => kUp f (rowsOf q) (mvOf q) v1 v2 (v3 + 1))) else none)) := rfl
theorem kDn_step (f : Nat) (K : Rows) (mv : Nat → Int32) (v1 v2 v3 : Int32) : kDn (f + 1) K mv v1 v2 v3 = (if v3 < v1 then kUp 100000 (v1, K.2) mv v1 v2 v1 else (if inb v3 32768 = true then (if mv (Int32.toNatClampNeg v3) = -1 then kDn f K mv v1 v2 (v3 + (-1)) else (if inb v3 32768 = true then (if K.2.1 (Int32.toNatClampNeg v3) < 5 then kDn f K mv v1 v2 (v3 + (-1)) else (if inb v3 32768 = true then (f_X9_keepPart K.1 mv (K.2.2.1 (Int32.toNatClampNeg v3))).bind (fun q => if inb v3 32768 = true then (f_X9_keepPart q.1 q.2 (K.2.2.2.1 (Int32.toNatClampNeg v3))).bind (fun q' => kDn f (q'.1, K.2) q'.2 v1 v2 (v3 + (-1))) else none) else none)) else none)) else none)) := rfl
theorem kSet_step (f : Nat) (K : Rows) (mv : Nat → Int32) (v1 v2 v3 : Int32) : kSet (f + 1) K mv v1 v2 v3 = (if v2 < v3 then (if inb v2 32768 = true then kDn 100000 K (upd mv (Int32.toNatClampNeg v2) v2) v1 v2 v2 else none) else (if inb v3 32768 = true then kSet f K (upd mv (Int32.toNatClampNeg v3) (-1)) v1 v2 (v3 + 1) else none)) := rfl
theorem rKeep_step (K : Rows) (mv : Nat → Int32) (p1 p2 : Int32) : rKeep K mv p1 p2 = (if p1 < 0 then (f_X9_release K.1 p1).bind (fun q => some (flat p2 (q, K.2) mv)) else (if p2 < p1 then (f_X9_release K.1 p1).bind (fun q => some (flat p2 (q, K.2) mv)) else (if p2 < K.1 then kSet 100000 K mv p1 p2 p1 else (f_X9_release K.1 p1).bind (fun q => some (flat p2 (q, K.2) mv))))) := rfl
theorem potR_le {f : Nat → Int32} {lo : Nat} : ∀ k, potR f (fun _ => 1) lo k ≤ k := by
  intro k
  induction k with
  | zero => exact Nat.le_refl 0
  | succ k ih =>
    show potR f (fun _ => 1) lo k + (if f (lo + k) = -1 then 0 else 1) ≤ k + 1
    split <;> omega
theorem potR_succ {f : Nat → Int32} {w : Nat → Nat} {lo i : Nat} (h : lo ≤ i) : potR f w lo (i + 1 - lo) = potR f w lo (i - lo) + (if f i = -1 then 0 else w i) := by
  have e : i + 1 - lo = (i - lo) + 1 := by omega
  rw [e]
  show potR f w lo (i - lo) + (if f (lo + (i - lo)) = -1 then 0 else w (lo + (i - lo))) = _
  rw [show lo + (i - lo) = i by omega]
def KI (K0 : Rows) (n0 mark : Nat) (mv0 : Nat → Int32) (K : Rows) (m : Nat) (mv : Nat → Int32) (i : Nat) : Prop :=
  K.1 = nz m ∧ m = mark + potR mv0 (fun _ => 1) mark (i - mark) ∧ Ext K0 K mark ∧
  (∀ r, m ≤ r → K.2.1 r = K0.2.1 r ∧ K.2.2.1 r = K0.2.2.1 r ∧ K.2.2.2.1 r = K0.2.2.2.1 r ∧ K.2.2.2.2.1 r = K0.2.2.2.2.1 r ∧ K.2.2.2.2.2.1 r = K0.2.2.2.2.2.1 r ∧ K.2.2.2.2.2.2.1 r = K0.2.2.2.2.2.2.1 r ∧ K.2.2.2.2.2.2.2.1 r = K0.2.2.2.2.2.2.2.1 r ∧ K.2.2.2.2.2.2.2.2 r = K0.2.2.2.2.2.2.2.2 r) ∧
  (∀ r, r < m → ∃ t, Rep K m t r) ∧
  (∀ j, mark ≤ j → j < i → mv0 j ≠ -1 → ∃ r, r < m ∧ mv j = nz r ∧ r = mark + potR mv0 (fun _ => 1) mark (j - mark) ∧ ∀ t, Rep K0 n0 t j → Rep K m t r) ∧
  (∀ j, i ≤ j → mv j = mv0 j)
theorem KI_add {K0 : Rows} {n0 mark : Nat} {mv0 : Nat → Int32} {K : Rows} {m : Nat} {mv : Nat → Int32} {i : Nat} (h : KI K0 n0 mark mv0 K m mv i) (hmi : mark ≤ i) (hk : mv0 i ≠ -1) {u : Tm} (hu : Rep K0 n0 u i) {a b c d e f g l : Int32}
    (hrep : ∀ t, Rep K0 n0 t i → Rep (addRow K m a b c d e f g l) (m + 1) t m) : KI K0 n0 mark mv0 (addRow K m a b c d e f g l) (m + 1) (upd mv i (nz m)) (i + 1) := by
  obtain ⟨h1, h2, h3, h4, h5, h6, h7⟩ := h
  have hmm : mark ≤ m := by omega
  have hx := Ext_add K m a b c d e f g l
  refine ⟨rfl, ?_, Ext_trans h3 hx hmm, ?_, ?_, ?_, ?_⟩
  · rw [potR_succ hmi, if_neg hk]; omega
  · intro r hr
    have hne : ¬ r = m := by omega
    obtain ⟨b1, b2, b3, b4, b5, b6, b7, b8⟩ := h4 r (by omega)
    exact ⟨(if_neg hne).trans b1, (if_neg hne).trans b2, (if_neg hne).trans b3, (if_neg hne).trans b4, (if_neg hne).trans b5, (if_neg hne).trans b6, (if_neg hne).trans b7, (if_neg hne).trans b8⟩
  · intro r hr
    rcases Nat.lt_succ_iff_lt_or_eq.mp hr with hr | rfl
    · obtain ⟨t, ht⟩ := h5 r hr
      exact ⟨t, Rep_ext hx (Nat.le_succ m) t r ht⟩
    · exact ⟨u, hrep u hu⟩
  · intro j q1 q2 q3
    rcases Nat.lt_succ_iff_lt_or_eq.mp q2 with q2 | rfl
    · obtain ⟨r, r1, r2, r3, r4⟩ := h6 j q1 q2 q3
      exact ⟨r, by omega, (if_neg (by omega)).trans r2, r3, fun t ht => Rep_ext hx (Nat.le_succ m) t r (r4 t ht)⟩
    · exact ⟨m, Nat.lt_succ_self m, if_pos rfl, h2, hrep⟩
  · intro j hj
    exact (if_neg (by omega)).trans (h7 j (by omega))
/-- a part of a kept row is kept -/
def Cl0 (K0 : Rows) (lo term mark : Nat) (mv : Nat → Int32) : Prop := ∀ i, lo ≤ i → i ≤ term → mv i ≠ -1 → ¬ K0.2.1 i < 5 → ∀ j, mark ≤ j → j < i → (K0.2.2.1 i = nz j ∨ K0.2.2.2.1 i = nz j) → mv j ≠ -1
theorem kUp_ok {K0 : Rows} {n0 mark term : Nat} {mv0 : Nat → Int32} (hw : WF K0 n0) (hmt : mark ≤ term) (htn : term < n0) (hcl : Cl0 K0 mark term mark mv0) (hkt : mv0 term ≠ -1) :
    ∀ (k f : Nat) (K : Rows) (m : Nat) (mv : Nat → Int32) (i : Nat), i + k = term + 1 → mark ≤ i → k < f → KI K0 n0 mark mv0 K m mv i →
    ∃ K' mv', kUp f K mv (nz mark) (nz term) (nz i) = some (flat (nz (mark + potR mv0 (fun _ => 1) mark (term + 1 - mark) - 1)) K' mv') ∧ WF K' (mark + potR mv0 (fun _ => 1) mark (term + 1 - mark)) ∧ Ext K0 K' mark ∧
      ∀ t, Rep K0 n0 t term → Rep K' (mark + potR mv0 (fun _ => 1) mark (term + 1 - mark)) t (mark + potR mv0 (fun _ => 1) mark (term + 1 - mark) - 1) := by
  intro k
  have hn0 := hw.2.1
  induction k with
  | zero =>
    intro f K m mv i hi hmi hf h
    obtain ⟨f, rfl⟩ : ∃ e, f = e + 1 := ⟨f - 1, by omega⟩
    obtain ⟨h1, h2, h3, h4, h5, h6, h7⟩ := h
    have hi' : i = term + 1 := by omega
    subst hi'
    rw [← h2]
    have hpl := potR_le (f := mv0) (lo := mark) (term + 1 - mark)
    have e1 := potR_succ (f := mv0) (w := fun _ => 1) hmt
    rw [if_neg hkt] at e1
    obtain ⟨r, r1, r2, r3, r4⟩ := h6 term hmt (Nat.lt_succ_self _) hkt
    have e2 : r = m - 1 := by omega
    refine ⟨K, mv, ?_, ⟨h1, by omega, h5⟩, h3, fun t ht => by rw [← e2]; exact r4 t ht⟩
    rw [kUp_step, if_pos ((nz_lt (by omega) (by omega)).mpr (Nat.lt_succ_self _)), h1]
    have e3 : nz m - 1 = nz (m - 1) := by
      have e4 : nz m = nz (m - 1) + 1 := by
        show nz m = nz (m - 1) + nz 1
        rw [nz_add]
        congr 1
        omega
      rw [e4]
      exact Int32.add_sub_cancel _ _
    rw [e3]
  | succ k ih =>
    intro f K m mv i hi hmi hf h
    obtain ⟨f, rfl⟩ : ∃ e, f = e + 1 := ⟨f - 1, by omega⟩
    have h' := h
    obtain ⟨h1, h2, h3, h4, h5, h6, h7⟩ := h'
    have hpl := potR_le (f := mv0) (lo := mark) (i - mark)
    have c1 : ¬ nz term < nz i := fun hq => absurd ((nz_lt (by omega) (by omega)).mp hq) (by omega)
    have c2 : inb (nz i) 32768 = true := nz_inb (by omega) (by decide)
    have c3 : nz i + 1 = nz (i + 1) := nz_add i 1
    rw [kUp_step, if_neg c1, if_pos c2, nz_nat (by omega), h7 i (Nat.le_refl i), c3]
    by_cases hk : mv0 i = -1
    · rw [if_pos hk]
      refine ih f K m mv (i + 1) (by omega) (by omega) (by omega) ⟨h1, ?_, h3, h4, h5, ?_, fun j hj => h7 j (by omega)⟩
      · rw [potR_succ hmi, if_pos hk]; exact h2
      · intro j q1 q2 q3
        rcases Nat.lt_succ_iff_lt_or_eq.mp q2 with q2 | rfl
        · exact h6 j q1 q2 q3
        · exact absurd hk q3
    · rw [if_neg hk]
      have hin : i < n0 := by omega
      obtain ⟨u, hu⟩ := hw.2.2 i hin
      obtain ⟨b1, b2, b3, b4, b5, b6, b7, b8⟩ := h4 i (by omega)
      have hl : K.2.2.2.2.2.2.2.2 i = 0 ∨ K.2.2.2.2.2.2.2.2 i = 1 := by
        rw [b8, (Rep_calls_loose hu).2.2.2.2]
        by_cases q : looseT u = true
        · rw [if_pos q]; exact Or.inr rfl
        · rw [if_neg q]; exact Or.inl rfl
      have hx := fun a b c d e f g l => Ext_add K m a b c d e f g l
      obtain ⟨k1, v1⟩ := Rep_view hu
      rcases v1 with ⟨v1, v2, v3, v4⟩ | ⟨v1, v2, a, b, j, l, v3, v4, v5, v6, v7, v8⟩
      · have hk5 : K.2.1 i < 5 := by
          rw [b1, k1]
          exact (nz_lt (j := 5) (by omega) (by decide)).mpr v1
        rw [slide_leaf h1 (by omega) (by omega) hk5 hl]
        refine ih f _ (m + 1) _ (i + 1) (by omega) (by omega) (by omega) (KI_add h hmi hk hu ?_)
        intro t ht
        have et := Rep_uniq hn0 (sizeT t) t u i (Nat.le_refl _) ht hu
        refine Rep_copy ht ⟨(if_pos rfl).trans b1, (if_pos rfl).trans b4, (if_pos rfl).trans b5, (if_pos rfl).trans b6, (if_pos rfl).trans b7, (if_pos rfl).trans b8⟩ (fun _ => (if_pos rfl).trans b2) ?_
        intro a b j l q; rw [et] at q; omega
      · have hk5' : ¬ K0.2.1 i < 5 := by
          rw [k1]
          exact fun hq => absurd ((nz_lt (j := 5) (by omega) (by decide)).mp hq) (by omega)
        have hk5 : ¬ K.2.1 i < 5 := by rw [b1]; exact hk5'
        have hji : j < i := by
          have q := Rep_lt v7
          cases u with
          | index k => exact absurd v1 (by decide : ¬ 5 ≤ 1)
          | arg p => have := hu.2.2.1; have w : p % 8 < 5 := this.1; exact absurd (show 5 ≤ p % 8 from v1) (by omega)
          | add a' b' =>
            obtain ⟨-, -, -, j', l', w1, w2, w3, w4, w5, w6⟩ := hu
            have := (nz_inj (by omega) (by omega)).mp (v5.symm.trans w3); omega
          | sub a' b' =>
            obtain ⟨-, -, -, j', l', w1, w2, w3, w4, w5, w6⟩ := hu
            have := (nz_inj (by omega) (by omega)).mp (v5.symm.trans w3); omega
          | mul a' b' =>
            obtain ⟨-, -, -, j', l', w1, w2, w3, w4, w5, w6⟩ := hu
            have := (nz_inj (by omega) (by omega)).mp (v5.symm.trans w3); omega
          | _ => exact hu.elim
        have hli : l < i := by
          have q := Rep_lt v8
          cases u with
          | index k => exact absurd v1 (by decide : ¬ 5 ≤ 1)
          | arg p => have := hu.2.2.1; have w : p % 8 < 5 := this.1; exact absurd (show 5 ≤ p % 8 from v1) (by omega)
          | add a' b' =>
            obtain ⟨-, -, -, j', l', w1, w2, w3, w4, w5, w6⟩ := hu
            have := (nz_inj (by omega) (by omega)).mp (v6.symm.trans w4); omega
          | sub a' b' =>
            obtain ⟨-, -, -, j', l', w1, w2, w3, w4, w5, w6⟩ := hu
            have := (nz_inj (by omega) (by omega)).mp (v6.symm.trans w4); omega
          | mul a' b' =>
            obtain ⟨-, -, -, j', l', w1, w2, w3, w4, w5, w6⟩ := hu
            have := (nz_inj (by omega) (by omega)).mp (v6.symm.trans w4); omega
          | _ => exact hu.elim
        rw [slide_pair h1 (by omega) (by omega) (by omega) hk5 hl (b2.trans v5) (b3.trans v6) hji hli]
        refine ih f _ (m + 1) _ (i + 1) (by omega) (by omega) (by omega) (KI_add h hmi hk hu ?_)
        intro t ht
        have part : ∀ (x : Nat) (c : Tm), x < i → (K0.2.2.1 i = nz x ∨ K0.2.2.2.1 i = nz x) → Rep K0 n0 c x → ∃ y, y < m ∧ newp mv mark x = nz y ∧ Rep K m c y := by
          intro x c hxi hor hc
          unfold newp
          by_cases hxm : x < mark
          · rw [if_pos hxm]
            exact ⟨x, by omega, rfl, Rep_ext h3 (by omega) c x (Rep_cut c x hc hxm)⟩
          · rw [if_neg hxm]
            obtain ⟨r, r1, r2, r3, r4⟩ := h6 x (by omega) hxi (hcl i hmi (by omega) hk hk5' x (by omega) hxi hor)
            exact ⟨r, r1, r2, r4 c hc⟩
        refine Rep_copy ht ⟨(if_pos rfl).trans b1, (if_pos rfl).trans b4, (if_pos rfl).trans b5, (if_pos rfl).trans b6, (if_pos rfl).trans b7, (if_pos rfl).trans b8⟩ ?_ ?_
        · intro q
          have et := Rep_uniq hn0 (sizeT t) t u i (Nat.le_refl _) ht hu
          rw [et] at q; omega
        · intro a' b' j' l' _ q2 q3 q4 q5 q6 q7
          have ej : j' = j := (nz_inj (by omega) (by omega)).mp (q2.symm.trans v5)
          have el : l' = l := (nz_inj (by omega) (by omega)).mp (q3.symm.trans v6)
          subst ej el
          obtain ⟨y, y1, y2, y3⟩ := part j' a' q4 (Or.inl q2) q6
          obtain ⟨z, z1, z2, z3⟩ := part l' b' q5 (Or.inr q3) q7
          exact ⟨y, z, y1, z1, (if_pos rfl).trans y2, (if_pos rfl).trans z2, Rep_ext (hx _ _ _ _ _ _ _ _) (Nat.le_succ m) a' y y3, Rep_ext (hx _ _ _ _ _ _ _ _) (Nat.le_succ m) b' z z3⟩
