theorem ups_thS {c : Tm} (hc : isC c = true) (x m : Nat) : ups (thS x m c) = thS (x + 1) m c := by
  funext k
  cases k with
  | zero => rw [thS_lt (by omega)]; rfl
  | succ k =>
    show ren (thS x m c k) Nat.succ = _
    exact thS_ren hc x m 1 k
theorem freeT_spine_argv : ∀ (m x : Nat) (h : Tm), freeT (spine h (argv m x)) ≤ max (freeT h) (x + m)
  | 0, x, h => by show freeT h ≤ _; omega
  | m + 1, x, h => by
    have q := freeT_spine_argv m x (.mul h (.index (x + m)))
    have e : freeT (.mul h (.index (x + m)) : Tm) = max (freeT h) (x + m + 1) := rfl
    rw [e] at q
    show freeT (spine (.mul h (.index (x + m))) (argv m x)) ≤ _
    omega
theorem freeT_c {t : Tm} (h : isC t = true) : freeT t = 0 := by
  cases t <;> first | rfl | (cases h; done)
theorem freeT_thS {c : Tm} (hc : isC c = true) (m : Nat) : ∀ (t : Tm) (x : Nat), freeT (sbs t (thS x m c)) ≤ max (freeT t + m) (x + m) := by
  intro t
  refine tm_ind (P := fun t => ∀ x, freeT (sbs t (thS x m c)) ≤ max (freeT t + m) (x + m)) ?_ ?_ ?_ ?_ ?_ t
  · intro k x
    show freeT (thS x m c k) ≤ max (k + 1 + m) (x + m)
    rcases Nat.lt_trichotomy k x with q | q | q
    · rw [thS_lt q]; show k + 1 ≤ _; omega
    · subst q
      rw [thS_eq]
      have := freeT_spine_argv m k c
      rw [freeT_c hc] at this
      omega
    · rw [thS_gt q]; show k - 1 + m + 1 ≤ _; omega
  · intro t ht x; rw [sbs_c ht]; omega
  · intro a b ha hb x
    show max (freeT (sbs a (thS x m c))) (freeT (sbs b (ups (thS x m c))) - 1) ≤ max (max (freeT a) (freeT b - 1) + m) (x + m)
    rw [ups_thS hc]
    have := ha x
    have := hb (x + 1)
    omega
  · intro a b ha hb x
    show max (freeT (sbs a (thS x m c))) (freeT (sbs b (ups (thS x m c))) - 1) ≤ max (max (freeT a) (freeT b - 1) + m) (x + m)
    rw [ups_thS hc]
    have := ha x
    have := hb (x + 1)
    omega
  · intro a b ha hb x
    show max (freeT (sbs a (thS x m c))) (freeT (sbs b (thS x m c))) ≤ max (max (freeT a) (freeT b) + m) (x + m)
    have := ha x
    have := hb x
    omega
theorem nf_TyOK {t u : Tm} {g : Nat} (h : nf t = some u) (hf : freeT t ≤ 10 + 20 * g) : TyOK u g := by
  obtain ⟨a, b, c⟩ := nfT_some 21 t u h
  exact ⟨a, b, Nat.le_trans c hf⟩
/-- the types of a child behind the place of the split -/
def Outs (old outs : List Tm) (m : Nat) (c : Tm) : Prop := outs.length = old.length ∧ ∀ (j : Nat) (A A' : Tm), old[j]? = some A → outs[j]? = some A' → nf (sbs A (thS j m c)) = some A'
def ChildL (Γ Γ' : List Tm) (pl : Nat) (c : Tm) (l : List Tm) : Prop := ∃ outs, Γ' = (Γ.reverse.take pl ++ (l ++ outs)).reverse ∧ Outs (Γ.reverse.drop (pl + 1)) outs l.length c
theorem ChildL_C {Γ Γ' : List Tm} {pl : Nat} {c : Tm} {l : List Tm} (hpl : pl < Γ.length) (h : ChildL Γ Γ' pl c l) : ChildC Γ Γ' (Γ.length - 1 - pl) c l := by
  obtain ⟨outs, rfl, h1, h2⟩ := h
  rw [List.length_drop, List.length_reverse] at h1
  have ht : (Γ.reverse.take pl).length = pl := by rw [List.length_take, List.length_reverse]; omega
  have hlen : (Γ.reverse.take pl ++ (l ++ outs)).length = pl + (l.length + outs.length) := by rw [List.length_append, List.length_append, ht]
  have at' : ∀ i, i < pl + (l.length + outs.length) → (Γ.reverse.take pl ++ (l ++ outs)).reverse[i]? = (Γ.reverse.take pl ++ (l ++ outs))[pl + (l.length + outs.length) - 1 - i]? := by
    intro i hi
    rw [List.getElem?_reverse (by rw [hlen]; exact hi), hlen]
  have no : ∀ i, pl + (l.length + outs.length) ≤ i → (Γ.reverse.take pl ++ (l ++ outs)).reverse[i]? = none := fun i hi => List.getElem?_eq_none (by rw [List.length_reverse, hlen]; exact hi)
  have inL : ∀ j, j < l.length → (Γ.reverse.take pl ++ (l ++ outs))[pl + j]? = l[j]? := by
    intro j hj
    rw [List.getElem?_append, if_neg (by omega), ht, List.getElem?_append, if_pos (by omega)]
    congr 1
    omega
  have inO : ∀ j, (Γ.reverse.take pl ++ (l ++ outs))[pl + l.length + j]? = outs[j]? := by
    intro j
    rw [List.getElem?_append, if_neg (by omega), ht, List.getElem?_append, if_neg (by omega)]
    congr 1
    omega
  have inT : ∀ j, j < pl → (Γ.reverse.take pl ++ (l ++ outs))[j]? = Γ[Γ.length - 1 - j]? := by
    intro j hj
    rw [List.getElem?_append, if_pos (by omega), List.getElem?_take, if_pos hj, List.getElem?_reverse (by omega)]
  refine ⟨?_, by omega, ?_, ?_, ?_⟩
  · rw [List.length_reverse, hlen]; omega
  · intro k A' hk hA
    rw [at' k (by omega), show pl + (l.length + outs.length) - 1 - k = pl + l.length + (Γ.length - 1 - pl - 1 - k) by omega, inO] at hA
    have e : (Γ.reverse.drop (pl + 1))[Γ.length - 1 - pl - 1 - k]? = Γ[k]? := by
      rw [List.getElem?_drop, List.getElem?_reverse (by omega)]
      congr 1
      omega
    have hk2 : k < Γ.length := by omega
    refine ⟨Γ[k], List.getElem?_eq_getElem hk2, ?_⟩
    exact h2 _ _ A' (e.trans (List.getElem?_eq_getElem hk2)) hA
  · intro j hj
    rw [at' _ (by omega), show pl + (l.length + outs.length) - 1 - (Γ.length - 1 - pl + j) = pl + (l.length - 1 - j) by omega, inL _ (by omega)]
  · intro j
    rcases Nat.lt_or_ge j pl with q | q
    · rw [at' _ (by omega), show pl + (l.length + outs.length) - 1 - (Γ.length - 1 - pl + l.length + j) = pl - 1 - j by omega, inT _ (by omega)]
      congr 1
      omega
    · rw [no _ (by omega), List.getElem?_eq_none (by omega)]
theorem ncl_append (a b : List Tm) : ncl (a ++ b) = ncl a + ncl b := by
  unfold ncl
  rw [List.filter_append, List.length_append]
theorem ncl_reverse (a : List Tm) : ncl a.reverse = ncl a := by
  unfold ncl
  rw [List.filter_reverse, List.length_reverse]
theorem ncl_outs {m : Nat} {c : Tm} : ∀ (old outs : List Tm) (n : Nat), outs.length = old.length → (∀ (j : Nat) (A A' : Tm), old[j]? = some A → outs[j]? = some A' → nf (sbs A (thS (n + j) m c)) = some A') → ncl outs ≤ ncl old
  | [], [], n, _, _ => Nat.le_refl _
  | [], _ :: _, n, h, _ => by cases h
  | _ :: _, [], n, h, _ => by cases h
  | A :: old, A' :: outs, n, h, h2 => by
    have ih := ncl_outs old outs (n + 1) (by simpa using h) (fun j X X' q1 q2 => by
      have := h2 (j + 1) X X' (by simpa using q1) (by simpa using q2)
      rw [show n + 1 + j = n + (j + 1) by omega]
      exact this)
    have h0 := h2 0 A A' rfl rfl
    unfold ncl at ih ⊢
    rw [List.filter_cons, List.filter_cons]
    by_cases q : freeT A = 0
    · rw [sbs_zero q] at h0
      have q' : freeT A' = 0 := by have := (nfT_some 21 A A' h0).2.2; omega
      rw [if_neg (show ¬ (freeT A' != 0) = true by simp [q']), if_neg (show ¬ (freeT A != 0) = true by simp [q])]
      exact ih
    · rw [if_pos (show (freeT A != 0) = true by simp [q]), List.length_cons]
      split
      · rw [List.length_cons]; omega
      · omega
theorem ncl_dats (l : List Nat) : ncl (l.map dat) = 0 := by
  induction l with
  | nil => rfl
  | cons d l ih =>
    unfold ncl at ih ⊢
    rw [List.map_cons, List.filter_cons, if_neg (show ¬ (freeT (dat d) != 0) = true from (by decide : ¬ ((0 : Nat) != 0) = true))]
    exact ih
theorem ncl_take_drop (l : List Tm) (k : Nat) : ncl (l.take k) + ncl (l.drop (k + 1)) ≤ ncl l := by
  have e : ncl l = ncl (l.take k) + ncl (l.drop k) := by rw [← ncl_append, List.take_append_drop]
  have e2 : ncl (l.drop (k + 1)) ≤ ncl (l.drop k) := by
    rw [← List.drop_drop, ]
    have w : ∀ x : List Tm, ncl (x.drop 1) ≤ ncl x := by
      intro x
      cases x with
      | nil => exact Nat.le_refl _
      | cons a x =>
        show ncl x ≤ ncl (a :: x)
        unfold ncl
        rw [List.filter_cons]
        split
        · rw [List.length_cons]; omega
        · exact Nat.le_refl _
    exact w _
  omega
theorem ChildL_ncl {Γ Γ' : List Tm} {pl : Nat} {c : Tm} {l : List Nat} (h : ChildL Γ Γ' pl c (l.map dat)) : ncl Γ' ≤ ncl Γ := by
  obtain ⟨outs, rfl, h1, h2⟩ := h
  rw [ncl_reverse, ncl_append, ncl_append, ncl_dats, ← ncl_reverse Γ]
  have q := ncl_take_drop Γ.reverse pl
  have q2 := ncl_outs (m := (l.map dat).length) (c := c) _ outs 0 h1 (fun j A A' a b => by rw [Nat.zero_add]; exact h2 j A A' a b)
  omega
theorem ChildL_Ty {Γ Γ' : List Tm} {pl g h : Nat} {c : Nat} {l : List Nat} (hg : g < h) (hl : l.length ≤ 2) (hlen : Γ.length ≤ 12) (hpl : pl < Γ.length) (hT : ∀ T ∈ Γ, TyOK T g) (hc : ChildL Γ Γ' pl (cn c) (l.map dat)) : ∀ T ∈ Γ', TyOK T h := by
  obtain ⟨outs, rfl, h1, h2⟩ := hc
  intro T hTm
  rw [List.mem_reverse, List.mem_append, List.mem_append] at hTm
  rcases hTm with q | q | q
  · obtain ⟨a, b, e⟩ := hT T (List.mem_reverse.mp (List.mem_of_mem_take q))
    exact ⟨a, b, by omega⟩
  · obtain ⟨d, _, rfl⟩ := List.mem_map.mp q
    exact ⟨by show 1 ≤ 80; omega, rfl, Nat.zero_le _⟩
  · obtain ⟨j, hj⟩ := List.getElem?_of_mem q
    have hj2 : j < outs.length := by
      rcases Nat.lt_or_ge j outs.length with q | q
      · exact q
      · rw [List.getElem?_eq_none q] at hj; cases hj
    have hjo : j < (Γ.reverse.drop (pl + 1)).length := by rw [← h1]; exact hj2
    have ho := List.getElem?_eq_getElem hjo
    have hn := h2 j _ T ho hj
    have hm : (Γ.reverse.drop (pl + 1))[j] ∈ Γ := List.mem_reverse.mp (List.mem_of_mem_drop (List.getElem_mem hjo))
    have hf := freeT_thS (isC_cn c) (l.map dat).length (Γ.reverse.drop (pl + 1))[j] j
    rw [List.length_map] at hf
    have hq := (hT _ hm).2.2
    rw [List.length_drop, List.length_reverse] at hjo
    rw [List.length_map] at hn
    exact nf_TyOK hn (by omega)
/-- which constructor of a data type has this rank -/
def conOf (A : SG) (d r : Nat) : Nat → Nat
  | 0 => 0
  | k + 1 => if sOwn A k = d ∧ cntd A d k = r then k else conOf A d r k
theorem cntd_mono (A : SG) (d : Nat) : ∀ (k j : Nat), j ≤ k → cntd A d j ≤ cntd A d k := by
  intro k
  induction k with
  | zero => intro j hj; rw [show j = 0 by omega]; exact Nat.le_refl _
  | succ k ih =>
    intro j hj
    rcases Nat.lt_or_ge k j with q | q
    · rw [show j = k + 1 by omega]; exact Nat.le_refl _
    · have := ih j q
      show _ ≤ cntd A d k + _
      omega
theorem cntd_lt {A : SG} {d c k : Nat} (h : c < k) (ho : sOwn A c = d) : cntd A d c < cntd A d k := by
  have q := cntd_mono A d k (c + 1) h
  have e : cntd A d (c + 1) = cntd A d c + 1 := by show _ + (if sOwn A c = d then 1 else 0) = _; rw [if_pos ho]
  omega
theorem conOf_of {A : SG} {d c : Nat} (ho : sOwn A c = d) : ∀ k, c < k → conOf A d (cntd A d c) k = c := by
  intro k
  induction k with
  | zero => intro h; omega
  | succ k ih =>
    intro h
    show (if sOwn A k = d ∧ cntd A d k = cntd A d c then k else conOf A d (cntd A d c) k) = c
    by_cases e : c = k
    · subst e; exact if_pos ⟨ho, rfl⟩
    · have hlt : c < k := by omega
      rw [if_neg (fun q => by have := cntd_lt hlt ho; omega)]
      exact ih hlt
theorem conOf_ok {A : SG} {d r : Nat} : ∀ k, r < cntd A d k → conOf A d r k < k ∧ sOwn A (conOf A d r k) = d ∧ cntd A d (conOf A d r k) = r := by
  intro k
  induction k with
  | zero => intro h; exact absurd h (Nat.not_lt_zero _)
  | succ k ih =>
    intro h
    have h' : r < cntd A d k + (if sOwn A k = d then 1 else 0) := h
    by_cases q : sOwn A k = d ∧ cntd A d k = r
    · have e : conOf A d r (k + 1) = k := if_pos q
      rw [e]
      exact ⟨Nat.lt_succ_self k, q.1, q.2⟩
    · have e : conOf A d r (k + 1) = conOf A d r k := if_neg q
      rw [e]
      have hr : r < cntd A d k := by
        by_cases o : sOwn A k = d
        · rw [if_pos o] at h'
          rcases Nat.lt_or_ge r (cntd A d k) with w | w
          · exact w
          · exact absurd ⟨o, by omega⟩ q
        · rw [if_neg o] at h'; omega
      obtain ⟨a, b, c⟩ := ih hr
      exact ⟨by omega, b, c⟩
