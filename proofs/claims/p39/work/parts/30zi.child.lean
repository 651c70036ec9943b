/-! the children of a split, as trees -/
def conB : Tm → Bool
  | .arg m => m % 8 == 3
  | _ => false
def fnB : Tm → Bool
  | .arg m => m % 8 == 4
  | _ => false
def dat (d : Nat) : Tm := .arg (8 * d + 2)
def cn (c : Nat) : Tm := .arg (8 * c + 3)
def fnn (f : Nat) : Tm := .arg (8 * f + 4)
theorem conB_cn (c : Nat) : conB (cn c) = true := by show ((8 * c + 3) % 8 == 3) = true; rw [show (8 * c + 3) % 8 = 3 by omega]; rfl
theorem fnB_fnn (f : Nat) : fnB (fnn f) = true := by show ((8 * f + 4) % 8 == 4) = true; rw [show (8 * f + 4) % 8 = 4 by omega]; rfl
theorem ren_spine : ∀ (l : List Tm) (h : Tm) (ρ : Nat → Nat), ren (spine h l) ρ = spine (ren h ρ) (l.map (fun a => ren a ρ))
  | [], h, ρ => rfl
  | a :: l, h, ρ => ren_spine l (.mul h a) ρ
theorem argv_ren : ∀ (m x d : Nat), (argv m x).map (fun a => ren a (fun i => i + d)) = argv m (x + d)
  | 0, x, d => rfl
  | m + 1, x, d => by
    show Jvm.Term.index (x + m + d) :: (argv m x).map (fun a => ren a (fun i => i + d)) = .index (x + d + m) :: argv m (x + d)
    rw [argv_ren m x d, show x + m + d = x + d + m by omega]
theorem thS_lt {x m k : Nat} {c : Tm} (h : k < x) : thS x m c k = .index k := if_pos h
theorem thS_eq {x m : Nat} {c : Tm} : thS x m c x = spine c (argv m x) := by unfold thS; rw [if_neg (Nat.lt_irrefl x), if_pos rfl]
theorem thS_gt {x m k : Nat} {c : Tm} (h : x < k) : thS x m c k = .index (k - 1 + m) := by unfold thS; rw [if_neg (by omega), if_neg (by omega)]
theorem withv {c : Tm} (hc : isC c = true) (t : Tm) (m x : Nat) : sbs (ren t (shift m (x + 1))) (pt (spine c (argv m 0)) x) = sbs t (thS x m c) := by
  rw [sbs_ren]
  congr 1
  funext k
  rcases Nat.lt_trichotomy k x with h | h | h
  · rw [thS_lt h]
    show pt _ x (shift m (x + 1) k) = _
    rw [show shift m (x + 1) k = k from if_pos (by omega)]
    exact if_pos h
  · subst h
    rw [thS_eq]
    show pt _ k (shift m (k + 1) k) = _
    unfold pt
    rw [show shift m (k + 1) k = k from if_pos (Nat.lt_succ_self k), if_neg (Nat.lt_irrefl k), if_pos rfl, shift_zero, ren_spine, ren_c hc, argv_ren, Nat.zero_add]
  · rw [thS_gt h]
    show pt _ x (shift m (x + 1) k) = _
    unfold pt
    rw [show shift m (x + 1) k = k + m from if_neg (by omega), if_neg (by omega), if_neg (by omega), show k + m - 1 = k - 1 + m by omega]
theorem thS_ren {c : Tm} (hc : isC c = true) (x m d j : Nat) : ren (thS x m c j) (fun i => i + d) = thS (x + d) m c (j + d) := by
  rcases Nat.lt_trichotomy j x with h | h | h
  · rw [thS_lt h, thS_lt (by omega)]; rfl
  · subst h
    rw [thS_eq, thS_eq, ren_spine, ren_c hc, argv_ren]
  · rw [thS_gt h, thS_gt (by omega)]
    show Jvm.Term.index (j - 1 + m + d) = _
    congr 1
    omega
/-- the context of a child -/
def ChildC (Γ Γ' : List Tm) (x : Nat) (c : Tm) (l : List Tm) : Prop :=
  Γ'.length + 1 = Γ.length + l.length ∧ x < Γ.length ∧
  (∀ k A', k < x → Γ'[k]? = some A' → ∃ A, Γ[k]? = some A ∧ nf (sbs A (thS (x - 1 - k) l.length c)) = some A') ∧
  (∀ j, j < l.length → Γ'[x + j]? = l[l.length - 1 - j]?) ∧
  (∀ j, Γ'[x + l.length + j]? = Γ[x + 1 + j]?)
theorem child_inv {fr ty : Tm → Option Tm} (ok : FOK fr) {Γ Γ' : List Tm} {P T T' : Tm} {x : Nat} {c : Tm} {l : List Tm} {d e : Tm} (hi : Inv fr ty Γ P T) (hch : ChildC Γ Γ' x c l) (hT : nf (sbs T (thS x l.length c)) = some T')
    (he : Γ[x]? = some e) (hec : isC e = true) (hc : isC c = true) (hty : ty c = some (conType l d)) (hl : ∀ D ∈ l, isC D = true) (hd : isC d = true) : Inv fr ty Γ' (sbs P (thS x l.length c)) T' := by
  obtain ⟨h1, h2, h3, h4, h5⟩ := hch
  refine Inv_split ok hi (Conv_symm (nf_Conv fr hT)) ?_
  intro k' A' hA
  rcases Nat.lt_or_ge k' x with hk | hk
  · obtain ⟨A, g1, g2⟩ := h3 k' A' hk hA
    refine Or.inl ⟨k', A, g1, thS_lt hk, ?_⟩
    have e1 : sbs (ren A (fun i => i + (k' + 1))) (thS x l.length c) = ren (sbs A (thS (x - 1 - k') l.length c)) (fun i => i + (k' + 1)) := by
      rw [sbs_ren, ren_sbs]
      congr 1
      funext j
      rw [thS_ren hc, show x - 1 - k' + (k' + 1) = x by omega]
    rw [e1]
    exact Conv_ren ok _ (Conv_symm (nf_Conv fr g2))
  · rcases Nat.lt_or_ge k' (x + l.length) with hk2 | hk2
    · have q := h4 (k' - x) (by omega)
      rw [show x + (k' - x) = k' by omega, hA] at q
      refine Or.inr ⟨x, c, l, d, argv l.length x, e, l.length - 1 - (k' - x), he, thS_eq, hc, hty, hl, hd, hec, ?_, q.symm⟩
      rw [argv_at _ _ _ (by omega)]
      congr 2
      omega
    · have q := h5 (k' - x - l.length)
      rw [show x + l.length + (k' - x - l.length) = k' by omega, hA] at q
      refine Or.inl ⟨x + 1 + (k' - x - l.length), A', q.symm, ?_, ?_⟩
      · rw [thS_gt (by omega)]
        congr 1
        omega
      · rw [sbs_ren, ren_sbs_eq]
        have e1 : (fun k => Jvm.Term.index (k + (k' + 1))) = fun k => thS x l.length c (k + (x + 1 + (k' - x - l.length) + 1)) := by
          funext k
          rw [thS_gt (by omega)]
          congr 1
          omega
        rw [e1]
        exact Conv_refl _
theorem occ_c {t : Tm} (h : isC t = true) (i : Nat) : ¬ occ t i := by
  cases t <;> first | exact id | (cases h; done)
theorem occ_sbs : ∀ (t : Tm) (θ : Nat → Tm) (i : Nat), occ (sbs t θ) i ↔ ∃ k, occ t k ∧ occ (θ k) i := by
  intro t
  refine tm_ind (P := fun t => ∀ (θ : Nat → Tm) (i : Nat), occ (sbs t θ) i ↔ ∃ k, occ t k ∧ occ (θ k) i) ?_ ?_ ?_ ?_ ?_ t
  · intro k θ i
    exact ⟨fun h => ⟨k, rfl, h⟩, fun ⟨k', h1, h2⟩ => by have e : k = k' := h1; subst e; exact h2⟩
  · intro t hc θ i
    rw [sbs_c hc]
    exact ⟨fun h => absurd h (occ_c hc i), fun ⟨k, h1, _⟩ => absurd h1 (occ_c hc k)⟩
  · intro a b _ _ θ i; exact ⟨fun h => h.elim, fun ⟨k, h1, _⟩ => h1.elim⟩
  · intro a b _ _ θ i; exact ⟨fun h => h.elim, fun ⟨k, h1, _⟩ => h1.elim⟩
  · intro a b ha hb θ i
    constructor
    · rintro (h | h)
      · obtain ⟨k, h1, h2⟩ := (ha θ i).mp h
        exact ⟨k, Or.inl h1, h2⟩
      · obtain ⟨k, h1, h2⟩ := (hb θ i).mp h
        exact ⟨k, Or.inr h1, h2⟩
    · rintro ⟨k, h1 | h1, h2⟩
      · exact Or.inl ((ha θ i).mpr ⟨k, h1, h2⟩)
      · exact Or.inr ((hb θ i).mpr ⟨k, h1, h2⟩)
theorem lin_sbs : ∀ (t : Tm) (θ : Nat → Tm), lin t → (∀ k, occ t k → lin (θ k)) → (∀ k k' i, occ t k → occ t k' → k ≠ k' → occ (θ k) i → occ (θ k') i → False) → lin (sbs t θ) := by
  intro t
  refine tm_ind (P := fun t => ∀ (θ : Nat → Tm), lin t → (∀ k, occ t k → lin (θ k)) → (∀ k k' i, occ t k → occ t k' → k ≠ k' → occ (θ k) i → occ (θ k') i → False) → lin (sbs t θ)) ?_ ?_ ?_ ?_ ?_ t
  · intro k θ _ h _; exact h k rfl
  · intro t hc θ h _ _; rw [sbs_c hc]; exact h
  · intro a b _ _ θ _ _ _; exact trivial
  · intro a b _ _ θ _ _ _; exact trivial
  · rintro a b ha hb θ ⟨h1, h2, h3⟩ hl hd
    refine ⟨ha θ h1 (fun k hk => hl k (Or.inl hk)) (fun k k' i q1 q2 => hd k k' i (Or.inl q1) (Or.inl q2)), hb θ h2 (fun k hk => hl k (Or.inr hk)) (fun k k' i q1 q2 => hd k k' i (Or.inr q1) (Or.inr q2)), ?_⟩
    intro i g1 g2
    obtain ⟨k, k1, k2⟩ := (occ_sbs a θ i).mp g1
    obtain ⟨k', k3, k4⟩ := (occ_sbs b θ i).mp g2
    by_cases e : k = k'
    · subst e; exact h3 k k1 k3
    · exact hd k k' i (Or.inl k1) (Or.inr k3) e k2 k4
theorem occ_spine_argv : ∀ (m x : Nat) (h : Tm) (i : Nat), occ (spine h (argv m x)) i ↔ occ h i ∨ (x ≤ i ∧ i < x + m)
  | 0, x, h, i => ⟨Or.inl, fun q => q.elim id (fun q => absurd q.1 (by omega))⟩
  | m + 1, x, h, i => by
    show occ (spine (.mul h (.index (x + m))) (argv m x)) i ↔ _
    rw [occ_spine_argv m x]
    constructor
    · rintro ((q | q) | q)
      · exact Or.inl q
      · have e : x + m = i := q
        exact Or.inr ⟨by omega, by omega⟩
      · exact Or.inr ⟨by omega, by omega⟩
    · rintro (q | q)
      · exact Or.inl (Or.inl q)
      · by_cases e : x + m = i
        · exact Or.inl (Or.inr e)
        · exact Or.inr ⟨q.1, by omega⟩
theorem lin_spine_argv : ∀ (m x : Nat) (h : Tm), lin h → (∀ i, occ h i → x + m ≤ i) → lin (spine h (argv m x))
  | 0, x, h, hl, _ => hl
  | m + 1, x, h, hl, ho => by
    refine lin_spine_argv m x (.mul h (.index (x + m))) ⟨hl, trivial, ?_⟩ ?_
    · intro i q1 q2
      have e : x + m = i := q2
      have := ho i q1
      omega
    · rintro i (q | q)
      · have := ho i q; omega
      · have e : x + m = i := q
        omega
theorem lin_c {t : Tm} (h : isC t = true) : lin t := by
  cases t <;> first | exact trivial | (cases h; done)
theorem occ_thS {x m : Nat} {c : Tm} (hc : isC c = true) (k i : Nat) : occ (thS x m c k) i ↔ (k < x ∧ i = k) ∨ (k = x ∧ x ≤ i ∧ i < x + m) ∨ (x < k ∧ i = k - 1 + m) := by
  rcases Nat.lt_trichotomy k x with h | h | h
  · rw [thS_lt h]
    exact ⟨fun q => Or.inl ⟨h, (show k = i from q).symm⟩, fun q => by rcases q with q | q | q; exact q.2.symm; omega; omega⟩
  · subst h
    rw [thS_eq, occ_spine_argv]
    exact ⟨fun q => q.elim (fun q => absurd q (occ_c hc i)) (fun q => Or.inr (Or.inl ⟨rfl, q⟩)), fun q => by rcases q with q | q | q; omega; exact Or.inr q.2; omega⟩
  · rw [thS_gt h]
    exact ⟨fun q => Or.inr (Or.inr ⟨h, (show k - 1 + m = i from q).symm⟩), fun q => by rcases q with q | q | q; omega; omega; exact q.2.symm⟩
theorem child_occ {P : Tm} {n x m : Nat} {c : Tm} (hc : isC c = true) (hx : x < n) (h : ∀ k, occ P k ↔ k < n) (i : Nat) : occ (sbs P (thS x m c)) i ↔ i + 1 < n + m := by
  rw [occ_sbs]
  constructor
  · rintro ⟨k, h1, h2⟩
    have h3 := (h k).mp h1
    rcases (occ_thS hc k i).mp h2 with q | q | q <;> omega
  · intro hi
    rcases Nat.lt_or_ge i x with q | q
    · exact ⟨i, (h i).mpr (by omega), (occ_thS hc i i).mpr (Or.inl ⟨q, rfl⟩)⟩
    · rcases Nat.lt_or_ge i (x + m) with q2 | q2
      · exact ⟨x, (h x).mpr hx, (occ_thS hc x i).mpr (Or.inr (Or.inl ⟨rfl, q, q2⟩))⟩
      · exact ⟨i - m + 1, (h _).mpr (by omega), (occ_thS hc _ i).mpr (Or.inr (Or.inr ⟨by omega, by omega⟩))⟩
theorem child_lin {P : Tm} {x m : Nat} {c : Tm} (hc : isC c = true) (h : lin P) : lin (sbs P (thS x m c)) := by
  refine lin_sbs P _ h ?_ ?_
  · intro k _
    rcases Nat.lt_trichotomy k x with q | q | q
    · rw [thS_lt q]; exact trivial
    · subst q
      rw [thS_eq]
      exact lin_spine_argv m k c (lin_c hc) (fun i hi => absurd hi (occ_c hc i))
    · rw [thS_gt q]; exact trivial
  · intro k k' i _ _ hne h1 h2
    rcases (occ_thS hc k i).mp h1 with q | q | q <;> rcases (occ_thS hc k' i).mp h2 with q' | q' | q' <;> omega
theorem patB_mono {con : Tm → Bool} {p : Tm} : patB con p false → patB con p true := by
  cases p <;> first | exact id | exact fun h => rfl
theorem patB_sbs {con : Tm → Bool} : ∀ (p : Tm) (v : Bool) (θ : Nat → Tm), patB con p v → (∀ k, patB con (θ k) true) → patB con (sbs p θ) v := by
  intro p
  refine tm_ind (P := fun p => ∀ (v : Bool) (θ : Nat → Tm), patB con p v → (∀ k, patB con (θ k) true) → patB con (sbs p θ) v) ?_ ?_ ?_ ?_ ?_ p
  · intro k v θ h hθ
    have e : v = true := h
    rw [e]; exact hθ k
  · intro t hc v θ h _; rw [sbs_c hc]; exact h
  · intro a b _ _ v θ h; exact h.elim
  · intro a b _ _ v θ h; exact h.elim
  · rintro a b ha hb v θ ⟨h1, h2⟩ hθ
    exact ⟨ha false θ h1 hθ, hb true θ h2 hθ⟩
theorem lhsS_sbs {con fn : Tm → Bool} : ∀ (p : Tm) (θ : Nat → Tm), lhsS con fn p → (∀ k, patB con (θ k) true) → lhsS con fn (sbs p θ) := by
  intro p
  refine tm_ind (P := fun p => ∀ (θ : Nat → Tm), lhsS con fn p → (∀ k, patB con (θ k) true) → lhsS con fn (sbs p θ)) ?_ ?_ ?_ ?_ ?_ p
  · intro k θ h; exact h.elim
  · intro t hc θ h _; rw [sbs_c hc]; exact h
  · intro a b _ _ θ h; exact h.elim
  · intro a b _ _ θ h; exact h.elim
  · rintro a b ha hb θ ⟨h1, h2⟩ hθ
    exact ⟨ha θ h1 hθ, patB_sbs b true θ h2 hθ⟩
theorem patB_spine {con : Tm → Bool} : ∀ (m x : Nat) (h : Tm), patB con h false → patB con (spine h (argv m x)) false
  | 0, x, h, hp => hp
  | m + 1, x, h, hp => patB_spine m x (.mul h (.index (x + m))) ⟨hp, rfl⟩
theorem patB_thS {con : Tm → Bool} {x m : Nat} {c : Tm} (hc : isC c = true) (hcon : con c = true) (k : Nat) : patB con (thS x m c k) true := by
  rcases Nat.lt_trichotomy k x with q | q | q
  · rw [thS_lt q]; exact rfl
  · subst q
    rw [thS_eq]
    exact patB_mono (patB_spine m k c ((patB_c false hc).mpr hcon))
  · rw [thS_gt q]; exact rfl
theorem lhsS_spine {con fn : Tm → Bool} : ∀ (l : List Tm) (h : Tm), lhsS con fn h → (∀ a ∈ l, patB con a true) → lhsS con fn (spine h l)
  | [], h, hp, _ => hp
  | a :: l, h, hp, hl => lhsS_spine l (.mul h a) ⟨hp, hl a (List.mem_cons_self ..)⟩ (fun b hb => hl b (List.mem_cons_of_mem _ hb))
/-- how often a variable stands in a pattern -/
def cntv : Tm → Nat → Nat
  | .index k, x => if k = x then 1 else 0
  | .mul a b, x => cntv a x + cntv b x
  | _, _ => 0
theorem cntv_no : ∀ (t : Tm) (x : Nat), ¬ occ t x → cntv t x = 0 := by
  intro t
  refine tm_ind (P := fun t => ∀ x, ¬ occ t x → cntv t x = 0) ?_ ?_ ?_ ?_ ?_ t
  · intro k x h; exact if_neg h
  · intro t hc x _; cases t <;> first | rfl | (cases hc; done)
  · intro a b _ _ x _; rfl
  · intro a b _ _ x _; rfl
  · intro a b ha hb x h
    show cntv a x + cntv b x = 0
    rw [ha x (fun q => h (Or.inl q)), hb x (fun q => h (Or.inr q))]
theorem cntv_lin : ∀ (t : Tm) (x : Nat), lin t → cntv t x ≤ 1 := by
  intro t
  refine tm_ind (P := fun t => ∀ x, lin t → cntv t x ≤ 1) ?_ ?_ ?_ ?_ ?_ t
  · intro k x _
    show (if k = x then 1 else 0) ≤ 1
    split <;> omega
  · intro t hc x _; cases t <;> first | exact Nat.zero_le _ | (cases hc; done)
  · intro a b _ _ x _; exact Nat.zero_le _
  · intro a b _ _ x _; exact Nat.zero_le _
  · rintro a b ha hb x ⟨h1, h2, h3⟩
    show cntv a x + cntv b x ≤ 1
    have g1 := ha x h1
    have g2 := hb x h2
    by_cases q : occ a x
    · rw [cntv_no b x (h3 x q)]; omega
    · rw [cntv_no a x q]; omega
theorem sizeT_spine : ∀ (l : List Tm) (h : Tm), sizeT (spine h l) = sizeT h + (l.map (fun a => 1 + sizeT a)).sum
  | [], h => by simp [spine]
  | a :: l, h => by
    show sizeT (spine (.mul h a) l) = _
    rw [sizeT_spine l, List.map_cons, List.sum_cons]
    show 1 + sizeT h + sizeT a + _ = _
    omega
theorem sizeT_spine_argv : ∀ (m x : Nat) (h : Tm), sizeT (spine h (argv m x)) = sizeT h + 2 * m
  | 0, x, h => rfl
  | m + 1, x, h => by
    show sizeT (spine (.mul h (.index (x + m))) (argv m x)) = _
    rw [sizeT_spine_argv m x]
    show 1 + sizeT h + 1 + 2 * m = _
    omega
theorem size_thS {x m : Nat} {c : Tm} (hc : isC c = true) (k : Nat) : sizeT (thS x m c k) = 1 + (if k = x then 2 * m else 0) := by
  have h1 : sizeT c = 1 := by cases c <;> first | rfl | (cases hc; done)
  rcases Nat.lt_trichotomy k x with q | q | q
  · rw [thS_lt q, if_neg (by omega)]; rfl
  · subst q
    rw [thS_eq, if_pos rfl, sizeT_spine_argv, h1]
  · rw [thS_gt q, if_neg (by omega)]; rfl
theorem size_child {con fn : Tm → Bool} {x m : Nat} {c : Tm} (hc : isC c = true) : (∀ (p : Tm) (v : Bool), patB con p v → sizeT (sbs p (thS x m c)) = sizeT p + 2 * m * cntv p x) ∧ ∀ p : Tm, lhsS con fn p → sizeT (sbs p (thS x m c)) = sizeT p + 2 * m * cntv p x := by
  have cc : ∀ t, isC t = true → cntv t x = 0 := fun t ht => cntv_no t x (occ_c ht x)
  have hp : ∀ (p : Tm) (v : Bool), patB con p v → sizeT (sbs p (thS x m c)) = sizeT p + 2 * m * cntv p x := by
    intro p
    refine tm_ind (P := fun p => ∀ v : Bool, patB con p v → sizeT (sbs p (thS x m c)) = sizeT p + 2 * m * cntv p x) ?_ ?_ ?_ ?_ ?_ p
    · intro k v _
      show sizeT (thS x m c k) = 1 + 2 * m * (if k = x then 1 else 0)
      rw [size_thS hc]
      split <;> omega
    · intro t ht v _; rw [sbs_c ht, cc t ht]; omega
    · intro a b _ _ v h; exact h.elim
    · intro a b _ _ v h; exact h.elim
    · rintro a b ha hb v ⟨h1, h2⟩
      show 1 + sizeT (sbs a _) + sizeT (sbs b _) = 1 + sizeT a + sizeT b + 2 * m * (cntv a x + cntv b x)
      rw [ha false h1, hb true h2, Nat.mul_add]
      omega
  refine ⟨hp, ?_⟩
  intro p
  refine tm_ind (P := fun p => lhsS con fn p → sizeT (sbs p (thS x m c)) = sizeT p + 2 * m * cntv p x) ?_ ?_ ?_ ?_ ?_ p
  · intro k h; exact h.elim
  · intro t ht _; rw [sbs_c ht, cc t ht]; omega
  · intro a b _ _ h; exact h.elim
  · intro a b _ _ h; exact h.elim
  · rintro a b ha hb ⟨h1, h2⟩
    show 1 + sizeT (sbs a _) + sizeT (sbs b _) = 1 + sizeT a + sizeT b + 2 * m * (cntv a x + cntv b x)
    rw [ha h1, hp b true h2, Nat.mul_add]
    omega
