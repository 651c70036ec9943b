/-! clauses: a left side and a right side; what they fire, and that this keeps the rules -/
def headc : Tm → Tm
  | .mul a _ => headc a
  | t => t
def nargs : Tm → Nat
  | .mul a _ => nargs a + 1
  | _ => 0
/-- a pattern; with v it may be a variable -/
def patB (con : Tm → Bool) : Tm → Bool → Prop
  | .index _, v => v = true
  | .mul a b, _ => patB con a false ∧ patB con b true
  | .add _ _, _ => False
  | .sub _ _, _ => False
  | t, _ => con t = true
/-- a function before patterns -/
def lhsS (con fn : Tm → Bool) : Tm → Prop
  | .index _ => False
  | .mul a b => lhsS con fn a ∧ patB con b true
  | .add _ _ => False
  | .sub _ _ => False
  | t => fn t = true
/-- where a variable stands, under no binder -/
def occ : Tm → Nat → Prop
  | .index k, i => k = i
  | .mul a b, i => occ a i ∨ occ b i
  | _, _ => False
/-- each variable once -/
def lin : Tm → Prop
  | .mul a b => lin a ∧ lin b ∧ ∀ i, occ a i → occ b i → False
  | _ => True
section FIRE
variable {con fn : Tm → Bool}
theorem patB_c {t : Tm} (v : Bool) (h : isC t = true) : patB con t v ↔ con t = true := by
  cases t <;> first | exact Iff.rfl | (cases h; done)
theorem lhsS_c {t : Tm} (h : isC t = true) : lhsS con fn t ↔ fn t = true := by
  cases t <;> first | exact Iff.rfl | (cases h; done)
theorem headc_c {t : Tm} (h : isC t = true) : headc t = t := by
  cases t <;> first | rfl | (cases h; done)
theorem nargs_c {t : Tm} (h : isC t = true) : nargs t = 0 := by
  cases t <;> first | rfl | (cases h; done)
theorem pat_head : ∀ (p : Tm) (σ : Nat → Tm), patB con p false → con (headc (sbs p σ)) = true ∧ isL (sbs p σ) = false := by
  intro p
  refine tm_ind (P := fun p => ∀ (σ : Nat → Tm), patB con p false → con (headc (sbs p σ)) = true ∧ isL (sbs p σ) = false) ?_ ?_ ?_ ?_ ?_ p
  · intro k σ h; cases h
  · intro t hc σ h
    rw [sbs_c hc, headc_c hc]
    refine ⟨(patB_c false hc).mp h, ?_⟩
    cases t <;> first | rfl | (cases hc; done)
  · intro a b _ _ σ h; exact h.elim
  · intro a b _ _ σ h; exact h.elim
  · rintro a b ha _ σ ⟨h, _⟩
    exact ⟨(ha σ h).1, rfl⟩
theorem lhs_head : ∀ (p : Tm) (σ : Nat → Tm), lhsS con fn p → headc (sbs p σ) = headc p ∧ fn (headc p) = true ∧ nargs (sbs p σ) = nargs p ∧ isL (sbs p σ) = false := by
  intro p
  refine tm_ind (P := fun p => ∀ (σ : Nat → Tm), lhsS con fn p → headc (sbs p σ) = headc p ∧ fn (headc p) = true ∧ nargs (sbs p σ) = nargs p ∧ isL (sbs p σ) = false) ?_ ?_ ?_ ?_ ?_ p
  · intro k σ h; cases h
  · intro t hc σ h
    rw [sbs_c hc, headc_c hc]
    refine ⟨rfl, (lhsS_c hc).mp h, rfl, ?_⟩
    cases t <;> first | rfl | (cases hc; done)
  · intro a b _ _ σ h; exact h.elim
  · intro a b _ _ σ h; exact h.elim
  · rintro a b ha _ σ ⟨h, _⟩
    obtain ⟨h1, h2, h3, -⟩ := ha σ h
    exact ⟨h1, h2, congrArg (· + 1) h3, rfl⟩
theorem sbs_occ_pat : ∀ (p : Tm) (v : Bool) (σ τ : Nat → Tm), patB con p v → (∀ k, occ p k → σ k = τ k) → sbs p σ = sbs p τ := by
  intro p
  refine tm_ind (P := fun p => ∀ (v : Bool) (σ τ : Nat → Tm), patB con p v → (∀ k, occ p k → σ k = τ k) → sbs p σ = sbs p τ) ?_ ?_ ?_ ?_ ?_ p
  · intro k v σ τ _ h; exact h k rfl
  · intro t hc v σ τ _ _; rw [sbs_c hc, sbs_c hc]
  · intro a b _ _ v σ τ h _; exact h.elim
  · intro a b _ _ v σ τ h _; exact h.elim
  · rintro a b ha hb v σ τ ⟨h1, h2⟩ h
    show Jvm.Term.mul _ _ = .mul _ _
    rw [ha false σ τ h1 (fun k hk => h k (Or.inl hk)), hb true σ τ h2 (fun k hk => h k (Or.inr hk))]
theorem sbs_occ_lhs : ∀ (p : Tm) (σ τ : Nat → Tm), lhsS con fn p → (∀ k, occ p k → σ k = τ k) → sbs p σ = sbs p τ := by
  intro p
  refine tm_ind (P := fun p => ∀ (σ τ : Nat → Tm), lhsS con fn p → (∀ k, occ p k → σ k = τ k) → sbs p σ = sbs p τ) ?_ ?_ ?_ ?_ ?_ p
  · intro k σ τ h; exact h.elim
  · intro t hc σ τ _ _; rw [sbs_c hc, sbs_c hc]
  · intro a b _ _ σ τ h _; exact h.elim
  · intro a b _ _ σ τ h _; exact h.elim
  · rintro a b ha hb σ τ ⟨h1, h2⟩ h
    show Jvm.Term.mul _ _ = .mul _ _
    rw [ha σ τ h1 (fun k hk => h k (Or.inl hk)), sbs_occ_pat b true σ τ h2 (fun k hk => h k (Or.inr hk))]
end FIRE
/-- a term that a clause takes, and what it becomes -/
def Fires (Cl : Tm → Tm → Prop) (t r : Tm) : Prop := ∃ P R, Cl P R ∧ ∃ σ : Nat → Tm, sbs P σ = t ∧ sbs R σ = r
noncomputable def frOf (Cl : Tm → Tm → Prop) (t : Tm) : Option Tm := by
  classical
  exact if h : ∃ r, Fires Cl t r then some h.choose else none
/-- what is asked of clauses -/
def COK (con fn : Tm → Bool) (Cl : Tm → Tm → Prop) : Prop :=
  (∀ c, con c = true → fn c = true → False) ∧
  (∀ P R, Cl P R → lhsS con fn P ∧ lin P) ∧
  (∀ P R P' R', Cl P R → Cl P' R' → headc P = headc P' → nargs P = nargs P') ∧
  (∀ P R P' R' (σ τ : Nat → Tm), Cl P R → Cl P' R' → sbs P σ = sbs P' τ → sbs R σ = sbs R' τ)
section FIRE2
variable {con fn : Tm → Bool} {Cl : Tm → Tm → Prop}
theorem frOf_iff (ck : COK con fn Cl) {t r : Tm} : frOf Cl t = some r ↔ Fires Cl t r := by
  unfold frOf
  constructor
  · intro h
    split at h
    · rename_i h2
      have e : h2.choose = r := by injection h
      rw [← e]
      exact h2.choose_spec
    · cases h
  · intro h
    have h2 : ∃ r, Fires Cl t r := ⟨r, h⟩
    rw [dif_pos h2]
    congr 1
    obtain ⟨P, R, h3, σ, e1, e2⟩ := h2.choose_spec
    obtain ⟨P', R', h4, τ, e3, e4⟩ := h
    rw [← e2, ← e4]
    exact ck.2.2.2 _ _ _ _ _ _ h3 h4 (e1.trans e3.symm)
theorem Fires_head (ck : COK con fn Cl) {t r : Tm} (h : Fires Cl t r) : fn (headc t) = true ∧ isL t = false ∧ ∃ P R, Cl P R ∧ headc P = headc t ∧ nargs P = nargs t := by
  obtain ⟨P, R, h3, σ, rfl, e2⟩ := h
  obtain ⟨g1, g2, g3, g4⟩ := lhs_head P σ (ck.2.1 _ _ h3).1
  exact ⟨by rw [g1]; exact g2, g4, P, R, h3, g1.symm, g3.symm⟩
theorem fr_two (ck : COK con fn Cl) : FOK2 (frOf Cl) := by
  refine ⟨?_, ?_⟩
  · intro a b r h
    obtain ⟨P, R, h3, σ, e1, e2⟩ := (frOf_iff ck).mp h
    have h4 := (ck.2.1 _ _ h3).1
    cases P <;> first | (exact h4.elim) | (cases e1; done) | skip
    rename_i pa pb
    have e3 : sbs pa σ = a := by injection e1
    rw [← e3]
    exact (lhs_head pa σ h4.1).2.2.2
  · intro a b r σ h
    obtain ⟨P, R, h3, τ, e1, e2⟩ := (frOf_iff ck).mp h
    refine (frOf_iff ck).mpr ⟨P, R, h3, fun k => sbs (τ k) σ, ?_, ?_⟩
    · rw [← sbs_sbs, e1]; rfl
    · rw [← sbs_sbs, e2]
theorem pat_inv (ck : COK con fn Cl) : ∀ (p : Tm) (v : Bool) (σ : Nat → Tm) (s : Tm), patB con p v → lin p → Par (frOf Cl) (sbs p σ) s → ∃ σ' : Nat → Tm, s = sbs p σ' ∧ ∀ k, Par (frOf Cl) (σ k) (σ' k) := by
  intro p
  refine tm_ind (P := fun p => ∀ (v : Bool) (σ : Nat → Tm) (s : Tm), patB con p v → lin p → Par (frOf Cl) (sbs p σ) s → ∃ σ' : Nat → Tm, s = sbs p σ' ∧ ∀ k, Par (frOf Cl) (σ k) (σ' k)) ?_ ?_ ?_ ?_ ?_ p
  · intro k v σ s _ _ h
    refine ⟨fun i => if i = k then s else σ i, by simp [sbs], ?_⟩
    intro i
    by_cases e : i = k
    · subst e; show Par (frOf Cl) (σ i) (if i = i then s else σ i); rw [if_pos rfl]; exact h
    · simpa [e] using Par_refl (σ i)
  · intro t hc v σ s _ _ h
    rw [sbs_c hc] at h
    obtain rfl := (Par_c hc).mp h
    exact ⟨σ, (sbs_c hc σ).symm, fun k => Par_refl _⟩
  · intro a b _ _ v σ s h; exact h.elim
  · intro a b _ _ v σ s h; exact h.elim
  · rintro a b ha hb v σ s ⟨h1, h2⟩ ⟨l1, l2, l3⟩ ⟨a', b', k1, k2, k3⟩
    have hh := pat_head a σ h1
    rcases k3 with rfl | ⟨hl, -⟩ | ⟨-, ⟨r, hr⟩, -⟩
    · obtain ⟨σ1, e1, q1⟩ := ha false σ a' h1 l1 k1
      obtain ⟨σ2, e2, q2⟩ := hb true σ b' h2 l2 k2
      classical
      refine ⟨fun k => if occ a k then σ1 k else σ2 k, ?_, ?_⟩
      · show _ = Jvm.Term.mul (sbs a _) (sbs b _)
        rw [e1, e2]
        congr 1
        · exact sbs_occ_pat a false _ _ h1 (fun k hk => by simp [hk])
        · exact sbs_occ_pat b true _ _ h2 (fun k hk => by simp [show ¬ occ a k from fun h => l3 k h hk])
      · intro k
        by_cases e : occ a k
        · simpa [e] using q1 k
        · simpa [e] using q2 k
    · rw [hh.2] at hl; cases hl
    · exact (ck.1 _ hh.1 (Fires_head ck ((frOf_iff ck).mp hr)).1).elim
theorem lhs_inv (ck : COK con fn Cl) : ∀ (p : Tm) (σ : Nat → Tm) (s : Tm), lhsS con fn p → lin p → (∀ P R, Cl P R → headc P = headc p → nargs p < nargs P) → Par (frOf Cl) (sbs p σ) s → ∃ σ' : Nat → Tm, s = sbs p σ' ∧ ∀ k, Par (frOf Cl) (σ k) (σ' k) := by
  intro p
  refine tm_ind (P := fun p => ∀ (σ : Nat → Tm) (s : Tm), lhsS con fn p → lin p → (∀ P R, Cl P R → headc P = headc p → nargs p < nargs P) → Par (frOf Cl) (sbs p σ) s → ∃ σ' : Nat → Tm, s = sbs p σ' ∧ ∀ k, Par (frOf Cl) (σ k) (σ' k)) ?_ ?_ ?_ ?_ ?_ p
  · intro k σ s h; exact h.elim
  · intro t hc σ s _ _ _ h
    rw [sbs_c hc] at h
    obtain rfl := (Par_c hc).mp h
    exact ⟨σ, (sbs_c hc σ).symm, fun k => Par_refl _⟩
  · intro a b _ _ σ s h; exact h.elim
  · intro a b _ _ σ s h; exact h.elim
  · rintro a b ha hb σ s ⟨h1, h2⟩ ⟨l1, l2, l3⟩ hn ⟨a', b', k1, k2, k3⟩
    obtain ⟨hh1, hh2, hh3, hh4⟩ := lhs_head a σ h1
    rcases k3 with rfl | ⟨hl, -⟩ | ⟨-, ⟨r, hr⟩, -⟩
    · obtain ⟨σ1, e1, q1⟩ := ha σ a' h1 l1 (fun P R hP hd => Nat.lt_of_succ_lt (hn P R hP hd)) k1
      obtain ⟨σ2, e2, q2⟩ := pat_inv ck b true σ b' h2 l2 k2
      classical
      refine ⟨fun k => if occ a k then σ1 k else σ2 k, ?_, ?_⟩
      · show _ = Jvm.Term.mul (sbs a _) (sbs b _)
        rw [e1, e2]
        congr 1
        · exact sbs_occ_lhs a _ _ h1 (fun k hk => by simp [hk])
        · exact sbs_occ_pat b true _ _ h2 (fun k hk => by simp [show ¬ occ a k from fun h => l3 k h hk])
      · intro k
        by_cases e : occ a k
        · simpa [e] using q1 k
        · simpa [e] using q2 k
    · rw [hh4] at hl; cases hl
    · obtain ⟨-, -, P, R, hP, hd, hq⟩ := Fires_head ck ((frOf_iff ck).mp hr)
      have h9 := hn P R hP (hd.trans hh1)
      have e : nargs (.mul (sbs a σ) (sbs b σ)) = nargs (sbs a σ) + 1 := rfl
      have e' : nargs (.mul a b) = nargs a + 1 := rfl
      rw [hq, e, hh3, e'] at h9
      exact absurd h9 (Nat.lt_irrefl _)
theorem fr_ok (ck : COK con fn Cl) : FOK (frOf Cl) := by
  refine ⟨(fr_two ck).1, (fr_two ck).2, ?_⟩
  intro a b a' b' r h h1 h2
  obtain ⟨P, R, h3, σ, e1, e2⟩ := (frOf_iff ck).mp h
  obtain ⟨h4, h5⟩ := ck.2.1 _ _ h3
  cases P <;> first | (exact h4.elim) | (cases e1; done) | skip
  rename_i pa pb
  have e3 : sbs pa σ = a := by injection e1
  have e4 : sbs pb σ = b := by injection e1
  subst e3 e4
  obtain ⟨g1, g2, g3, g4⟩ := lhs_head pa σ h4.1
  obtain ⟨σ1, rfl, q1⟩ := lhs_inv ck pa σ a' h4.1 h5.1 (fun P' R' hP hd => by
    have := ck.2.2.1 _ _ _ _ hP h3 hd
    rw [this]
    exact Nat.lt_succ_self _) h1
  obtain ⟨σ2, rfl, q2⟩ := pat_inv ck pb true σ b' h4.2 h5.2.1 h2
  classical
  refine ⟨sbs R (fun k => if occ pa k then σ1 k else σ2 k), (frOf_iff ck).mpr ⟨_, R, h3, _, ?_, rfl⟩, ?_⟩
  · show Jvm.Term.mul (sbs pa _) (sbs pb _) = _
    congr 1
    · exact sbs_occ_lhs pa _ _ h4.1 (fun k hk => by simp [hk])
    · exact sbs_occ_pat pb true _ _ h4.2 (fun k hk => by simp [show ¬ occ pa k from fun h => h5.2.2 k h hk])
  · rw [← e2]
    refine Par_sbs2 (fr_two ck) _ _ _ _ (Par_refl R) (fun k => ?_)
    by_cases e : occ pa k
    · simpa [e] using q1 k
    · simpa [e] using q2 k
end FIRE2
