/-! goals as trees: the substitution of a split, and that left sides with different constructors have no common instance -/
theorem occ_eq_pat {con : Tm → Bool} : ∀ (p : Tm) (v : Bool) (σ τ : Nat → Tm), patB con p v → sbs p σ = sbs p τ → ∀ k, occ p k → σ k = τ k := by
  intro p
  refine tm_ind (P := fun p => ∀ (v : Bool) (σ τ : Nat → Tm), patB con p v → sbs p σ = sbs p τ → ∀ k, occ p k → σ k = τ k) ?_ ?_ ?_ ?_ ?_ p
  · intro k v σ τ _ h i hi
    have e : k = i := hi
    subst e
    exact h
  · intro t hc v σ τ _ _ i hi
    cases t <;> first | exact hi.elim | (cases hc; done)
  · intro a b _ _ v σ τ h; exact h.elim
  · intro a b _ _ v σ τ h; exact h.elim
  · rintro a b ha hb v σ τ ⟨h1, h2⟩ h i hi
    have e1 : sbs a σ = sbs a τ := by injection h
    have e2 : sbs b σ = sbs b τ := by injection h
    rcases hi with hi | hi
    · exact ha false σ τ h1 e1 i hi
    · exact hb true σ τ h2 e2 i hi
theorem occ_eq_lhs {con fn : Tm → Bool} : ∀ (p : Tm) (σ τ : Nat → Tm), lhsS con fn p → sbs p σ = sbs p τ → ∀ k, occ p k → σ k = τ k := by
  intro p
  refine tm_ind (P := fun p => ∀ (σ τ : Nat → Tm), lhsS con fn p → sbs p σ = sbs p τ → ∀ k, occ p k → σ k = τ k) ?_ ?_ ?_ ?_ ?_ p
  · intro k σ τ h; exact h.elim
  · intro t hc σ τ _ _ i hi
    cases t <;> first | exact hi.elim | (cases hc; done)
  · intro a b _ _ σ τ h; exact h.elim
  · intro a b _ _ σ τ h; exact h.elim
  · rintro a b ha hb σ τ ⟨h1, h2⟩ h i hi
    have e1 : sbs a σ = sbs a τ := by injection h
    have e2 : sbs b σ = sbs b τ := by injection h
    rcases hi with hi | hi
    · exact ha σ τ h1 e1 i hi
    · exact occ_eq_pat b true σ τ h2 e2 i hi
/-- no common instance -/
def Disj (P Q : Tm) : Prop := ∀ σ τ : Nat → Tm, sbs P σ = sbs Q τ → False
theorem Disj_symm {P Q : Tm} (h : Disj P Q) : Disj Q P := fun σ τ e => h τ σ e.symm
theorem Disj_sbs {P Q : Tm} (θ : Nat → Tm) (h : Disj P Q) : Disj (sbs P θ) Q := fun σ τ e => by
  rw [sbs_sbs] at e
  exact h _ _ e
theorem headc_spine : ∀ (l : List Tm) (c : Tm), headc (spine c l) = headc c
  | [], c => rfl
  | a :: l, c => headc_spine l (.mul c a)
theorem nargs_spine : ∀ (l : List Tm) (c : Tm), nargs (spine c l) = nargs c + l.length
  | [], c => rfl
  | a :: l, c => by
    rw [spine, nargs_spine l (.mul c a), List.length_cons]
    show nargs c + 1 + l.length = _
    omega
theorem spine_sbs : ∀ (l : List Tm) (h : Tm) (σ : Nat → Tm), sbs (spine h l) σ = spine (sbs h σ) (l.map (fun a => sbs a σ))
  | [], h, σ => rfl
  | a :: l, h, σ => spine_sbs l (.mul h a) σ
theorem spine_append : ∀ (l : List Tm) (h a : Tm), spine h (l ++ [a]) = .mul (spine h l) a
  | [], h, a => rfl
  | b :: l, h, a => spine_append l (.mul h b) a
/-- each term is its head before its arguments -/
theorem spine_of : ∀ t : Tm, ∃ l : List Tm, t = spine (headc t) l ∧ l.length = nargs t := by
  intro t
  refine tm_ind (P := fun t => ∃ l : List Tm, t = spine (headc t) l ∧ l.length = nargs t) (fun k => ⟨[], rfl, rfl⟩) (fun t h => ⟨[], (headc_c h).symm, (nargs_c h).symm⟩) (fun a b _ _ => ⟨[], rfl, rfl⟩) (fun a b _ _ => ⟨[], rfl, rfl⟩) ?_ t
  rintro a b ⟨l, h1, h2⟩ -
  refine ⟨l ++ [b], ?_, ?_⟩
  · show _ = spine (headc a) (l ++ [b])
    rw [spine_append, ← h1]
  · rw [List.length_append, h2]; rfl
theorem Disj_con {con fn : Tm → Bool} {P : Tm} {θ θ' : Nat → Tm} {x : Nat} {c c' : Tm} {l l' : List Tm} (hP : lhsS con fn P) (hx : occ P x) (hc : isC c = true) (hc' : isC c' = true)
    (h : θ x = spine c l) (h' : θ' x = spine c' l') (hne : c ≠ c') : Disj (sbs P θ) (sbs P θ') := by
  intro σ τ e
  rw [sbs_sbs, sbs_sbs] at e
  have e1 := occ_eq_lhs P _ _ hP e x hx
  have e2 : sbs (θ x) σ = sbs (θ' x) τ := e1
  rw [h, h', spine_sbs, spine_sbs, sbs_c hc, sbs_c hc'] at e2
  have e3 := congrArg headc e2
  rw [headc_spine, headc_spine, headc_c hc, headc_c hc'] at e3
  exact hne e3
/-- the variables that come in the place of the one that is split, the outermost first -/
def argv : Nat → Nat → List Tm
  | 0, _ => []
  | m + 1, x => .index (x + m) :: argv m x
theorem argv_length : ∀ m x, (argv m x).length = m
  | 0, _ => rfl
  | m + 1, x => congrArg (· + 1) (argv_length m x)
theorem argv_at : ∀ (m x j : Nat), j < m → (argv m x)[j]? = some (.index (x + (m - 1 - j)))
  | 0, x, j, h => absurd h (Nat.not_lt_zero _)
  | m + 1, x, 0, _ => rfl
  | m + 1, x, j + 1, h => by
    show (argv m x)[j]? = _
    rw [argv_at m x j (Nat.lt_of_succ_lt_succ h)]
    congr 3
    omega
/-- the substitution of a split of the variable x by a constructor with m parts -/
def thS (x m : Nat) (c : Tm) : Nat → Tm := fun k => if k < x then .index k else if k = x then spine c (argv m x) else .index (k - 1 + m)
/-- the values of the new context from those of the old one -/
def sgS (x : Nat) (args : List Tm) (σ : Nat → Tm) : Nat → Tm := fun k => if k < x then σ k else if k < x + args.length then (args[x + args.length - 1 - k]?).getD (.index 0) else σ (k - args.length + 1)
theorem thS_sgS {x : Nat} {c : Tm} {args : List Tm} {σ : Nat → Tm} (hc : isC c = true) (h : σ x = spine c args) (k : Nat) : sbs (thS x args.length c k) (sgS x args σ) = σ k := by
  unfold thS
  by_cases h1 : k < x
  · rw [if_pos h1]
    show sgS x args σ k = σ k
    rw [sgS, if_pos h1]
  · rw [if_neg h1]
    by_cases h2 : k = x
    · subst h2
      rw [if_pos rfl, spine_sbs, sbs_c hc, h]
      congr 1
      apply List.ext_getElem?
      intro j
      rw [List.getElem?_map]
      by_cases h3 : j < args.length
      · rw [argv_at _ _ _ h3]
        show some (sgS k args σ (k + (args.length - 1 - j))) = _
        rw [sgS, if_neg (by omega), if_pos (by omega)]
        rw [show k + args.length - 1 - (k + (args.length - 1 - j)) = j by omega, List.getElem?_eq_getElem h3]
        rfl
      · rw [List.getElem?_eq_none (by rw [argv_length]; omega), List.getElem?_eq_none (by omega)]
        rfl
    · rw [if_neg h2]
      show sgS x args σ (k - 1 + args.length) = σ k
      rw [sgS, if_neg (by omega), if_neg (by omega)]
      congr 1
      omega
/-- the way down: where the value has a constructor at its head, the goal of this constructor takes the call -/
theorem down_takes {P : Tm} {x : Nat} {c : Tm} {args : List Tm} {σ : Nat → Tm} (hc : isC c = true) (h : σ x = spine c args) : sbs (sbs P (thS x args.length c)) (sgS x args σ) = sbs P σ := by
  rw [sbs_sbs]
  congr 1
  funext k
  exact thS_sgS hc h k
/-- and what stands below that goal takes it only with this constructor -/
theorem down_only {con fn : Tm → Bool} {P : Tm} {x m : Nat} {c : Tm} {σ τ θ : Nat → Tm} (hP : lhsS con fn P) (hx : occ P x) (hc : isC c = true) (h : sbs (sbs (sbs P (thS x m c)) θ) τ = sbs P σ) : headc (σ x) = c ∧ nargs (σ x) = m := by
  rw [sbs_sbs, sbs_sbs] at h
  have e := occ_eq_lhs P _ _ hP h x hx
  have e2 : sbs (thS x m c x) (fun k => sbs (θ k) τ) = σ x := e
  rw [thS, if_neg (Nat.lt_irrefl _), if_pos rfl, spine_sbs, sbs_c hc] at e2
  rw [← e2, headc_spine, nargs_spine, headc_c hc, nargs_c hc, List.length_map, argv_length, Nat.zero_add]
  exact ⟨rfl, rfl⟩
