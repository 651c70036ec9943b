/-! the clause by order -/
def mkM (M : MS) (va : Nat → Int32) (vc : Int32) : MS := (M.1, M.2.1, M.2.2.1, va, vc, M.2.2.2.2.2)
theorem g_match {K : Rows} {M : MS} {va wv' : Nat → Int32} {vc p v r : Int32} (h : rM 200 vc va K p v = some (outM r vc wv' K)) : g_X5_match K (mkM M va vc) p v = some (r, K, mkM M wv' vc) := by
  have e : g_X5_match K (mkM M va vc) p v = (rM 200 vc va K p v).map (fun z => (z.1, (z.2.2.2.1, z.2.2.2.2.1, z.2.2.2.2.2.1, z.2.2.2.2.2.2, K.2.2.2.2.1, K.2.2.2.2.2.1, K.2.2.2.2.2.2.1, K.2.2.2.2.2.2.2.1, K.2.2.2.2.2.2.2.2), (M.1, M.2.1, M.2.2.1, z.2.2.1, z.2.1, M.2.2.2.2.2.1, M.2.2.2.2.2.2.1, M.2.2.2.2.2.2.2.1, M.2.2.2.2.2.2.2.2))) := by
    unfold g_X5_match rM mkM
    rfl
  rw [e, h]
  rfl
theorem lin_spine_parts : ∀ (l : List Tm) (h : Tm), lin (spine h l) → lin h ∧ (∀ a ∈ l, lin a) ∧ (∀ a ∈ l, ∀ i, occ h i → occ a i → False) ∧ (∀ (x y : Nat) (a b : Tm), l[x]? = some a → l[y]? = some b → x ≠ y → ∀ i, occ a i → occ b i → False)
  | [], h, hl => ⟨hl, fun a ha => absurd ha (List.not_mem_nil), fun a ha => absurd ha (List.not_mem_nil), fun x y a b hx => by simp at hx⟩
  | c :: l, h, hl => by
    obtain ⟨⟨g1, g2, g3⟩, g4, g5, g6⟩ := lin_spine_parts l (.mul h c) hl
    refine ⟨g1, ?_, ?_, ?_⟩
    · intro a ha
      rcases List.mem_cons.mp ha with rfl | ha
      · exact g2
      · exact g4 a ha
    · intro a ha i h1 h2
      rcases List.mem_cons.mp ha with rfl | ha
      · exact g3 i h1 h2
      · exact g5 a ha i (Or.inl h1) h2
    · intro x y a b hx hy hne i h1 h2
      cases x with
      | zero =>
        have e : c = a := by simpa using hx
        subst e
        cases y with
        | zero => exact hne rfl
        | succ y => exact g5 b (List.mem_of_getElem? (by simpa using hy)) i (Or.inr h1) h2
      | succ x =>
        cases y with
        | zero =>
          have e : c = b := by simpa using hy
          subst e
          exact g5 a (List.mem_of_getElem? (by simpa using hx)) i (Or.inr h2) h1
        | succ y => exact g6 x y a b (by simpa using hx) (by simpa using hy) (fun q => hne (by rw [q])) i h1 h2
/-- the arguments of a call, as they are given -/
def Given (K : Rows) (n : Nat) (gv : Nat → Int32) (args : List Tm) : Prop := ∀ (x : Nat) (a : Tm), args[x]? = some a → ∃ j, gv x = nz j ∧ Rep K n a j
theorem pats_occ {B : FG} {G : GG} {g : Nat} (h : PatOK B G g) : ∀ (x : Nat) (p : Tm), (qP G g)[x]? = some p → ∀ k, occ p k → k < (qC G g).length := fun x p hp k hk => (h.2.2.2.1 k).mp ((occ_spine _ _ k).mpr (Or.inr ⟨p, List.mem_of_getElem? hp, hk⟩))
theorem map_ext {ps args : List Tm} {σ : Nat → Tm} (hl : args.length = ps.length) (h : ∀ (x : Nat) (p a : Tm), ps[x]? = some p → args[x]? = some a → sbs p σ = a) : ps.map (fun p => sbs p σ) = args := by
  apply List.ext_getElem?
  intro x
  rw [List.getElem?_map]
  by_cases q : x < ps.length
  · have e1 := List.getElem?_eq_getElem q
    have e2 := List.getElem?_eq_getElem (show x < args.length by omega)
    rw [e1, e2]
    exact congrArg some (h x _ _ e1 e2)
  · rw [List.getElem?_eq_none (by omega), List.getElem?_eq_none (by omega)]
    rfl
theorem order_inner {K : Rows} {n g : Nat} {S : SS} {D : DS} {P : PS} {A : SG} {B : FG} {G : GG} {M : MS} {args : List Tm} {v1 v2 : Int32} (hC : CourtC K n S D P A B G) (ht : CourtT A B G) (hg : g < qN G) (hgv : Given K n M.2.2.1 args) (hlen : args.length = (qP G g).length) :
    ∀ (k fu i : Nat) (va : Nat → Int32) (σ : Nat → Tm), i + k = (qP G g).length → k + 2 < fu → (∀ (x : Nat) (p a : Tm), x < i → (qP G g)[x]? = some p → args[x]? = some a → sbs p σ = a) → (∀ (x : Nat) (p : Tm), x < i → (qP G g)[x]? = some p → Binds K n (qC G g).length va σ p) →
      (∃ va' σ', f_X5_clauseByOrder_L fu 1 K D (mkM M va (nz (qC G g).length)) P v1 v2 (nz g) 1 (nz i) = some (nz g, K, mkM M va' (nz (qC G g).length)) ∧ (qP G g).map (fun p => sbs p σ') = args ∧ ∀ (x : Nat) (p : Tm), (qP G g)[x]? = some p → Binds K n (qC G g).length va' σ' p) ∨
      (∃ va' fu', fu ≤ fu' + k + 2 ∧ f_X5_clauseByOrder_L fu 1 K D (mkM M va (nz (qC G g).length)) P v1 v2 (nz g) 1 (nz i) = f_X5_clauseByOrder_L fu' 0 K D (mkM M va' (nz (qC G g).length)) P v1 (v2 + 1) 0 0 0 ∧ ∀ σ', (qP G g).map (fun p => sbs p σ') ≠ args) := by
  obtain ⟨a1, a2, a3, a4, a5, hpat, a7, a8, a9⟩ := ht.2.2.2.1 g hg
  obtain ⟨y1, y2, y3, y4, y5, y6, y7, y8, y9⟩ := hC.2.2.2.2 g hg
  have h40 := ht.2.2.1
  have hr4 : (qP G g).length ≤ 4 := by
    obtain ⟨l, R, q1, q2, q3, q4, -⟩ := ht.2.1.2 _ a1
    have := hpat.1
    omega
  have hl12 : (qC G g).length ≤ 12 := a2
  obtain ⟨-, ls1, -, ls2⟩ := lin_spine_parts (qP G g) (fnn (qF G g)) hpat.2.2.1
  have hpo := pats_occ hpat
  have enp : Int32.ofNat (P.2.2.2.2.2.2.2.2.2.2.2.2.1 (Int32.toNatClampNeg (nz g))) = nz (qP G g).length := by rw [nz_nat (by omega), y4]; rfl
  intro k
  induction k with
  | zero =>
    intro fu i va σ hi hfu hs hb
    obtain ⟨fu, rfl⟩ : ∃ e, fu = e + 1 := ⟨fu - 1, by omega⟩
    obtain rfl : i = (qP G g).length := by omega
    refine Or.inl ⟨va, σ, ?_, map_ext hlen (fun x p a hp ha => hs x p a ?_ hp ha), fun x p hp => hb x p ?_ hp⟩
    · conv => lhs; unfold f_X5_clauseByOrder_L
      rw [if_neg (by decide : ¬ (1 : Nat) = 0), enp, if_pos ((nz_le (by omega) (by omega)).mpr (Nat.le_refl _)), if_neg (by decide : ¬ (1 : Int32) = 0)]
    · rcases Nat.lt_or_ge x (qP G g).length with q | q
      · exact q
      · rw [List.getElem?_eq_none q] at hp; cases hp
    · rcases Nat.lt_or_ge x (qP G g).length with q | q
      · exact q
      · rw [List.getElem?_eq_none q] at hp; cases hp
  | succ k ih =>
    intro fu i va σ hi hfu hs hb
    obtain ⟨fu, rfl⟩ : ∃ e, fu = e + 1 := ⟨fu - 1, by omega⟩
    have hil : i < (qP G g).length := by omega
    have ep := List.getElem?_eq_getElem hil
    have ea := List.getElem?_eq_getElem (show i < args.length by omega)
    obtain ⟨jp, p1, p2⟩ := y5 i _ ep
    obtain ⟨ja, g1, g2⟩ := hgv i _ ea
    have hmem := List.mem_of_getElem? ep
    have c1 : ¬ nz (qP G g).length ≤ nz i := fun hq => absurd ((nz_le (by omega) (by omega)).mp hq) (by omega)
    have c2 : ¬ (4 : Int32) ≤ nz i := fun hq => absurd ((nz_le (i := 4) (by decide) (by omega)).mp hq) (by omega)
    have c3 : inb (nz i) (P.2.2.2.2.2.2.2.2.2.2.2.2.1 (Int32.toNatClampNeg (nz g))) = true := by rw [nz_nat (by omega), y4]; exact nz_inb hil (by omega)
    have st : ∀ (r : Int32) (wv' : Nat → Int32), rM 200 (nz (qC G g).length) va K (nz jp) (nz ja) = some (outM r (nz (qC G g).length) wv' K) → f_X5_clauseByOrder_L (fu + 1) 1 K D (mkM M va (nz (qC G g).length)) P v1 v2 (nz g) 1 (nz i) = f_X5_clauseByOrder_L fu 1 K D (mkM M wv' (nz (qC G g).length)) P v1 v2 (nz g) r (nz (i + 1)) := by
      intro r wv' hr
      have hgv2 : (mkM M va (nz (qC G g).length)).2.2.1 i = nz ja := g1
      conv => lhs; unfold f_X5_clauseByOrder_L
      rw [if_neg (by decide : ¬ (1 : Nat) = 0), enp, if_neg c1, if_neg c2, if_neg (by decide : ¬ (1 : Int32) = 0), if_pos c3, if_pos (nz_inb (show i < 4 by omega) (by decide)), nz_nat (show g < 2147483648 by omega), nz_nat (show i < 2147483648 by omega), p1, hgv2, g_match hr, Option.bind_some, show nz i + 1 = nz (i + 1) from nz_add i 1]
    rcases match_ok hC.1 hl12 _ 200 jp ja _ true va p2 g2 (hpat.2.1 _ hmem) (ls1 _ hmem) (hpo i _ ep) (Rep_size _ jp p2) with ⟨wv', σ1, r1, r2, r3, r4⟩ | ⟨wv', r1, r4, r2⟩
    · classical
      rw [st 1 wv' r1]
      have hdis : ∀ (x : Nat) (p : Tm), x < i → (qP G g)[x]? = some p → ∀ z, occ p z → ¬ occ (qP G g)[i] z := fun x p hx hp z h1 h2 => ls2 x i p _ hp ep (by omega) z h1 h2
      have nx := ih fu (i + 1) wv' (fun z => if occ (qP G g)[i] z then σ1 z else σ z) (by omega) (by omega) (by
        intro x p a hx hp ha
        by_cases e : x = i
        · subst e
          have e1 : (qP G g)[x] = p := by rw [ep] at hp; injection hp
          have e2 : args[x] = a := by rw [ea] at ha; injection ha
          subst e1 e2
          rw [← r2]
          exact sbs_occ_pat _ true _ _ (hpat.2.1 _ hmem) (fun z hz => if_pos hz)
        · rw [← hs x p a (by omega) hp ha]
          exact sbs_occ_pat p true _ _ (hpat.2.1 _ (List.mem_of_getElem? hp)) (fun z hz => if_neg (hdis x p (by omega) hp z hz))) (by
        intro x p hx hp z hz
        by_cases e : x = i
        · subst e
          have e1 : (qP G g)[x] = p := by rw [ep] at hp; injection hp
          subst e1
          obtain ⟨w, w1, w2⟩ := r3 z hz
          exact ⟨w, w1, by show Rep K n (if _ then _ else _) w; rw [if_pos hz]; exact w2⟩
        · have hno := hdis x p (by omega) hp z hz
          obtain ⟨w, w1, w2⟩ := hb x p (by omega) hp z hz
          refine ⟨w, ?_, by show Rep K n (if _ then _ else _) w; rw [if_neg hno]; exact w2⟩
          rw [r4 _ (fun k' hk' hq => hno (by
            have q1 := hpo i _ ep k' hk'
            have q2 := hpo x p hp z hz
            have : z = k' := by omega
            rw [this]; exact hk'))]
          exact w1)
      rcases nx with h | ⟨va', fu', h1, h2, h3⟩
      · exact Or.inl h
      · exact Or.inr ⟨va', fu', by omega, h2, h3⟩
    · rw [st 0 wv' r1]
      obtain ⟨fu, rfl⟩ : ∃ e, fu = e + 1 := ⟨fu - 1, by omega⟩
      refine Or.inr ⟨wv', fu, by omega, ?_, ?_⟩
      · conv => lhs; unfold f_X5_clauseByOrder_L
        rw [if_neg (by decide : ¬ (1 : Nat) = 0)]
        split
        · rw [if_pos rfl]
        · split
          · rw [if_pos rfl]
          · rw [if_pos rfl, if_pos rfl]
      · intro σ' hq
        have e := congrArg (fun l => l[i]?) hq
        simp only [List.getElem?_map, ep, ea, Option.map_some] at e
        exact r2 σ' (by injection e)
theorem order_outer {K : Rows} {n f : Nat} {S : SS} {D : DS} {P : PS} {A : SG} {B : FG} {G : GG} {M : MS} {args : List Tm} (hC : CourtC K n S D P A B G) (ht : CourtT A B G) (hf : f < fFc B) (hgv : Given K n M.2.2.1 args) (hlen : args.length = fAr B f) :
    ∀ (k fu g : Nat) (va : Nat → Int32) (vc : Int32), g + k = qN G → 7 * k + 3 < fu → (∀ g', g' < g → qS G g' = 2 → qF G g' = f → ∀ σ, (qP G g').map (fun p => sbs p σ) ≠ args) →
      (∃ g' va' σ, g' < qN G ∧ qS G g' = 2 ∧ qF G g' = f ∧ (qP G g').map (fun p => sbs p σ) = args ∧ (∀ (x : Nat) (p : Tm), (qP G g')[x]? = some p → Binds K n (qC G g').length va' σ p) ∧ f_X5_clauseByOrder_L fu 0 K D (mkM M va vc) P (nz f) (nz g) 0 0 0 = some (nz g', K, mkM M va' (nz (qC G g').length))) ∨
      (∃ va' vc', f_X5_clauseByOrder_L fu 0 K D (mkM M va vc) P (nz f) (nz g) 0 0 0 = some (-1, K, mkM M va' vc') ∧ ∀ g', g' < qN G → qS G g' = 2 → qF G g' = f → ∀ σ, (qP G g').map (fun p => sbs p σ) ≠ args) := by
  intro k
  have hD2 := hC.2.2.2.1
  have h40 := ht.2.2.1
  have h8 := ht.2.1.1
  induction k with
  | zero =>
    intro fu g va vc hg hfu h
    obtain ⟨fu, rfl⟩ : ∃ e, fu = e + 1 := ⟨fu - 1, by omega⟩
    have hg' : g = qN G := by omega
    subst hg'
    refine Or.inr ⟨va, vc, ?_, h⟩
    conv => lhs; unfold f_X5_clauseByOrder_L
    rw [if_pos rfl, hD2, if_pos ((nz_le (by omega) (by omega)).mpr (Nat.le_refl _))]
  | succ k ih =>
    intro fu g va vc hg hfu h
    obtain ⟨fu, rfl⟩ : ∃ e, fu = e + 1 := ⟨fu - 1, by omega⟩
    have hgl : g < qN G := by omega
    obtain ⟨y1, y2, y3, y4, y5, y6, y7, y8, y9⟩ := hC.2.2.2.2 g hgl
    have hgF := (ht.2.2.2.1 g hgl).1
    have st : f_X5_clauseByOrder_L (fu + 1) 0 K D (mkM M va vc) P (nz f) (nz g) 0 0 0 = (if qF G g = f then (if stW (qS G g) = 102 then f_X5_clauseByOrder_L fu 1 K D (mkM M va (nz (qC G g).length)) P (nz f) (nz g) (nz g) 1 0 else f_X5_clauseByOrder_L fu 0 K D (mkM M va vc) P (nz f) (nz (g + 1)) 0 0 0) else f_X5_clauseByOrder_L fu 0 K D (mkM M va vc) P (nz f) (nz (g + 1)) 0 0 0) := by
      conv => lhs; unfold f_X5_clauseByOrder_L
      rw [if_pos rfl, hD2, if_neg (fun hq => absurd ((nz_le (by omega) (by omega)).mp hq) (by omega)), goal_at hD2 h40 (by omega), if_pos hgl, Option.bind_some, if_neg (nz_neg (by omega)), if_pos (gix_at hD2 h40 hgl), nz_nat (show g < 2147483648 by omega), y1, y7, y3.1.1, show nz g + 1 = nz (g + 1) from nz_add g 1]
      by_cases e : qF G g = f
      · rw [if_pos e, if_pos (by rw [e])]
        rfl
      · rw [if_neg e, if_neg (nz_ne (by omega) (by omega) e)]
    have st102 : stW (qS G g) = 102 ↔ qS G g = 2 := by
      have : qS G g = 0 ∨ qS G g = 1 ∨ qS G g = 2 := by omega
      rcases this with q | q | q <;> rw [q] <;> decide
    rw [st]
    have skip : (qS G g = 2 → qF G g = f → ∀ σ, (qP G g).map (fun p => sbs p σ) ≠ args) → ∀ g', g' < g + 1 → qS G g' = 2 → qF G g' = f → ∀ σ, (qP G g').map (fun p => sbs p σ) ≠ args := by
      intro hs g' hg' h1 h2
      rcases Nat.lt_succ_iff_lt_or_eq.mp hg' with q | rfl
      · exact h g' q h1 h2
      · exact hs h1 h2
    by_cases e : qF G g = f
    · rw [if_pos e]
      by_cases e2 : qS G g = 2
      · rw [if_pos (st102.mpr e2)]
        have hpl := (ht.2.2.2.1 g hgl).2.2.2.2.2.1.1
        rw [e] at hpl
        have hr4 : (qP G g).length ≤ 4 := by
          obtain ⟨l, R, q1, q2, q3, q4, -⟩ := ht.2.1.2 _ hf
          omega
        rcases order_inner (v1 := nz f) (v2 := nz g) hC ht hgl hgv (by omega) (qP G g).length fu 0 va (fun _ => .index 0) (by omega) (by omega) (fun x p a hx => absurd hx (by omega)) (fun x p hx => absurd hx (by omega)) with ⟨va', σ, r1, r2, r3⟩ | ⟨va', fu', r1, r2, r3⟩
        · exact Or.inl ⟨g, va', σ, hgl, e2, e, r2, r3, r1⟩
        · have r2' : f_X5_clauseByOrder_L fu 1 K D (mkM M va (nz (qC G g).length)) P (nz f) (nz g) (nz g) 1 0 = f_X5_clauseByOrder_L fu' 0 K D (mkM M va' (nz (qC G g).length)) P (nz f) (nz g + 1) 0 0 0 := r2
          rw [r2', show nz g + 1 = nz (g + 1) from nz_add g 1]
          exact ih fu' (g + 1) va' _ (by omega) (by omega) (skip (fun _ _ => r3))
      · rw [if_neg (fun q => e2 (st102.mp q))]
        exact ih fu (g + 1) va vc (by omega) (by omega) (skip (fun q => absurd q e2))
    · rw [if_neg e]
      exact ih fu (g + 1) va vc (by omega) (by omega) (skip (fun _ q => absurd q e))
theorem order_ok {K : Rows} {n f : Nat} {S : SS} {D : DS} {P : PS} {A : SG} {B : FG} {G : GG} {M : MS} {args : List Tm} (hC : CourtC K n S D P A B G) (ht : CourtT A B G) (hf : f < fFc B) (hgv : Given K n M.2.2.1 args) (hlen : args.length = fAr B f) :
    (∃ g' va' σ, g' < qN G ∧ qS G g' = 2 ∧ qF G g' = f ∧ (qP G g').map (fun p => sbs p σ) = args ∧ (∀ (x : Nat) (p : Tm), (qP G g')[x]? = some p → Binds K n (qC G g').length va' σ p) ∧ f_X5_clauseByOrder K D M P (nz f) = some (nz g', K, mkM M va' (nz (qC G g').length))) ∨
    (∃ va' vc', f_X5_clauseByOrder K D M P (nz f) = some (-1, K, mkM M va' vc') ∧ ∀ g', g' < qN G → qS G g' = 2 → qF G g' = f → ∀ σ, (qP G g').map (fun p => sbs p σ) ≠ args) :=
  order_outer (M := M) hC ht hf hgv hlen (qN G) 100000 0 M.2.2.2.1 M.2.2.2.2.1 (by omega) (by have := ht.2.2.1; omega) (fun g' h => absurd h (by omega))
