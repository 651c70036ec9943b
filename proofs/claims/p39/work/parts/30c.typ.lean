/-! liberal typing: what types are is not asked; 'ty' gives the types of constants, or none for those that may have any -/
def Typ (fr : Tm → Option Tm) (ty : Tm → Option Tm) : Tm → List Tm → Tm → Prop
  | .index k, Γ, T => ∃ A, Γ[k]? = some A ∧ Conv fr (ren A (fun i => i + (k + 1))) T
  | .add _ _, _, _ => True
  | .sub a b, Γ, T => ∃ B, Typ fr ty b (a :: Γ) B ∧ Conv fr (.add a B) T
  | .mul a b, Γ, T => ∃ A B, Typ fr ty a Γ (.add A B) ∧ Typ fr ty b Γ A ∧ Conv fr (inst B b) T
  | t, _, T => ∀ A, ty t = some A → Conv fr A T
section TYP
variable {fr : Tm → Option Tm} {ty : Tm → Option Tm}
theorem Typ_c {t : Tm} {Γ : List Tm} {T : Tm} (h : isC t = true) : Typ fr ty t Γ T ↔ ∀ A, ty t = some A → Conv fr A T := by
  cases t <;> first | exact Iff.rfl | (cases h; done)
theorem Typ_conv (ok : FOK fr) : ∀ (t : Tm) (Γ : List Tm) (T S : Tm), Typ fr ty t Γ T → Conv fr T S → Typ fr ty t Γ S := by
  intro t
  refine tm_ind (P := fun t => ∀ (Γ : List Tm) (T S : Tm), Typ fr ty t Γ T → Conv fr T S → Typ fr ty t Γ S) ?_ ?_ ?_ ?_ ?_ t
  · rintro k Γ T S ⟨A, h1, h2⟩ hc; exact ⟨A, h1, Conv_trans ok h2 hc⟩
  · intro t hc Γ T S h h2; exact (Typ_c hc).mpr (fun A hA => Conv_trans ok ((Typ_c hc).mp h A hA) h2)
  · intro a b _ _ Γ T S _ _; exact trivial
  · rintro a b _ _ Γ T S ⟨B, h1, h2⟩ hc; exact ⟨B, h1, Conv_trans ok h2 hc⟩
  · rintro a b _ _ Γ T S ⟨A, B, h1, h2, h3⟩ hc; exact ⟨A, B, h1, h2, Conv_trans ok h3 hc⟩
/-- what is asked of the types of constants: no free variable -/
def TOK (ty : Tm → Option Tm) : Prop := ∀ t A (σ : Nat → Tm), ty t = some A → sbs A σ = A
theorem TOK_ren (tk : TOK ty) {t A : Tm} (ρ : Nat → Nat) (h : ty t = some A) : ren A ρ = A := by
  rw [ren_sbs_eq]
  exact tk _ _ _ h
theorem Typ_ren (ok : FOK fr) (tk : TOK ty) : ∀ (t : Tm) (Γ Δ : List Tm) (T : Tm) (ρ : Nat → Nat), Typ fr ty t Γ T →
    (∀ k A, Γ[k]? = some A → ∃ A', Δ[ρ k]? = some A' ∧ ren A' (fun i => i + (ρ k + 1)) = ren (ren A (fun i => i + (k + 1))) ρ) →
    Typ fr ty (ren t ρ) Δ (ren T ρ) := by
  intro t
  refine tm_ind (P := fun t => ∀ (Γ Δ : List Tm) (T : Tm) (ρ : Nat → Nat), Typ fr ty t Γ T →
    (∀ k A, Γ[k]? = some A → ∃ A', Δ[ρ k]? = some A' ∧ ren A' (fun i => i + (ρ k + 1)) = ren (ren A (fun i => i + (k + 1))) ρ) →
    Typ fr ty (ren t ρ) Δ (ren T ρ)) ?_ ?_ ?_ ?_ ?_ t
  · rintro k Γ Δ T ρ ⟨A, h1, h2⟩ hr
    obtain ⟨A', g1, g2⟩ := hr k A h1
    refine ⟨A', g1, ?_⟩
    rw [g2]
    exact Conv_ren ok ρ h2
  · intro t hc Γ Δ T ρ h hr
    rw [ren_c hc]
    refine (Typ_c hc).mpr (fun A hA => ?_)
    have := Conv_ren ok ρ ((Typ_c hc).mp h A hA)
    rw [TOK_ren tk ρ hA] at this
    exact this
  · intro a b _ _ Γ Δ T ρ _ _; exact trivial
  · rintro a b _ hb Γ Δ T ρ ⟨B, h1, h2⟩ hr
    refine ⟨ren B (upr ρ), hb (a :: Γ) (ren a ρ :: Δ) B (upr ρ) h1 ?_, Conv_ren ok ρ h2⟩
    intro k A hA
    cases k with
    | zero =>
      have e : a = A := by simpa using hA
      subst e
      refine ⟨ren a ρ, rfl, ?_⟩
      rw [ren_ren, ren_ren]
      rfl
    | succ k =>
      have e : Γ[k]? = some A := by simpa using hA
      obtain ⟨A', g1, g2⟩ := hr k A e
      refine ⟨A', by simpa [upr] using g1, ?_⟩
      have g3 := congrArg (fun x => ren x Nat.succ) g2
      simp only [ren_ren] at g3 ⊢
      exact g3
  · rintro a b ha hb Γ Δ T ρ ⟨A, B, h1, h2, h3⟩ hr
    refine ⟨ren A ρ, ren B (upr ρ), ha Γ Δ _ ρ h1 hr, hb Γ Δ _ ρ h2 hr, ?_⟩
    rw [← inst_ren]
    exact Conv_ren ok ρ h3
theorem Typ_weak (ok : FOK fr) (tk : TOK ty) {t : Tm} {Γ : List Tm} {T : Tm} (a : Tm) (h : Typ fr ty t Γ T) : Typ fr ty (ren t Nat.succ) (a :: Γ) (ren T Nat.succ) := by
  refine Typ_ren ok tk t Γ (a :: Γ) T Nat.succ h ?_
  intro k A hA
  refine ⟨A, by simpa using hA, ?_⟩
  rw [ren_ren]
  rfl
theorem Typ_sbs (ok : FOK fr) (tk : TOK ty) : ∀ (t : Tm) (Γ Δ : List Tm) (T : Tm) (σ : Nat → Tm), Typ fr ty t Γ T →
    (∀ k A, Γ[k]? = some A → Typ fr ty (σ k) Δ (sbs (ren A (fun i => i + (k + 1))) σ)) →
    Typ fr ty (sbs t σ) Δ (sbs T σ) := by
  intro t
  refine tm_ind (P := fun t => ∀ (Γ Δ : List Tm) (T : Tm) (σ : Nat → Tm), Typ fr ty t Γ T →
    (∀ k A, Γ[k]? = some A → Typ fr ty (σ k) Δ (sbs (ren A (fun i => i + (k + 1))) σ)) →
    Typ fr ty (sbs t σ) Δ (sbs T σ)) ?_ ?_ ?_ ?_ ?_ t
  · rintro k Γ Δ T σ ⟨A, h1, h2⟩ hs
    exact Typ_conv ok _ _ _ _ (hs k A h1) (Conv_sbs ok σ h2)
  · intro t hc Γ Δ T σ h hs
    rw [sbs_c hc]
    refine (Typ_c hc).mpr (fun A hA => ?_)
    have := Conv_sbs ok σ ((Typ_c hc).mp h A hA)
    rw [tk _ _ σ hA] at this
    exact this
  · intro a b _ _ Γ Δ T σ _ _; exact trivial
  · rintro a b _ hb Γ Δ T σ ⟨B, h1, h2⟩ hs
    refine ⟨sbs B (ups σ), hb (a :: Γ) (sbs a σ :: Δ) B (ups σ) h1 ?_, Conv_sbs ok σ h2⟩
    intro k A hA
    cases k with
    | zero =>
      have e : a = A := by simpa using hA
      subst e
      refine ⟨sbs a σ, rfl, ?_⟩
      have e2 : sbs (ren a (fun i => i + (0 + 1))) (ups σ) = ren (sbs a σ) (fun i => i + (0 + 1)) := by
        rw [sbs_ren, ren_sbs]
        rfl
      rw [e2]
      exact Conv_refl _
    | succ k =>
      have e : Γ[k]? = some A := by simpa using hA
      have g := Typ_weak ok tk (sbs a σ) (hs k A e)
      have e2 : sbs (ren A (fun i => i + (k + 1 + 1))) (ups σ) = ren (sbs (ren A (fun i => i + (k + 1))) σ) Nat.succ := by
        rw [sbs_ren, sbs_ren, ren_sbs]
        rfl
      rw [e2]
      exact g
  · rintro a b ha hb Γ Δ T σ ⟨A, B, h1, h2, h3⟩ hs
    refine ⟨sbs A σ, sbs B (ups σ), ha Γ Δ _ σ h1 hs, hb Γ Δ _ σ h2 hs, ?_⟩
    rw [← inst_sbs]
    exact Conv_sbs ok σ h3
theorem Typ_inst (ok : FOK fr) (tk : TOK ty) {t v a T : Tm} {Γ : List Tm} (h : Typ fr ty t (a :: Γ) T) (hv : Typ fr ty v Γ a) : Typ fr ty (inst t v) Γ (inst T v) := by
  refine Typ_sbs ok tk t (a :: Γ) Γ T (ins v) h ?_
  intro k A hA
  cases k with
  | zero =>
    have e : a = A := by simpa using hA
    subst e
    have e2 : sbs (ren a (fun i => i + (0 + 1))) (ins v) = a := inst_lift a v
    rw [e2]
    exact hv
  | succ k =>
    have e : Γ[k]? = some A := by simpa using hA
    refine ⟨A, e, ?_⟩
    have e2 : sbs (ren A (fun i => i + (k + 1 + 1))) (ins v) = ren A (fun i => i + (k + 1)) := by
      rw [sbs_ren, ren_sbs_eq]
      rfl
    rw [e2]
    exact Conv_refl _
/-- beta keeps types -/
theorem Typ_beta (ok : FOK fr) (tk : TOK ty) {a c v T : Tm} {Γ : List Tm} (h : Typ fr ty (.mul (.sub a c) v) Γ T) : Typ fr ty (inst c v) Γ T := by
  obtain ⟨A, B, ⟨B', h1, h2⟩, h3, h4⟩ := h
  obtain ⟨g1, g2⟩ := Conv_pi_inj h2
  have h5 : Typ fr ty v Γ a := Typ_conv ok _ _ _ _ h3 (Conv_symm g1)
  refine Typ_conv ok _ _ _ _ (Typ_inst ok tk h1 h5) (Conv_trans ok (Conv_inst ok g2 (Conv_refl v)) h4)
/-- a stack of what waits: (true, f) for a function that waits for its argument, (false, a) for an argument -/
def plug : List (Bool × Tm) → Tm → Tm
  | [], t => t
  | (true, f) :: s, t => plug s (.mul f t)
  | (false, a) :: s, t => plug s (.mul t a)
theorem plug_Conv (ok : FOK fr) : ∀ (s : List (Bool × Tm)) (t u : Tm), Conv fr t u → Conv fr (plug s t) (plug s u)
  | [], _, _, h => h
  | (true, f) :: s, _, _, h => plug_Conv ok s _ _ (Conv_app ok (Conv_refl f) h)
  | (false, a) :: s, _, _, h => plug_Conv ok s _ _ (Conv_app ok h (Conv_refl a))
/-- what keeps its types in the middle of a stack keeps those of the whole -/
theorem Typ_plug (ok : FOK fr) {Γ : List Tm} : ∀ (s : List (Bool × Tm)) (t u : Tm), Conv fr t u → (∀ T, Typ fr ty t Γ T → Typ fr ty u Γ T) → ∀ T : Tm, Typ fr ty (plug s t) Γ T → Typ fr ty (plug s u) Γ T
  | [], _, _, _, hu, T, h => hu T h
  | (true, f) :: s, t, u, hc, hu, T, h => by
    refine Typ_plug ok s (.mul f t) (.mul f u) (Conv_app ok (Conv_refl f) hc) ?_ T h
    rintro T ⟨A, B, h1, h2, h3⟩
    exact ⟨A, B, h1, hu _ h2, Conv_trans ok (Conv_inst ok (Conv_refl B) (Conv_symm hc)) h3⟩
  | (false, a) :: s, t, u, hc, hu, T, h => by
    refine Typ_plug ok s (.mul t a) (.mul u a) (Conv_app ok hc (Conv_refl a)) ?_ T h
    rintro T ⟨A, B, h1, h2, h3⟩
    exact ⟨A, B, hu _ h1, h2, h3⟩
/-- what stands in the middle of a stack has a type -/
theorem Typ_mid {Γ : List Tm} : ∀ (s : List (Bool × Tm)) (t T : Tm), Typ fr ty (plug s t) Γ T → ∃ S, Typ fr ty t Γ S
  | [], _, T, h => ⟨T, h⟩
  | (true, f) :: s, t, T, h => by
    obtain ⟨S, A, B, h1, h2, h3⟩ := Typ_mid s (.mul f t) T h
    exact ⟨A, h2⟩
  | (false, a) :: s, t, T, h => by
    obtain ⟨S, A, B, h1, h2, h3⟩ := Typ_mid s (.mul t a) T h
    exact ⟨_, h1⟩
/-- a head with its arguments -/
def spine : Tm → List Tm → Tm
  | h, [] => h
  | h, a :: l => spine (.mul h a) l
/-- the arguments fit a type one after another and leave a type -/
def Args (fr : Tm → Option Tm) (ty : Tm → Option Tm) (Γ : List Tm) : Tm → List Tm → Tm → Prop
  | S, [], T => Conv fr S T
  | S, a :: l, T => ∃ A B, Conv fr S (.add A B) ∧ Typ fr ty a Γ A ∧ Args fr ty Γ (inst B a) l T
theorem Args_conv (ok : FOK fr) {Γ : List Tm} : ∀ (l : List Tm) (S S' T : Tm), Conv fr S' S → Args fr ty Γ S l T → Args fr ty Γ S' l T
  | [], _, _, _, hc, h => Conv_trans ok hc h
  | _ :: _, _, _, _, hc, ⟨A, B, h1, h2, h3⟩ => ⟨A, B, Conv_trans ok hc h1, h2, h3⟩
theorem Args_conv2 (ok : FOK fr) {Γ : List Tm} : ∀ (l : List Tm) (S T T' : Tm), Conv fr T T' → Args fr ty Γ S l T → Args fr ty Γ S l T'
  | [], _, _, _, hc, h => Conv_trans ok h hc
  | _ :: l, _, _, _, hc, ⟨A, B, h1, h2, h3⟩ => ⟨A, B, h1, h2, Args_conv2 ok l _ _ _ hc h3⟩
theorem Typ_spine (ok : FOK fr) {Γ : List Tm} : ∀ (l : List Tm) (h T : Tm), Typ fr ty (spine h l) Γ T → ∃ S, Typ fr ty h Γ S ∧ Args fr ty Γ S l T
  | [], h, T, ht => ⟨T, ht, Conv_refl T⟩
  | a :: l, h, T, ht => by
    obtain ⟨S, ⟨A, B, h1, h2, h3⟩, h4⟩ := Typ_spine ok l (.mul h a) T ht
    exact ⟨.add A B, h1, A, B, Conv_refl _, h2, Args_conv ok l _ _ _ h3 h4⟩
theorem spine_Typ (ok : FOK fr) {Γ : List Tm} : ∀ (l : List Tm) (h S T : Tm), Typ fr ty h Γ S → Args fr ty Γ S l T → Typ fr ty (spine h l) Γ T
  | [], h, S, T, h1, h2 => Typ_conv ok _ _ _ _ h1 h2
  | a :: l, h, S, T, h1, ⟨A, B, h2, h3, h4⟩ => spine_Typ ok l (.mul h a) (inst B a) T ⟨A, B, Typ_conv ok _ _ _ _ h1 h2, h3, Conv_refl _⟩ h4
/-- the type of a constructor: from data to data -/
def conType : List Tm → Tm → Tm
  | [], d => d
  | D :: l, d => .add D (conType l d)
theorem conType_sbs : ∀ (l : List Tm) (d : Tm) (σ : Nat → Tm), (∀ D ∈ l, isC D = true) → isC d = true → sbs (conType l d) σ = conType l d
  | [], d, σ, _, hd => sbs_c hd σ
  | D :: l, d, σ, hl, hd => by
    show Jvm.Term.add (sbs D σ) (sbs (conType l d) (ups σ)) = .add D (conType l d)
    rw [sbs_c (hl D (List.mem_cons_self ..)), conType_sbs l d _ (fun E hE => hl E (List.mem_cons_of_mem _ hE)) hd]
/-- a constructor whose arguments come to a constant type has all its arguments, each of its part's type -/
theorem Args_con (ok : FOK fr) {Γ : List Tm} : ∀ (l : List Tm) (d : Tm) (args : List Tm) (e S : Tm), (∀ D ∈ l, isC D = true) → isC d = true → isC e = true →
    Conv fr (conType l d) S → Args fr ty Γ S args e → d = e ∧ args.length = l.length ∧ ∀ (k : Nat) (a D : Tm), args[k]? = some a → l[k]? = some D → Typ fr ty a Γ D
  | [], d, [], e, S, hl, hd, he, hc, h => ⟨Conv_c_c hd he (Conv_trans ok hc h), rfl, fun k a D h1 _ => by simp at h1⟩
  | [], d, a :: args, e, S, hl, hd, he, hc, ⟨A, B, h1, _, _⟩ => (Conv_pi_c hd (Conv_symm (Conv_trans ok hc h1))).elim
  | D :: l, d, [], e, S, hl, hd, he, hc, h => (Conv_pi_c he (Conv_trans ok hc h)).elim
  | D :: l, d, a :: args, e, S, hl, hd, he, hc, ⟨A, B, h1, h2, h3⟩ => by
    obtain ⟨g1, g2⟩ := Conv_pi_inj (Conv_trans ok hc h1)
    have hl2 : ∀ E ∈ l, isC E = true := fun E hE => hl E (List.mem_cons_of_mem _ hE)
    have g3 : Conv fr (conType l d) (inst B a) := by
      have := Conv_sbs ok (ins a) g2
      rw [conType_sbs l d _ hl2 hd] at this
      exact this
    obtain ⟨k1, k2, k3⟩ := Args_con ok l d args e (inst B a) hl2 hd he g3 h3
    refine ⟨k1, by rw [List.length_cons, List.length_cons, k2], ?_⟩
    intro k b E hb hE
    cases k with
    | zero =>
      have e1 : a = b := by simpa using hb
      have e2 : D = E := by simpa using hE
      subst e1 e2
      exact Typ_conv ok _ _ _ _ h2 (Conv_symm g1)
    | succ k => exact k3 k b E (by simpa using hb) (by simpa using hE)
/-- a value with a constructor at its head and a data type is whole -/
theorem Typ_canon (ok : FOK fr) {Γ : List Tm} {c : Tm} {l : List Tm} {d e : Tm} {args : List Tm} (hc : isC c = true) (ht : ty c = some (conType l d)) (hl : ∀ D ∈ l, isC D = true) (hd : isC d = true) (he : isC e = true)
    (h : Typ fr ty (spine c args) Γ e) : d = e ∧ args.length = l.length ∧ ∀ (k : Nat) (a D : Tm), args[k]? = some a → l[k]? = some D → Typ fr ty a Γ D := by
  obtain ⟨S, h1, h2⟩ := Typ_spine ok args c e h
  exact Args_con ok l d args e S hl hd he ((Typ_c hc).mp h1 _ ht) h2
end TYP
