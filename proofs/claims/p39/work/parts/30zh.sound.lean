/-! what find finds is a type in the liberal sense -/
theorem step_Par (fr : Tm → Option Tm) : ∀ t : Tm, Par fr t (stepT t) := by
  intro t
  refine tm_ind (P := fun t => Par fr t (stepT t)) (fun k => rfl) (fun t h => by cases t <;> first | rfl | (cases h; done)) ?_ ?_ ?_ t
  · intro a b ha hb
    show Par fr (.add a b) (if looseT a = true then Jvm.Term.add (stepT a) b else .add a (stepT b))
    by_cases h : looseT a = true
    · rw [if_pos h]; exact ⟨_, _, rfl, ha, Par_refl b⟩
    · rw [if_neg h]; exact ⟨_, _, rfl, Par_refl a, hb⟩
  · intro a b ha hb
    show Par fr (.sub a b) (if looseT a = true then Jvm.Term.sub (stepT a) b else .sub a (stepT b))
    by_cases h : looseT a = true
    · rw [if_pos h]; exact ⟨_, _, rfl, ha, Par_refl b⟩
    · rw [if_neg h]; exact ⟨_, _, rfl, Par_refl a, hb⟩
  · intro a b ha hb
    show Par fr (.mul a b) (if isL a = true then inst (bodyT a) b else if looseT a = true then Jvm.Term.mul (stepT a) b else .mul a (stepT b))
    by_cases hL : isL a = true
    · obtain ⟨A, c, rfl⟩ := isL_ex hL
      rw [if_pos hL]
      exact ⟨.sub A c, b, Par_refl _, Par_refl b, Or.inr (Or.inl ⟨rfl, A, c, rfl, rfl⟩)⟩
    · rw [if_neg hL]
      by_cases h : looseT a = true
      · rw [if_pos h]; exact ⟨_, _, ha, Par_refl b, Or.inl rfl⟩
      · rw [if_neg h]; exact ⟨_, _, Par_refl a, hb, Or.inl rfl⟩
theorem nfT_Red (fr : Tm → Option Tm) : ∀ (k : Nat) (t u : Tm), nfT k t = some u → Red fr t u
  | 0, t, u, h => by cases h
  | k + 1, t, u, h => by
    unfold nfT at h
    by_cases h1 : 80 < sizeT t
    · rw [if_pos h1] at h; cases h
    · rw [if_neg h1] at h
      by_cases h2 : looseT t = true
      · rw [if_pos h2] at h
        exact Red_trans (Red_one (step_Par fr t)) (nfT_Red fr k (stepT t) u h)
      · rw [if_neg h2] at h
        have e : t = u := by injection h
        subst e
        exact Red_refl t
theorem nf_Conv (fr : Tm → Option Tm) {t u : Tm} (h : nf t = some u) : Conv fr t u := Red_conv (nfT_Red fr 21 t u h)
theorem nf_self {t : Tm} (h : sizeT t ≤ 80) (h2 : looseT t = false) : nf t = some t := by
  show (if 80 < sizeT t then none else if looseT t = true then nfT 20 (stepT t) else some t) = some t
  rw [if_neg (by omega), h2, if_neg (by decide)]
def tyOf (tb : Nat → Option Tm) : Tm → Option Tm
  | .arg m => tb m
  | _ => none
/-- a table of types: of constructors and functions, closed -/
def TBok (tb : Nat → Option Tm) : Prop := ∀ m T, tb m = some T → (m % 8 = 3 ∨ m % 8 = 4) ∧ ∀ σ, sbs T σ = T
def Ex (tb tb' : Nat → Option Tm) : Prop := ∀ m T, tb m = some T → tb' m = some T
theorem Ex_refl (tb : Nat → Option Tm) : Ex tb tb := fun _ _ h => h
theorem Ex_trans {a b c : Nat → Option Tm} (h : Ex a b) (h2 : Ex b c) : Ex a c := fun m T q => h2 m T (h m T q)
theorem TBok_TOK {tb : Nat → Option Tm} (h : TBok tb) : TOK (tyOf tb) := fun t A σ ht => by
  cases t with
  | arg m => exact (h m A ht).2 σ
  | _ => cases ht
theorem shift_zero (x : Nat) : shift x 0 = fun i => i + x := by
  funext i
  unfold shift
  rw [if_neg (Nat.not_lt_zero i)]
theorem tyT_Typ {fr : Tm → Option Tm} (ok : FOK fr) {tb tb' : Nat → Option Tm} (hb : TBok tb') (hx : Ex tb tb') : ∀ (t : Tm) (Γ : List Tm) (T : Tm), tyT tb t Γ = some T → Typ fr (tyOf tb') t Γ T := by
  have nfc : ∀ {o : Option Tm} {u : Tm}, o.bind nf = some u → ∃ A, o = some A ∧ Conv fr A u := by
    intro o u h
    cases o with
    | none => cases h
    | some A => exact ⟨A, rfl, nf_Conv fr h⟩
  intro t
  induction t with
  | index k =>
    intro Γ T h
    have h' : (Γ[k]?).map (fun T => ren T (shift (k + 1) 0)) = some T := h
    cases hk : Γ[k]? with
    | none => rw [hk] at h'; cases h'
    | some A =>
      rw [hk] at h'
      have e : ren A (shift (k + 1) 0) = T := by injection h'
      refine ⟨A, hk, ?_⟩
      rw [← e, shift_zero]
      exact Conv_refl _
  | arg m =>
    intro Γ T h
    refine (Typ_c rfl).mpr (fun A hA => ?_)
    have hA' : tb' m = some A := hA
    have hm := (hb m A hA').1
    unfold tyT at h
    rw [if_neg (by omega), if_neg (by omega), if_neg (by omega)] at h
    have e : A = T := by
      have := hx m T h
      rw [hA'] at this
      injection this
    rw [e]
    exact Conv_refl _
  | add a b iha ihb => intro Γ T h; exact trivial
  | sub a b iha ihb =>
    intro Γ T h
    have h' : (isUn ((tyT tb a Γ).bind nf)).bind (fun _ => (tyT tb b (a :: Γ)).bind (fun B => capT (.add a B))) = some T := h
    cases hu : isUn ((tyT tb a Γ).bind nf) with
    | none => rw [hu] at h'; cases h'
    | some u =>
      cases hv : tyT tb b (a :: Γ) with
      | none => rw [hu, hv] at h'; cases h'
      | some A =>
        rw [hu, hv] at h'
        have h2 : capT (.add a A) = some T := h'
        unfold capT at h2
        split at h2
        · have e : Jvm.Term.add a A = T := by injection h2
          rw [← e]
          exact ⟨A, ihb _ _ hv, Conv_refl _⟩
        · cases h2
  | mul a b iha ihb =>
    intro Γ T h
    have h' : (isPi ((tyT tb a Γ).bind nf)).bind (fun q => if (tyT tb b Γ).bind nf = some q.1 then capT (inst q.2 b) else none) = some T := h
    cases hu : (tyT tb a Γ).bind nf with
    | none => rw [hu] at h'; cases h'
    | some u =>
      obtain ⟨A, hA, hc⟩ := nfc hu
      rw [hu] at h'
      cases u with
      | add C D =>
        have h2 : (if (tyT tb b Γ).bind nf = some C then capT (inst D b) else none) = some T := h'
        split at h2
        · rename_i hC
          obtain ⟨Y, hY, hd⟩ := nfc hC
          unfold capT at h2
          split at h2
          · have e : inst D b = T := by injection h2
            rw [← e]
            exact ⟨C, D, Typ_conv ok _ _ _ _ (iha Γ A hA) hc, Typ_conv ok _ _ _ _ (ihb Γ Y hY) hd, Conv_refl _⟩
          · cases h2
        · cases h2
      | _ => cases h'
  | _ => intro Γ T h; cases h
theorem fit_Typ {fr : Tm → Option Tm} (ok : FOK fr) {tb tb' : Nat → Option Tm} (hb : TBok tb') (hx : Ex tb tb') {t T : Tm} {Γ : List Tm} (h : (tyT tb t Γ).bind nf = some T) : Typ fr (tyOf tb') t Γ T := by
  cases hA : tyT tb t Γ with
  | none => rw [hA] at h; cases h
  | some A =>
    rw [hA] at h
    exact Typ_conv ok _ _ _ _ (tyT_Typ ok hb hx t Γ A hA) (nf_Conv fr h)
/-- a term with a type has no variable that is not in the context -/
theorem tyT_scope {tb : Nat → Option Tm} : ∀ (t : Tm) (Γ : List Tm) (T : Tm), tyT tb t Γ = some T → freeT t ≤ Γ.length := by
  have some_of : ∀ {o : Option Tm} {x : Nat}, isUn (o.bind nf) = some x → ∃ A, o = some A := by
    intro o x h
    cases o with
    | none => cases h
    | some A => exact ⟨A, rfl⟩
  intro t
  induction t with
  | index k =>
    intro Γ T h
    have h' : (Γ[k]?).map (fun T => ren T (shift (k + 1) 0)) = some T := h
    show k + 1 ≤ Γ.length
    rcases Nat.lt_or_ge k Γ.length with q | q
    · exact q
    · rw [List.getElem?_eq_none q] at h'; cases h'
  | arg m => intro Γ T h; exact Nat.zero_le _
  | add a b iha ihb =>
    intro Γ T h
    have h' : (isUn ((tyT tb a Γ).bind nf)).bind (fun u => (isUn ((tyT tb b (a :: Γ)).bind nf)).bind (fun w => some (.arg (8 * max u w + 0)))) = some T := h
    cases hu : isUn ((tyT tb a Γ).bind nf) with
    | none => rw [hu] at h'; cases h'
    | some u =>
      cases hv : isUn ((tyT tb b (a :: Γ)).bind nf) with
      | none => rw [hu, hv] at h'; cases h'
      | some w =>
        obtain ⟨A, hA⟩ := some_of hu
        obtain ⟨B, hB⟩ := some_of hv
        have h1 := iha Γ A hA
        have h2 := ihb (a :: Γ) B hB
        rw [List.length_cons] at h2
        show max (freeT a) (freeT b - 1) ≤ _
        omega
  | sub a b iha ihb =>
    intro Γ T h
    have h' : (isUn ((tyT tb a Γ).bind nf)).bind (fun _ => (tyT tb b (a :: Γ)).bind (fun B => capT (.add a B))) = some T := h
    cases hu : isUn ((tyT tb a Γ).bind nf) with
    | none => rw [hu] at h'; cases h'
    | some u =>
      cases hv : tyT tb b (a :: Γ) with
      | none => rw [hu, hv] at h'; cases h'
      | some B =>
        obtain ⟨A, hA⟩ := some_of hu
        have h1 := iha Γ A hA
        have h2 := ihb (a :: Γ) B hv
        rw [List.length_cons] at h2
        show max (freeT a) (freeT b - 1) ≤ _
        omega
  | mul a b iha ihb =>
    intro Γ T h
    have h' : (isPi ((tyT tb a Γ).bind nf)).bind (fun q => if (tyT tb b Γ).bind nf = some q.1 then capT (inst q.2 b) else none) = some T := h
    cases hu : (tyT tb a Γ).bind nf with
    | none => rw [hu] at h'; cases h'
    | some u =>
      have hA : ∃ A, tyT tb a Γ = some A := by
        cases hA : tyT tb a Γ with
        | none => rw [hA] at hu; cases hu
        | some A => exact ⟨A, rfl⟩
      obtain ⟨A, hA⟩ := hA
      rw [hu] at h'
      cases u with
      | add C D =>
        have h2 : (if (tyT tb b Γ).bind nf = some C then capT (inst D b) else none) = some T := h'
        split at h2
        · rename_i hC
          have hB : ∃ B, tyT tb b Γ = some B := by
            cases hB : tyT tb b Γ with
            | none => rw [hB] at hC; cases hC
            | some B => exact ⟨B, rfl⟩
          obtain ⟨B, hB⟩ := hB
          have h1 := iha Γ A hA
          have h2 := ihb Γ B hB
          show max (freeT a) (freeT b) ≤ _
          omega
        · cases h2
      | _ => cases h'
  | _ => intro Γ T h; cases h
/-- an application has a type only if its parts have one -/
theorem tyT_app {tb : Nat → Option Tm} {a b : Tm} {Γ : List Tm} (h : (tyT tb (.mul a b) Γ).bind nf ≠ none) : (tyT tb a Γ).bind nf ≠ none ∧ (tyT tb b Γ).bind nf ≠ none := by
  have e : tyT tb (.mul a b) Γ = (isPi ((tyT tb a Γ).bind nf)).bind (fun q => if (tyT tb b Γ).bind nf = some q.1 then capT (inst q.2 b) else none) := rfl
  rw [e] at h
  constructor
  · intro q
    rw [q] at h
    exact h rfl
  · intro q
    cases hp : isPi ((tyT tb a Γ).bind nf) with
    | none => rw [hp] at h; exact h rfl
    | some p =>
      rw [hp, q] at h
      exact h (by rw [Option.bind_some, if_neg (by intro h; cases h)]; rfl)
