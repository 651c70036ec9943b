/-! what a left side says of its variables: 'Inv' holds at the root, is handed down by a split, and makes a clause keep types -/
def consS (a : Tm) (τ : Nat → Tm) : Nat → Tm
  | 0 => a
  | k + 1 => τ k
def env : List Tm → (Nat → Tm) → Nat → Tm
  | [], τ => τ
  | a :: l, τ => env l (consS a τ)
theorem inst_ups (t a : Tm) (τ : Nat → Tm) : inst (sbs t (ups τ)) a = sbs t (consS a τ) := by
  rw [inst, sbs_sbs]
  congr 1
  funext k
  cases k with
  | zero => rfl
  | succ k =>
    show sbs (ren (τ k) Nat.succ) (ins a) = τ k
    exact inst_lift (τ k) a
/-- the values of a context's variables have their types -/
def EnvS (fr : Tm → Option Tm) (ty : Tm → Option Tm) (Γ Δ : List Tm) (σ : Nat → Tm) : Prop :=
  ∀ (k : Nat) (A : Tm), Γ[k]? = some A → Typ fr ty (σ k) Δ (sbs (ren A (fun i => i + (k + 1))) σ)
def Inv (fr : Tm → Option Tm) (ty : Tm → Option Tm) (Γ : List Tm) (P T : Tm) : Prop :=
  ∀ (Δ : List Tm) (σ : Nat → Tm) (S : Tm), Typ fr ty (sbs P σ) Δ S → EnvS fr ty Γ Δ σ ∧ Conv fr (sbs T σ) S
section INV
variable {fr : Tm → Option Tm} {ty : Tm → Option Tm}
theorem Inv_keeps (ok : FOK fr) (tk : TOK ty) {Γ : List Tm} {P T R : Tm} (hi : Inv fr ty Γ P T) (hr : Typ fr ty R Γ T) {Δ : List Tm} {σ : Nat → Tm} {S : Tm} (h : Typ fr ty (sbs P σ) Δ S) : Typ fr ty (sbs R σ) Δ S := by
  obtain ⟨h1, h2⟩ := hi Δ σ S h
  exact Typ_conv ok _ _ _ _ (Typ_sbs ok tk R Γ Δ T σ hr h1) h2
theorem Inv_split (ok : FOK fr) {Γ Γ' : List Tm} {P T T' : Tm} {θ : Nat → Tm} (hi : Inv fr ty Γ P T) (hT : Conv fr T' (sbs T θ))
    (hv : ∀ (k' : Nat) (A' : Tm), Γ'[k']? = some A' →
      (∃ (k : Nat) (A : Tm), Γ[k]? = some A ∧ θ k = .index k' ∧ Conv fr (ren A' (fun i => i + (k' + 1))) (sbs (ren A (fun i => i + (k + 1))) θ)) ∨
      (∃ (p : Nat) (c : Tm) (l : List Tm) (d : Tm) (args : List Tm) (e : Tm) (j : Nat), Γ[p]? = some e ∧ θ p = spine c args ∧ isC c = true ∧ ty c = some (conType l d) ∧ (∀ D ∈ l, isC D = true) ∧ isC d = true ∧ isC e = true ∧ args[j]? = some (.index k') ∧ l[j]? = some A')) :
    Inv fr ty Γ' (sbs P θ) T' := by
  intro Δ σ S h
  rw [sbs_sbs] at h
  obtain ⟨h1, h2⟩ := hi Δ _ S h
  refine ⟨?_, ?_⟩
  · intro k' A' hA
    rcases hv k' A' hA with ⟨k, A, g1, g2, g3⟩ | ⟨p, c, l, d, args, e, j, g1, g2, g3, g4, g5, g6, g7, g8, g9⟩
    · have h3 := h1 k A g1
      have e1 : sbs (θ k) σ = σ k' := by rw [g2]; rfl
      rw [show (fun k => sbs (θ k) σ) k = sbs (θ k) σ from rfl, e1] at h3
      refine Typ_conv ok _ _ _ _ h3 ?_
      rw [← sbs_sbs]
      exact Conv_sbs ok σ (Conv_symm g3)
    · have h3 := h1 p e g1
      have e1 : ∀ (l : List Tm) (h : Tm), sbs (spine h l) σ = spine (sbs h σ) (l.map (fun a => sbs a σ)) := by
        intro l
        induction l with
        | nil => intro h; rfl
        | cons a l ih => intro h; exact ih (.mul h a)
      have h4 : Typ fr ty (spine c (args.map (fun a => sbs a σ))) Δ e := by
        have e2 : (fun k => sbs (θ k) σ) p = spine c (args.map (fun a => sbs a σ)) := by
          show sbs (θ p) σ = _
          rw [g2, e1, sbs_c g3]
        rw [e2, ren_c g7, sbs_c g7] at h3
        exact h3
      obtain ⟨-, -, h5⟩ := Typ_canon ok g3 g4 g5 g6 g7 h4
      have h6 := h5 j (σ k') A' (by rw [List.getElem?_map, g8]; rfl) g9
      have g10 : isC A' = true := g5 A' (List.mem_of_getElem? g9)
      rw [ren_c g10, sbs_c g10]
      exact h6
  · refine Conv_trans ok ?_ h2
    rw [← sbs_sbs]
    exact Conv_sbs ok σ hT
theorem Args_tele (ok : FOK fr) {Δ : List Tm} : ∀ (l : List Tm) (R : Tm) (args : List Tm) (τ : Nat → Tm) (S : Tm), Args fr ty Δ (sbs (conType l R) τ) args S → args.length = l.length →
    (∀ (i : Nat) (A a : Tm), l[i]? = some A → args[i]? = some a → Typ fr ty a Δ (sbs A (env (args.take i) τ))) ∧ Conv fr (sbs R (env args τ)) S
  | [], R, [], τ, S, h, _ => ⟨fun i A a h1 _ => by simp at h1, h⟩
  | [], R, _ :: _, τ, S, _, h2 => by cases h2
  | _ :: _, R, [], τ, S, _, h2 => by cases h2
  | D :: l, R, a :: args, τ, S, ⟨A, B, h1, h2, h3⟩, hn => by
    obtain ⟨g1, g2⟩ := Conv_pi_inj (show Conv fr (.add (sbs D τ) (sbs (conType l R) (ups τ))) (.add A B) from h1)
    have g3 : Conv fr (sbs (conType l R) (consS a τ)) (inst B a) := by
      rw [← inst_ups]
      exact Conv_inst ok g2 (Conv_refl a)
    obtain ⟨k1, k2⟩ := Args_tele ok l R args (consS a τ) S (Args_conv ok _ _ _ _ g3 h3) (by simpa using hn)
    refine ⟨?_, k2⟩
    intro i A' b hA hb
    cases i with
    | zero =>
      have e1 : D = A' := by simpa using hA
      have e2 : a = b := by simpa using hb
      subst e1 e2
      exact Typ_conv ok _ _ _ _ h2 (Conv_symm g1)
    | succ i => exact k1 i A' b (by simpa using hA) (by simpa using hb)
theorem env_at : ∀ (l : List Tm) (τ : Nat → Tm) (k : Nat), env l τ (k + l.length) = τ k
  | [], τ, k => rfl
  | a :: l, τ, k => by
    have e : k + (a :: l).length = (k + 1) + l.length := by rw [List.length_cons]; omega
    rw [e]
    exact env_at l (consS a τ) (k + 1)
theorem env_append : ∀ (l m : List Tm) (τ : Nat → Tm), env (l ++ m) τ = env m (env l τ)
  | [], m, τ => rfl
  | a :: l, m, τ => env_append l m (consS a τ)
theorem env_last (l : List Tm) (a : Tm) (τ : Nat → Tm) : env (l ++ [a]) τ = consS a (env l τ) := env_append l [a] τ
/-- at the root: a function before all its variables -/
theorem Inv_root (ok : FOK fr) {f : Tm} {l : List Tm} {R : Tm} (hc : isC f = true) (hf : ty f = some (conType l R)) (hcl : ∀ σ, sbs (conType l R) σ = conType l R) :
    ∀ (Δ : List Tm) (args : List Tm) (τ : Nat → Tm) (S : Tm), args.length = l.length → Typ fr ty (spine f args) Δ S →
    (∀ (i : Nat) (A a : Tm), l[i]? = some A → args[i]? = some a → Typ fr ty a Δ (sbs A (env (args.take i) τ))) ∧ Conv fr (sbs R (env args τ)) S := by
  intro Δ args τ S hn h
  obtain ⟨S', h1, h2⟩ := Typ_spine ok args f S h
  have h3 := (Typ_c hc).mp h1 _ hf
  rw [← hcl τ] at h3
  exact Args_tele ok l R args τ S (Args_conv ok _ _ _ _ h3 h2) hn
end INV
