/-! data constants below v stay so -/
theorem DtB_ren {v : Nat} : ∀ (t : Tm) (ρ : Nat → Nat), DtB v t → DtB v (ren t ρ) := by
  intro t
  refine tm_ind (P := fun t => ∀ ρ, DtB v t → DtB v (ren t ρ)) ?_ ?_ ?_ ?_ ?_ t
  · intro k ρ _; trivial
  · intro t hc ρ h; rw [ren_c hc]; exact h
  · intro a b ha hb ρ h; exact ⟨ha _ h.1, hb _ h.2⟩
  · intro a b ha hb ρ h; exact ⟨ha _ h.1, hb _ h.2⟩
  · intro a b ha hb ρ h; exact ⟨ha _ h.1, hb _ h.2⟩
theorem DtB_ups {v : Nat} {σ : Nat → Tm} (h : ∀ k, DtB v (σ k)) : ∀ k, DtB v (ups σ k)
  | 0 => trivial
  | k + 1 => DtB_ren _ _ (h k)
theorem DtB_sbs {v : Nat} : ∀ (t : Tm) (σ : Nat → Tm), DtB v t → (∀ k, DtB v (σ k)) → DtB v (sbs t σ) := by
  intro t
  refine tm_ind (P := fun t => ∀ σ, DtB v t → (∀ k, DtB v (σ k)) → DtB v (sbs t σ)) ?_ ?_ ?_ ?_ ?_ t
  · intro k σ _ h; exact h k
  · intro t hc σ h _; rw [sbs_c hc]; exact h
  · intro a b ha hb σ h hs; exact ⟨ha _ h.1 hs, hb _ h.2 (DtB_ups hs)⟩
  · intro a b ha hb σ h hs; exact ⟨ha _ h.1 hs, hb _ h.2 (DtB_ups hs)⟩
  · intro a b ha hb σ h hs; exact ⟨ha _ h.1 hs, hb _ h.2 hs⟩
theorem DtB_inst {v : Nat} {c x : Tm} (h1 : DtB v c) (h2 : DtB v x) : DtB v (inst c x) := by
  refine DtB_sbs c _ h1 (fun k => ?_)
  cases k with
  | zero => exact h2
  | succ k => trivial
theorem DtB_step {v : Nat} : ∀ t : Tm, DtB v t → DtB v (stepT t) := by
  intro t
  refine tm_ind (P := fun t => DtB v t → DtB v (stepT t)) (fun k _ => trivial) (fun t hc h => by cases t <;> first | exact h | (cases hc; done)) ?_ ?_ ?_ t
  · intro a b ha hb h
    show DtB v (if looseT a = true then .add (stepT a) b else .add a (stepT b))
    split
    · exact ⟨ha h.1, h.2⟩
    · exact ⟨h.1, hb h.2⟩
  · intro a b ha hb h
    show DtB v (if looseT a = true then .sub (stepT a) b else .sub a (stepT b))
    split
    · exact ⟨ha h.1, h.2⟩
    · exact ⟨h.1, hb h.2⟩
  · intro a b ha hb h
    show DtB v (if isL a = true then inst (bodyT a) b else if looseT a = true then .mul (stepT a) b else .mul a (stepT b))
    split
    · rename_i hL
      obtain ⟨X, c, rfl⟩ := isL_ex hL
      exact DtB_inst h.1.2 h.2
    · split
      · exact ⟨ha h.1, h.2⟩
      · exact ⟨h.1, hb h.2⟩
theorem DtB_nfT {v : Nat} : ∀ (k : Nat) (t u : Tm), DtB v t → nfT k t = some u → DtB v u
  | 0, t, u, _, h => by cases h
  | k + 1, t, u, ht, h => by
    unfold nfT at h
    split at h
    · cases h
    · split at h
      · exact DtB_nfT k _ u (DtB_step t ht) h
      · have e : t = u := by injection h
        rw [← e]; exact ht
theorem DtB_nf {v : Nat} {t u : Tm} (ht : DtB v t) (h : nf t = some u) : DtB v u := DtB_nfT 21 t u ht h
theorem cap_some {t u : Tm} (h : capT t = some u) : t = u := by
  unfold capT at h
  split at h
  · injection h
  · cases h
theorem isPi_some {o : Option Tm} {q : Tm × Tm} (h : isPi o = some q) : o = some (.add q.1 q.2) := by
  cases o with
  | none => cases h
  | some t =>
    cases t <;> first | (cases h; done) | skip
    rename_i a b
    have e : (a, b) = q := by injection h
    rw [← e]
theorem DtB_ty {v : Nat} {tb : Nat → Option Tm} (htb : ∀ m T, tb m = some T → DtB v T) : ∀ (t : Tm) (Γ : List Tm) (T : Tm), DtB v t → (∀ A ∈ Γ, DtB v A) → tyT tb t Γ = some T → DtB v T := by
  intro t
  induction t with
  | index k =>
    intro Γ T _ hΓ h
    have h' : (Γ[k]?).map (fun T => ren T (shift (k + 1) 0)) = some T := h
    obtain ⟨A, h1, h2⟩ := Option.map_eq_some_iff.mp h'
    rw [← h2]
    exact DtB_ren _ _ (hΓ A (List.mem_of_getElem? h1))
  | arg m =>
    intro Γ T _ _ h
    have h' : (if m % 8 = 0 then (if 3 ≤ m / 8 then none else some (Jvm.Term.arg (m + 8))) else if m % 8 = 2 then some (.arg 0) else if m % 8 = 1 then none else tb m) = some T := h
    split at h'
    · split at h'
      · cases h'
      · have e : Jvm.Term.arg (m + 8) = T := by injection h'
        rw [← e]
        show (m + 8) % 8 = 2 → (m + 8) / 8 < v
        omega
    · split at h'
      · have e : Jvm.Term.arg 0 = T := by injection h'
        rw [← e]
        show 0 % 8 = 2 → 0 / 8 < v
        omega
      · split at h'
        · cases h'
        · exact htb m T h'
  | add a b iha ihb =>
    intro Γ T _ _ h
    have h' : (isUn ((tyT tb a Γ).bind nf)).bind (fun u => (isUn ((tyT tb b (a :: Γ)).bind nf)).bind (fun w => some (.arg (8 * max u w + 0)))) = some T := h
    obtain ⟨u, h1, h2⟩ := Option.bind_eq_some_iff.mp h'
    obtain ⟨w, h3, h4⟩ := Option.bind_eq_some_iff.mp h2
    have e : Jvm.Term.arg (8 * max u w + 0) = T := by injection h4
    rw [← e]
    show (8 * max u w + 0) % 8 = 2 → _
    omega
  | sub a b iha ihb =>
    intro Γ T ht hΓ h
    have h' : (isUn ((tyT tb a Γ).bind nf)).bind (fun _ => (tyT tb b (a :: Γ)).bind (fun B => capT (.add a B))) = some T := h
    obtain ⟨u, h1, h2⟩ := Option.bind_eq_some_iff.mp h'
    obtain ⟨B, h3, h4⟩ := Option.bind_eq_some_iff.mp h2
    rw [← cap_some h4]
    refine ⟨ht.1, ihb (a :: Γ) B ht.2 ?_ h3⟩
    intro A hA
    rcases List.mem_cons.mp hA with rfl | hA
    · exact ht.1
    · exact hΓ A hA
  | mul a b iha ihb =>
    intro Γ T ht hΓ h
    have h' : (isPi ((tyT tb a Γ).bind nf)).bind (fun q => if (tyT tb b Γ).bind nf = some q.1 then capT (inst q.2 b) else none) = some T := h
    obtain ⟨q, h1, h2⟩ := Option.bind_eq_some_iff.mp h'
    split at h2
    · rw [← cap_some h2]
      obtain ⟨X, h3, h4⟩ := Option.bind_eq_some_iff.mp (isPi_some h1)
      exact DtB_inst (DtB_nf (iha Γ X ht.1 hΓ h3) h4).2 ht.2
    · cases h2
  | _ => intro Γ T _ _ h; cases h
theorem DtB_conType {v : Nat} : ∀ (l : List Tm) (R : Tm), (∀ T ∈ l, DtB v T) → DtB v R → DtB v (conType l R)
  | [], R, _, h => h
  | a :: l, R, hl, h => ⟨hl a (List.mem_cons_self), DtB_conType l R (fun T hT => hl T (List.mem_cons_of_mem _ hT)) h⟩
theorem DtB_dat {v d : Nat} (h : d < v) : DtB v (dat d) := by
  show (8 * d + 2) % 8 = 2 → (8 * d + 2) / 8 < v
  omega
theorem DtB_tbl {v : Nat} {A : SG} {B : FG} (hs : SigOK A) (h6 : sDc A ≤ v) (hf : ∀ f, f < fFc B → DtB v (fTy B f)) : ∀ m T, tbl A B m = some T → DtB v T := by
  intro m T h
  unfold tbl at h
  split at h
  · split at h
    · rename_i h1 h2
      have e : conT A (m / 8) = T := by injection h
      rw [← e]
      obtain ⟨s1, s2, s3⟩ := hs.2.2 _ h2
      refine DtB_conType _ _ ?_ (DtB_dat (by omega))
      intro X hX
      obtain ⟨d, d1, rfl⟩ := List.mem_map.mp hX
      exact DtB_dat (by have := s3 d d1; omega)
    · cases h
  · split at h
    · split at h
      · rename_i h1 h2 h3
        have e : fTy B (m / 8) = T := by injection h
        rw [← e]; exact hf _ h3
      · cases h
    · cases h
/-- the number of a data type that a term of nodes has -/
theorem data_number {v : Nat} {A : SG} {B : FG} {t : Tm} (hs : SigOK A) (h6 : sDc A ≤ v) (hf : ∀ f, f < fFc B → DtB v (fTy B f)) (ht : DtB v t) (hd : isDa ((tyT (tbl A B) t []).bind nf) = true) : ∃ d, d < v ∧ ansN ((tyT (tbl A B) t []).bind nf) = nz (101 + d) := by
  cases hq : (tyT (tbl A B) t []).bind nf with
  | none => rw [hq] at hd; cases hd
  | some u =>
    rw [hq] at hd
    obtain ⟨T, h1, h2⟩ := Option.bind_eq_some_iff.mp hq
    have hu := DtB_nf (DtB_ty (DtB_tbl hs h6 hf) t [] T ht (fun X hX => absurd hX (List.not_mem_nil)) h1) h2
    cases u <;> first | (cases hd; done) | skip
    rename_i m
    have hm : m % 8 = 2 := by
      have e : (m % 8 == 2) = true := hd
      simpa using e
    refine ⟨m / 8, hu hm, ?_⟩
    show sa_0 (m % 8) + nz (m / 8) = _
    rw [hm]
    exact nz_add 101 (m / 8)
