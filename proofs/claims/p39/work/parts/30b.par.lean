/-! parallel reduction of beta and of what 'fr' fires at an application, and that it runs together -/
def isL : Tm → Bool
  | .sub _ _ => true
  | _ => false
def Par (fr : Tm → Option Tm) : Tm → Tm → Prop
  | .add a b, s => ∃ a' b', s = .add a' b' ∧ Par fr a a' ∧ Par fr b b'
  | .sub a b, s => ∃ a' b', s = .sub a' b' ∧ Par fr a a' ∧ Par fr b b'
  | .mul a b, s => ∃ a' b', Par fr a a' ∧ Par fr b b' ∧ (s = .mul a' b' ∨ (isL a = true ∧ ∃ A c, a' = .sub A c ∧ s = inst c b') ∨ (isL a = false ∧ (∃ r, fr (.mul a b) = some r) ∧ fr (.mul a' b') = some s))
  | t, s => s = t
/-- what is asked of fr -/
def FOK (fr : Tm → Option Tm) : Prop :=
  (∀ a b r, fr (.mul a b) = some r → isL a = false) ∧
  (∀ a b r (σ : Nat → Tm), fr (.mul a b) = some r → fr (.mul (sbs a σ) (sbs b σ)) = some (sbs r σ)) ∧
  (∀ a b a' b' r, fr (.mul a b) = some r → Par fr a a' → Par fr b b' → ∃ r', fr (.mul a' b') = some r' ∧ Par fr r r')
def FOK2 (fr : Tm → Option Tm) : Prop :=
  (∀ a b r, fr (.mul a b) = some r → isL a = false) ∧
  (∀ a b r (σ : Nat → Tm), fr (.mul a b) = some r → fr (.mul (sbs a σ) (sbs b σ)) = some (sbs r σ))
theorem ren_sbs_eq : ∀ (t : Tm) (ρ : Nat → Nat), ren t ρ = sbs t (fun k => .index (ρ k)) := by
  intro t ρ
  have h := sbs_ren t ρ (fun k => .index k)
  rw [sbs_id] at h
  exact h
section PAR
variable {fr : Tm → Option Tm}
theorem Par_c {t s : Tm} (h : isC t = true) : Par fr t s ↔ s = t := by
  cases t <;> first | exact Iff.rfl | (cases h; done)
theorem Par_refl : ∀ t : Tm, Par fr t t := by
  intro t
  refine tm_ind (P := fun t => Par fr t t) (fun k => rfl) (fun t h => (Par_c h).mpr rfl) ?_ ?_ ?_ t
  · intro a b ha hb; exact ⟨a, b, rfl, ha, hb⟩
  · intro a b ha hb; exact ⟨a, b, rfl, ha, hb⟩
  · intro a b ha hb; exact ⟨a, b, ha, hb, Or.inl rfl⟩
theorem isL_ren {t : Tm} (ρ : Nat → Nat) : isL (ren t ρ) = isL t := by
  refine tm_ind (P := fun t => isL (ren t ρ) = isL t) (fun k => rfl) (fun t h => by rw [ren_c h]) (fun a b _ _ => rfl) (fun a b _ _ => rfl) (fun a b _ _ => rfl) t
theorem isL_sbs {t : Tm} (σ : Nat → Tm) (h : isL t = true) : isL (sbs t σ) = true := by
  cases t <;> first | rfl | (cases h; done)
theorem isL_ex {t : Tm} (h : isL t = true) : ∃ A c, t = .sub A c := by
  cases t <;> first | exact ⟨_, _, rfl⟩ | (cases h; done)
theorem Par_ren2 (ok : FOK2 fr) : ∀ (t s : Tm) (ρ : Nat → Nat), Par fr t s → Par fr (ren t ρ) (ren s ρ) := by
  intro t
  refine tm_ind (P := fun t => ∀ (s : Tm) (ρ : Nat → Nat), Par fr t s → Par fr (ren t ρ) (ren s ρ)) ?_ ?_ ?_ ?_ ?_ t
  · intro k s ρ h; obtain rfl : s = .index k := h; exact Par_refl _
  · intro t hc s ρ h; obtain rfl := (Par_c hc).mp h; exact Par_refl _
  · rintro a b ha hb s ρ ⟨a', b', rfl, h1, h2⟩; exact ⟨_, _, rfl, ha _ _ h1, hb _ _ h2⟩
  · rintro a b ha hb s ρ ⟨a', b', rfl, h1, h2⟩; exact ⟨_, _, rfl, ha _ _ h1, hb _ _ h2⟩
  · rintro a b ha hb s ρ ⟨a', b', h1, h2, h⟩
    refine ⟨_, _, ha _ ρ h1, hb _ ρ h2, ?_⟩
    rcases h with rfl | ⟨hl, A, c, rfl, rfl⟩ | ⟨hl, ⟨r, hr⟩, hf⟩
    · exact Or.inl rfl
    · exact Or.inr (Or.inl ⟨by rw [isL_ren]; exact hl, _, _, rfl, inst_ren c b' ρ⟩)
    · refine Or.inr (Or.inr ⟨by rw [isL_ren]; exact hl, ⟨sbs r (fun k => .index (ρ k)), ?_⟩, ?_⟩)
      · rw [ren_sbs_eq a, ren_sbs_eq b]; exact ok.2 _ _ _ _ hr
      · rw [ren_sbs_eq a', ren_sbs_eq b', ren_sbs_eq s]; exact ok.2 _ _ _ _ hf
theorem Par_ups2 (ok : FOK2 fr) {σ σ' : Nat → Tm} (h : ∀ k, Par fr (σ k) (σ' k)) : ∀ k, Par fr (ups σ k) (ups σ' k)
  | 0 => Par_refl _
  | k + 1 => Par_ren2 ok _ _ _ (h k)
theorem Par_sbs2 (ok : FOK2 fr) : ∀ (t s : Tm) (σ σ' : Nat → Tm), Par fr t s → (∀ k, Par fr (σ k) (σ' k)) → Par fr (sbs t σ) (sbs s σ') := by
  intro t
  refine tm_ind (P := fun t => ∀ (s : Tm) (σ σ' : Nat → Tm), Par fr t s → (∀ k, Par fr (σ k) (σ' k)) → Par fr (sbs t σ) (sbs s σ')) ?_ ?_ ?_ ?_ ?_ t
  · intro k s σ σ' h hs; obtain rfl : s = .index k := h; exact hs k
  · intro t hc s σ σ' h hs; obtain rfl := (Par_c hc).mp h; rw [sbs_c hc, sbs_c hc]; exact Par_refl _
  · rintro a b ha hb s σ σ' ⟨a', b', rfl, h1, h2⟩ hs; exact ⟨_, _, rfl, ha _ _ _ h1 hs, hb _ _ _ h2 (Par_ups2 ok hs)⟩
  · rintro a b ha hb s σ σ' ⟨a', b', rfl, h1, h2⟩ hs; exact ⟨_, _, rfl, ha _ _ _ h1 hs, hb _ _ _ h2 (Par_ups2 ok hs)⟩
  · rintro a b ha hb s σ σ' ⟨a', b', h1, h2, h⟩ hs
    have g1 := ha _ _ _ h1 hs
    have g2 := hb _ _ _ h2 hs
    refine ⟨_, _, g1, g2, ?_⟩
    rcases h with rfl | ⟨hl, A, c, rfl, rfl⟩ | ⟨hl, ⟨r, hr⟩, hf⟩
    · exact Or.inl rfl
    · exact Or.inr (Or.inl ⟨isL_sbs _ hl, _, _, rfl, inst_sbs c b' σ'⟩)
    · have e1 := ok.2 _ _ _ σ hr
      exact Or.inr (Or.inr ⟨ok.1 _ _ _ e1, ⟨_, e1⟩, ok.2 _ _ _ σ' hf⟩)
theorem FOK.two (ok : FOK fr) : FOK2 fr := ⟨ok.1, ok.2.1⟩
theorem Par_ren (ok : FOK fr) (t s : Tm) (ρ : Nat → Nat) (h : Par fr t s) : Par fr (ren t ρ) (ren s ρ) := Par_ren2 ok.two t s ρ h
theorem Par_sbs (ok : FOK fr) (t s : Tm) (σ σ' : Nat → Tm) (h : Par fr t s) (h2 : ∀ k, Par fr (σ k) (σ' k)) : Par fr (sbs t σ) (sbs s σ') := Par_sbs2 ok.two t s σ σ' h h2
theorem Par_inst (ok : FOK fr) {t s v w : Tm} (h : Par fr t s) (h2 : Par fr v w) : Par fr (inst t v) (inst s w) := Par_sbs ok _ _ _ _ h (fun k => by
  cases k with
  | zero => exact h2
  | succ k => exact Par_refl _)
end PAR
/-- all that can be done at once -/
def dev (fr : Tm → Option Tm) : Tm → Tm
  | .add a b => .add (dev fr a) (dev fr b)
  | .sub a b => .sub (dev fr a) (dev fr b)
  | .mul a b => if isL a = true then (match dev fr a with
      | .sub _ c => inst c (dev fr b)
      | t => .mul t (dev fr b)) else (match fr (.mul a b) with
      | none => .mul (dev fr a) (dev fr b)
      | some _ => (fr (.mul (dev fr a) (dev fr b))).getD (.index 0))
  | t => t
section DEV
variable {fr : Tm → Option Tm}
theorem dev_c {t : Tm} (h : isC t = true) : dev fr t = t := by
  cases t <;> first | rfl | (cases h; done)
theorem Par_dev (ok : FOK fr) : ∀ (t s : Tm), Par fr t s → Par fr s (dev fr t) := by
  intro t
  refine tm_ind (P := fun t => ∀ s : Tm, Par fr t s → Par fr s (dev fr t)) ?_ ?_ ?_ ?_ ?_ t
  · intro k s h; obtain rfl : s = .index k := h; exact Par_refl _
  · intro t hc s h; obtain rfl := (Par_c hc).mp h; rw [dev_c hc]; exact Par_refl _
  · rintro a b ha hb s ⟨a', b', rfl, h1, h2⟩; exact ⟨_, _, rfl, ha _ h1, hb _ h2⟩
  · rintro a b ha hb s ⟨a', b', rfl, h1, h2⟩; exact ⟨_, _, rfl, ha _ h1, hb _ h2⟩
  · rintro a b ha hb s ⟨a', b', h1, h2, h⟩
    have g1 := ha _ h1
    have g2 := hb _ h2
    by_cases hl : isL a = true
    · obtain ⟨A, c, rfl⟩ := isL_ex hl
      have e : dev fr (.mul (.sub A c) b) = inst (dev fr c) (dev fr b) := rfl
      rw [e]
      have g3 : Par fr a' (.sub (dev fr A) (dev fr c)) := g1
      obtain ⟨A', c', rfl, -, -⟩ := h1
      rcases h with rfl | ⟨-, A2, c2, e2, rfl⟩ | ⟨hl2, -⟩
      · exact ⟨_, _, g3, g2, Or.inr (Or.inl ⟨rfl, _, _, rfl, rfl⟩)⟩
      · cases e2
        obtain ⟨A3, c3, e3, -, g4⟩ := g3
        cases e3
        exact Par_inst ok g4 g2
      · rw [hl] at hl2; cases hl2
    · have hl9 : isL a = false := by cases h9 : isL a <;> simp_all
      cases hf : fr (.mul a b) with
      | none =>
        have e : dev fr (.mul a b) = .mul (dev fr a) (dev fr b) := by rw [dev, if_neg hl, hf]
        rw [e]
        rcases h with rfl | ⟨hl2, -⟩ | ⟨-, ⟨r, hr⟩, -⟩
        · exact ⟨_, _, g1, g2, Or.inl rfl⟩
        · exact absurd hl2 hl
        · rw [hf] at hr; cases hr
      | some r =>
        obtain ⟨r2, hr2, -⟩ := ok.2.2 _ _ _ _ _ hf (ha _ (Par_refl a)) (hb _ (Par_refl b))
        have e : dev fr (.mul a b) = r2 := by rw [dev, if_neg hl, hf, hr2]; rfl
        rw [e]
        rcases h with rfl | ⟨hl2, -⟩ | ⟨-, -, hs⟩
        · obtain ⟨r3, hr3, -⟩ := ok.2.2 _ _ _ _ _ hf h1 h2
          exact ⟨_, _, g1, g2, Or.inr (Or.inr ⟨ok.1 _ _ _ hr3, ⟨_, hr3⟩, hr2⟩)⟩
        · exact absurd hl2 hl
        · obtain ⟨r3, hr3, hp⟩ := ok.2.2 _ _ _ _ _ hs g1 g2
          rw [hr2] at hr3
          cases hr3
          exact hp
theorem Par_diamond (ok : FOK fr) {t s1 s2 : Tm} (h1 : Par fr t s1) (h2 : Par fr t s2) : ∃ u, Par fr s1 u ∧ Par fr s2 u := ⟨_, Par_dev ok _ _ h1, Par_dev ok _ _ h2⟩
end DEV
/-- n times -/
def ParN (fr : Tm → Option Tm) : Nat → Tm → Tm → Prop
  | 0, t, s => s = t
  | n + 1, t, s => ∃ u, Par fr t u ∧ ParN fr n u s
def Red (fr : Tm → Option Tm) (t s : Tm) : Prop := ∃ n, ParN fr n t s
def Conv (fr : Tm → Option Tm) (t s : Tm) : Prop := ∃ u, Red fr t u ∧ Red fr s u
section CONV
variable {fr : Tm → Option Tm}
theorem Red_refl (t : Tm) : Red fr t t := ⟨0, rfl⟩
theorem Red_one {t s : Tm} (h : Par fr t s) : Red fr t s := ⟨1, s, h, rfl⟩
theorem ParN_trans : ∀ (n m : Nat) {t s u : Tm}, ParN fr n t s → ParN fr m s u → ParN fr (n + m) t u
  | 0, m, t, s, u, h1, h2 => by obtain rfl : s = t := h1; rw [Nat.zero_add]; exact h2
  | n + 1, m, t, s, u, ⟨v, h1, h2⟩, h3 => by
    rw [Nat.add_right_comm]
    exact ⟨v, h1, ParN_trans n m h2 h3⟩
theorem Red_trans {t s u : Tm} (h1 : Red fr t s) (h2 : Red fr s u) : Red fr t u := by
  obtain ⟨n, h1⟩ := h1
  obtain ⟨m, h2⟩ := h2
  exact ⟨_, ParN_trans n m h1 h2⟩
theorem strip (ok : FOK fr) : ∀ (n : Nat) {t s1 s2 : Tm}, Par fr t s1 → ParN fr n t s2 → ∃ u, ParN fr n s1 u ∧ Par fr s2 u
  | 0, t, s1, s2, h1, h2 => by obtain rfl : s2 = t := h2; exact ⟨s1, rfl, h1⟩
  | n + 1, t, s1, s2, h1, ⟨v, h2, h3⟩ => by
    obtain ⟨u, g1, g2⟩ := Par_diamond ok h1 h2
    obtain ⟨w, k1, k2⟩ := strip ok n g2 h3
    exact ⟨w, ⟨u, g1, k1⟩, k2⟩
theorem ParN_conf (ok : FOK fr) : ∀ (n m : Nat) {t s1 s2 : Tm}, ParN fr n t s1 → ParN fr m t s2 → ∃ u, ParN fr m s1 u ∧ ParN fr n s2 u
  | 0, m, t, s1, s2, h1, h2 => by obtain rfl : s1 = t := h1; exact ⟨s2, h2, rfl⟩
  | n + 1, m, t, s1, s2, ⟨v, h1, h3⟩, h2 => by
    obtain ⟨u, g1, g2⟩ := strip ok m h1 h2
    obtain ⟨w, k1, k2⟩ := ParN_conf ok n m h3 g1
    exact ⟨w, k1, u, g2, k2⟩
theorem Red_conf (ok : FOK fr) {t s1 s2 : Tm} (h1 : Red fr t s1) (h2 : Red fr t s2) : ∃ u, Red fr s1 u ∧ Red fr s2 u := by
  obtain ⟨n, h1⟩ := h1
  obtain ⟨m, h2⟩ := h2
  obtain ⟨u, g1, g2⟩ := ParN_conf ok n m h1 h2
  exact ⟨u, ⟨_, g1⟩, ⟨_, g2⟩⟩
theorem Conv_refl (t : Tm) : Conv fr t t := ⟨t, Red_refl t, Red_refl t⟩
theorem Conv_symm {t s : Tm} (h : Conv fr t s) : Conv fr s t := by
  obtain ⟨u, h1, h2⟩ := h
  exact ⟨u, h2, h1⟩
theorem Conv_trans (ok : FOK fr) {t s u : Tm} (h1 : Conv fr t s) (h2 : Conv fr s u) : Conv fr t u := by
  obtain ⟨v, a1, a2⟩ := h1
  obtain ⟨w, b1, b2⟩ := h2
  obtain ⟨x, c1, c2⟩ := Red_conf ok a2 b1
  exact ⟨x, Red_trans a1 c1, Red_trans b2 c2⟩
theorem Red_conv {t s : Tm} (h : Red fr t s) : Conv fr t s := ⟨s, h, Red_refl s⟩
theorem ParN_lift (f : Tm → Tm) (hf : ∀ t s, Par fr t s → Par fr (f t) (f s)) : ∀ (n : Nat) {t s : Tm}, ParN fr n t s → ParN fr n (f t) (f s)
  | 0, t, s, h => by obtain rfl : s = t := h; exact rfl
  | n + 1, t, s, ⟨u, h1, h2⟩ => ⟨f u, hf _ _ h1, ParN_lift f hf n h2⟩
theorem Red_lift (f : Tm → Tm) (hf : ∀ t s, Par fr t s → Par fr (f t) (f s)) {t s : Tm} (h : Red fr t s) : Red fr (f t) (f s) := by
  obtain ⟨n, h⟩ := h
  exact ⟨n, ParN_lift f hf n h⟩
theorem Conv_lift (f : Tm → Tm) (hf : ∀ t s, Par fr t s → Par fr (f t) (f s)) {t s : Tm} (h : Conv fr t s) : Conv fr (f t) (f s) := by
  obtain ⟨u, h1, h2⟩ := h
  exact ⟨f u, Red_lift f hf h1, Red_lift f hf h2⟩
theorem Conv_sbs (ok : FOK fr) {t s : Tm} (σ : Nat → Tm) (h : Conv fr t s) : Conv fr (sbs t σ) (sbs s σ) := Conv_lift (fun x => sbs x σ) (fun t s h => Par_sbs ok _ _ _ _ h (fun k => Par_refl _)) h
theorem Conv_ren (ok : FOK fr) {t s : Tm} (ρ : Nat → Nat) (h : Conv fr t s) : Conv fr (ren t ρ) (ren s ρ) := Conv_lift (fun x => ren x ρ) (fun t s h => Par_ren ok _ _ _ h) h
theorem Conv_inst (ok : FOK fr) {t s v w : Tm} (h1 : Conv fr t s) (h2 : Conv fr v w) : Conv fr (inst t v) (inst s w) :=
  Conv_trans ok (Conv_lift (fun x => inst x v) (fun t s h => Par_inst ok h (Par_refl v)) h1) (Conv_lift (fun x => inst s x) (fun t u h => Par_inst ok (Par_refl s) h) h2)
theorem Conv_pi (ok : FOK fr) {a b a' b' : Tm} (h1 : Conv fr a a') (h2 : Conv fr b b') : Conv fr (.add a b) (.add a' b') :=
  Conv_trans ok (Conv_lift (fun x => .add x b) (fun t s h => ⟨_, _, rfl, h, Par_refl b⟩) h1) (Conv_lift (fun x => .add a' x) (fun t s h => ⟨_, _, rfl, Par_refl a', h⟩) h2)
theorem Conv_app (ok : FOK fr) {a b a' b' : Tm} (h1 : Conv fr a a') (h2 : Conv fr b b') : Conv fr (.mul a b) (.mul a' b') :=
  Conv_trans ok (Conv_lift (fun x => .mul x b) (fun t s h => ⟨_, _, h, Par_refl b, Or.inl rfl⟩) h1) (Conv_lift (fun x => .mul a' x) (fun t s h => ⟨_, _, Par_refl a', h, Or.inl rfl⟩) h2)
theorem ParN_pi : ∀ (n : Nat) {a b s : Tm}, ParN fr n (.add a b) s → ∃ a' b', s = .add a' b' ∧ ParN fr n a a' ∧ ParN fr n b b'
  | 0, a, b, s, h => ⟨a, b, h, rfl, rfl⟩
  | n + 1, a, b, s, ⟨u, ⟨a1, b1, e, h1, h2⟩, h3⟩ => by
    subst e
    obtain ⟨a2, b2, e, g1, g2⟩ := ParN_pi n h3
    exact ⟨a2, b2, e, ⟨a1, h1, g1⟩, ⟨b1, h2, g2⟩⟩
theorem ParN_c : ∀ (n : Nat) {t s : Tm}, isC t = true → ParN fr n t s → s = t
  | 0, t, s, _, h => h
  | n + 1, t, s, hc, ⟨u, h1, h2⟩ => by
    obtain rfl := (Par_c hc).mp h1
    exact ParN_c n hc h2
theorem Conv_pi_inj {a b a' b' : Tm} (h : Conv fr (.add a b) (.add a' b')) : Conv fr a a' ∧ Conv fr b b' := by
  obtain ⟨u, ⟨n, h1⟩, ⟨m, h2⟩⟩ := h
  obtain ⟨a1, b1, rfl, g1, g2⟩ := ParN_pi n h1
  obtain ⟨a2, b2, e, k1, k2⟩ := ParN_pi m h2
  cases e
  exact ⟨⟨_, ⟨n, g1⟩, ⟨m, k1⟩⟩, ⟨_, ⟨n, g2⟩, ⟨m, k2⟩⟩⟩
theorem Conv_pi_c {a b t : Tm} (hc : isC t = true) (h : Conv fr (.add a b) t) : False := by
  obtain ⟨u, ⟨n, h1⟩, ⟨m, h2⟩⟩ := h
  obtain ⟨a1, b1, rfl, g1, g2⟩ := ParN_pi n h1
  obtain rfl := ParN_c m hc h2
  cases hc
theorem Conv_c_c {t s : Tm} (ht : isC t = true) (hs : isC s = true) (h : Conv fr t s) : t = s := by
  obtain ⟨u, ⟨n, h1⟩, ⟨m, h2⟩⟩ := h
  obtain rfl := ParN_c n ht h1
  exact ParN_c m hs h2
end CONV
