/-! the machine as a function of trees -/
theorem sbs_cl {σ : Nat → Tm} (h : ∀ k, freeT (σ k) = 0) : ∀ (t : Tm) (d : Nat), freeT (sbs t (ptn σ d)) ≤ d := by
  intro t
  refine tm_ind (P := fun t => ∀ d, freeT (sbs t (ptn σ d)) ≤ d) ?_ ?_ ?_ ?_ ?_ t
  · intro k d
    show freeT (ptn σ d k) ≤ d
    unfold ptn
    by_cases q : k < d
    · rw [if_pos q]; exact q
    · rw [if_neg q, h]; exact Nat.zero_le _
  · intro t hc d
    rw [sbs_c hc, freeT_c hc]; exact Nat.zero_le _
  · intro a b ha hb d
    have h1 := ha d
    have h2 := hb (d + 1)
    show max (freeT (sbs a (ptn σ d))) (freeT (sbs b (ups (ptn σ d))) - 1) ≤ d
    rw [ups_ptn h]; omega
  · intro a b ha hb d
    have h1 := ha d
    have h2 := hb (d + 1)
    show max (freeT (sbs a (ptn σ d))) (freeT (sbs b (ups (ptn σ d))) - 1) ≤ d
    rw [ups_ptn h]; omega
  · intro a b ha hb d
    have h1 := ha d
    have h2 := hb d
    show max (freeT (sbs a (ptn σ d))) (freeT (sbs b (ptn σ d))) ≤ d
    omega
theorem fires_free {A : SG} {B : FG} {G : GG} {t r : Tm} (ht : CourtT A B G) (h : frOf (Cls G) t = some r) (hf : freeT t = 0) : freeT r = 0 := by
  obtain ⟨P, R, ⟨g, g1, g2, rfl, rfl⟩, σ, e1, e2⟩ := (frOf_iff (court_COK ht)).mp h
  have hgo := ht.2.2.2.1 g g1
  have hsc := fill_scope (hgo.2.2.2.2.2.2.2.1 g2)
  obtain ⟨b1, b2, b3, b4, b5⟩ := hgo.2.2.2.2.2.1
  rw [sbs_qL] at e1
  rw [← e1] at hf
  have hcl := (freeT_spine _ _ hf).2
  have hv : ∀ k, k < (qC G g).length → freeT (σ k) = 0 := by
    intro k hk
    rcases (occ_spine _ _ k).mp ((b4 k).mpr hk) with q | ⟨p, hp, q⟩
    · exact absurd q (occ_c rfl k)
    · exact sub_free p true σ (b2 p hp) (hcl _ (List.mem_map.mpr ⟨p, hp, rfl⟩)) k q
  have e3 : sbs (qR G g) σ = sbs (qR G g) (fun k => if k < (qC G g).length then σ k else dat 0) := sbs_agree _ _ _ (fun k hk => (if_pos (by omega)).symm)
  have h0 := sbs_cl (σ := fun k => if k < (qC G g).length then σ k else dat 0) (fun k => by
    show freeT (if k < (qC G g).length then σ k else dat 0) = 0
    by_cases q : k < (qC G g).length
    · rw [if_pos q]; exact hv k q
    · rw [if_neg q]; rfl) (qR G g) 0
  rw [ptn_zero] at h0
  rw [← e2, e3]; omega
theorem fires_Typ {A : SG} {B : FG} {G : GG} {t r T : Tm} {Γ : List Tm} (ht : CourtT A B G) (h : frOf (Cls G) t = some r) (hty : Typ (frOf (Cls G)) (tyOf (tbX A B)) t Γ T) : Typ (frOf (Cls G)) (tyOf (tbX A B)) r Γ T := by
  obtain ⟨P, R, ⟨g, g1, g2, rfl, rfl⟩, σ, e1, e2⟩ := (frOf_iff (court_COK ht)).mp h
  have hgo := ht.2.2.2.1 g g1
  have ok := court_FOK ht
  have hi := hgo.2.2.2.2.2.2.1 _ _ ok (tbX_ok ht.2.1) (tbX_ex A B)
  have hr := fit_Typ ok (tbX_ok ht.2.1) (tbX_ex A B) (hgo.2.2.2.2.2.2.2.1 g2).1
  rw [← e1] at hty
  rw [← e2]
  exact Inv_keeps ok (TBok_TOK (tbX_ok ht.2.1)) hi hr hty
theorem fires_Conv {fr : Tm → Option Tm} (ok : FOK fr) {a b r : Tm} (h : fr (.mul a b) = some r) : Conv fr (.mul a b) r :=
  Red_conv (Red_one ⟨a, b, Par_refl a, Par_refl b, Or.inr (Or.inr ⟨ok.1 a b r h, ⟨r, h⟩, h⟩)⟩)
theorem beta_Conv {fr : Tm → Option Tm} (X c a : Tm) : Conv fr (.mul (.sub X c) a) (inst c a) :=
  Red_conv (Red_one ⟨.sub X c, a, Par_refl _, Par_refl a, Or.inr (Or.inl ⟨rfl, X, c, rfl, rfl⟩)⟩)
theorem appT_keep {A : SG} {B : FG} {G : GG} {v a w : Tm} {tk tk' : Nat} {st : Bool} (ht : CourtT A B G) (h : appT A B G v a tk = some (w, st, tk')) (hv : freeT v = 0) (ha : freeT a = 0) :
    freeT w = 0 ∧ Conv (frOf (Cls G)) (.mul v a) w ∧ (∀ T, Typ (frOf (Cls G)) (tyOf (tbX A B)) (.mul v a) [] T → Typ (frOf (Cls G)) (tyOf (tbX A B)) w [] T) ∧ (st = true → sizeT w ≤ 200 ∧ tk' = tk + 1 ∧ tk' ≤ 40) ∧ (st = false → w = .mul v a ∧ tk' = tk) := by
  have ok := court_FOK ht
  have hva : freeT (.mul v a : Tm) = 0 := by
    have e : freeT (.mul v a : Tm) = max (freeT v) (freeT a) := rfl
    rw [e]; omega
  have whole : w = .mul v a → st = false → tk' = tk → freeT w = 0 ∧ Conv (frOf (Cls G)) (.mul v a) w ∧ (∀ T, Typ (frOf (Cls G)) (tyOf (tbX A B)) (.mul v a) [] T → Typ (frOf (Cls G)) (tyOf (tbX A B)) w [] T) ∧ (st = true → sizeT w ≤ 200 ∧ tk' = tk + 1 ∧ tk' ≤ 40) ∧ (st = false → w = .mul v a ∧ tk' = tk) := by
    intro e1 e2 e3
    rw [e1, e2, e3]
    exact ⟨hva, Conv_refl _, fun T q => q, fun q => (by cases q), fun _ => ⟨rfl, rfl⟩⟩
  unfold appT at h
  split at h
  · rename_i hL
    obtain ⟨X, c, rfl⟩ := isL_ex hL
    split at h
    · cases h
    · rename_i q
      split at h
      · rename_i hs
        simp only [Option.some.injEq, Prod.mk.injEq] at h
        obtain ⟨h1, h2, h3⟩ := h
        have h1' : inst c a = w := h1
        have hs' : sizeT (inst c a) ≤ 200 := hs
        rw [← h1', ← h2, ← h3]
        refine ⟨?_, beta_Conv X c a, fun T q => Typ_beta ok (TBok_TOK (tbX_ok ht.2.1)) q, fun _ => ⟨hs', rfl, by omega⟩, fun q => (by cases q)⟩
        have f1 := freeT_inst c a
        have f2 : freeT (.sub X c : Tm) = max (freeT X) (freeT c - 1) := rfl
        rw [f2] at hv
        omega
      · cases h
  · split at h
    · cases h
    · split at h
      · split at h
        · simp only [Option.some.injEq, Prod.mk.injEq] at h
          exact whole h.1.symm h.2.1.symm h.2.2.symm
        · cases h
      · split at h
        · split at h
          · split at h
            · simp only [Option.some.injEq, Prod.mk.injEq] at h
              exact whole h.1.symm h.2.1.symm h.2.2.symm
            · split at h
              · split at h
                · cases h
                · rename_i q
                  cases hq : frOf (Cls G) (.mul v a) with
                  | none => rw [hq] at h; cases h
                  | some r =>
                    rw [hq, Option.bind_some] at h
                    split at h
                    · rename_i hs
                      simp only [Option.some.injEq, Prod.mk.injEq] at h
                      obtain ⟨h1, h2, h3⟩ := h
                      rw [← h1, ← h2, ← h3]
                      exact ⟨fires_free ht hq hva, fires_Conv ok hq, fun T q => fires_Typ ht hq q, fun _ => ⟨hs, rfl, by omega⟩, fun q => (by cases q)⟩
                    · cases h
              · cases h
          · cases h
        · cases h
def apT : Tm → Nat
  | .mul a b => apT a + apT b + 1
  | _ => 0
theorem size_pos (t : Tm) : 1 ≤ sizeT t := by cases t <;> first | exact Nat.le_refl _ | (unfold sizeT; omega)
theorem apT_size : ∀ t : Tm, 2 * apT t + 1 ≤ sizeT t := by
  intro t
  refine tm_ind (P := fun t => 2 * apT t + 1 ≤ sizeT t) (fun k => Nat.le_refl _) (fun t h => by cases t <;> first | exact Nat.le_refl _ | (cases h; done)) ?_ ?_ ?_ t
  · intro a b _ _; exact size_pos _
  · intro a b _ _; exact size_pos _
  · intro a b ha hb
    show 2 * (apT a + apT b + 1) + 1 ≤ 1 + sizeT a + sizeT b
    omega
def isM : Tm → Option (Tm × Tm)
  | .mul a b => some (a, b)
  | _ => none
theorem isM_some {t a b : Tm} (h : isM t = some (a, b)) : t = .mul a b := by
  cases t <;> first | (cases h; done) | skip
  rename_i x y
  have e : (x, y) = (a, b) := by injection h
  obtain ⟨rfl, rfl⟩ : x = a ∧ y = b := by simpa using e
  rfl
theorem isM_none {K : Rows} {n i : Nat} {t : Tm} (h : isM t = none) (hr : Rep K n t i) : kdT t ≠ 7 := by
  intro hk
  rcases (Rep_view hr).2 with w | ⟨-, -, a, b, j, l, e, -⟩
  · omega
  · rw [hk] at e
    rw [e] at h
    cases h
/-- the machine on trees: the value or none, and the steps taken -/
noncomputable def runT (A : SG) (B : FG) (G : GG) : Nat → Tm → Bool → List (Bool × Tm) → Nat → Option Tm × Nat
  | 0, _, _, _, tk => (none, tk)
  | f + 1, now, isV, stk, tk => match (if isV = true then none else isM now) with
    | some (a, b) => if 4200 ≤ stk.length + 1 then (none, tk) else runT A B G f a false ((false, b) :: stk) tk
    | none => match stk with
      | [] => (some now, tk)
      | (false, b) :: s => runT A B G f b false ((true, now) :: s) tk
      | (true, v) :: s => match appT A B G v now tk with
        | none => (none, appK A B v now tk)
        | some (w, st, tk') => runT A B G f w (!st) s tk'
def StkC (K : Rows) (n : Nat) (wa wb : Nat → Int32) : List (Bool × Tm) → Prop
  | [] => True
  | (b, t) :: s => wb s.length = (if b = true then 1 else 0) ∧ (∃ j, wa s.length = nz j ∧ Rep K n t j) ∧ StkC K n wa wb s
theorem StkC_ext {K K' : Rows} {n n' : Nat} {wa wb : Nat → Int32} (hx : Ext K K' n) (hn : n ≤ n') : ∀ s, StkC K n wa wb s → StkC K' n' wa wb s
  | [], _ => trivial
  | (b, t) :: s, ⟨h1, ⟨j, h2, h3⟩, h4⟩ => ⟨h1, ⟨j, h2, Rep_ext hx hn _ j h3⟩, StkC_ext hx hn s h4⟩
theorem StkC_agree {K : Rows} {n : Nat} {wa wb wa' wb' : Nat → Int32} : ∀ s : List (Bool × Tm), (∀ x, x < s.length → wa' x = wa x ∧ wb' x = wb x) → StkC K n wa wb s → StkC K n wa' wb' s
  | [], _, _ => trivial
  | (b, t) :: s, hx, ⟨h1, ⟨j, h2, h3⟩, h4⟩ => by
    have e := hx s.length (by rw [List.length_cons]; omega)
    exact ⟨e.2.trans h1, ⟨j, e.1.trans h2, h3⟩, StkC_agree s (fun x hq => hx x (by rw [List.length_cons]; omega)) h4⟩
def stkFree (s : List (Bool × Tm)) : Prop := ∀ p ∈ s, freeT p.2 = 0
def pot : List (Bool × Tm) → Nat
  | [] => 0
  | (false, a) :: s => 1 + apT a + pot s
  | (true, _) :: s => 1 + pot s
def mu : List (Bool × Tm) → Nat
  | [] => 0
  | (false, a) :: s => 3 * sizeT a + 2 + mu s
  | (true, _) :: s => 1 + mu s
theorem l46_eq : ∀ (n : Nat) (T : TS) (S : SS) (D : DS) (M : MS) (P : PS) (a b c : Int32), f_X5_valueOf0_L46 n T S D M P a b c = f_X5_valueOf1_L46 n T S D M P a b c := by
  intro n
  induction n with
  | zero => intros; rfl
  | succ n ih =>
    intro T S D M P a b c
    conv => lhs; unfold f_X5_valueOf0_L46
    conv => rhs; unfold f_X5_valueOf1_L46
    simp only [ih]
