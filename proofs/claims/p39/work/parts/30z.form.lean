/-! the normal form: twenty steps at most, none larger than eighty -/
theorem sub_size (v : Tm) : ∀ (t : Tm) (d : Nat), 2 * (sizeT (sbs t (pt v d)) + 1) ≤ (sizeT t + 1) * (sizeT v + 1) := by
  have hv := sizeT_pos v
  have leaf : ∀ x : Nat, x ≤ sizeT v → 2 * (x + 1) ≤ (1 + 1) * (sizeT v + 1) := fun x hx => by omega
  intro t
  refine tm_ind (P := fun t => ∀ d, 2 * (sizeT (sbs t (pt v d)) + 1) ≤ (sizeT t + 1) * (sizeT v + 1)) ?_ ?_ ?_ ?_ ?_ t
  · intro k d
    refine leaf _ ?_
    show sizeT (pt v d k) ≤ _
    unfold pt
    by_cases h : k < d
    · rw [if_pos h]; exact hv
    · rw [if_neg h]
      by_cases h2 : k = d
      · rw [if_pos h2, sizeT_ren]; exact Nat.le_refl _
      · rw [if_neg h2]; exact hv
  · intro t hc d
    rw [sbs_c hc, show sizeT t = 1 by cases t <;> first | rfl | (cases hc; done)]
    exact leaf _ hv
  · intro a b ha hb d
    have h1 := ha d
    have h2 := hb (d + 1)
    rw [Nat.add_mul] at h1 h2
    show 2 * (1 + sizeT (sbs a (pt v d)) + sizeT (sbs b (ups (pt v d))) + 1) ≤ (1 + sizeT a + sizeT b + 1) * (sizeT v + 1)
    rw [ups_pt, Nat.add_mul, Nat.add_mul, Nat.add_mul]
    omega
  · intro a b ha hb d
    have h1 := ha d
    have h2 := hb (d + 1)
    rw [Nat.add_mul] at h1 h2
    show 2 * (1 + sizeT (sbs a (pt v d)) + sizeT (sbs b (ups (pt v d))) + 1) ≤ (1 + sizeT a + sizeT b + 1) * (sizeT v + 1)
    rw [ups_pt, Nat.add_mul, Nat.add_mul, Nat.add_mul]
    omega
  · intro a b ha hb d
    have h1 := ha d
    have h2 := hb d
    rw [Nat.add_mul] at h1 h2
    show 2 * (1 + sizeT (sbs a (pt v d)) + sizeT (sbs b (pt v d)) + 1) ≤ (1 + sizeT a + sizeT b + 1) * (sizeT v + 1)
    rw [Nat.add_mul, Nat.add_mul, Nat.add_mul]
    omega
theorem mul_cap {x y s m : Nat} (h : x + y ≤ s) (hm : s * s ≤ m) : 4 * (x * y) ≤ m := by
  have w : ∀ x d : Nat, x + (x + d) ≤ s → 4 * (x * (x + d)) ≤ m := by
    intro x d h
    have h1 : (x + (x + d)) * (x + (x + d)) ≤ m := Nat.le_trans (Nat.mul_le_mul h h) hm
    simp only [Nat.add_mul, Nat.mul_add, Nat.mul_comm d x] at h1 ⊢
    omega
  rcases Nat.le_total x y with hxy | hxy
  · obtain ⟨d, rfl⟩ : ∃ d, y = x + d := ⟨y - x, by omega⟩
    exact w x d h
  · obtain ⟨d, rfl⟩ : ∃ d, x = y + d := ⟨x - y, by omega⟩
    rw [Nat.mul_comm (y + d) y]
    exact w y d (by omega)
theorem inst_size (c v : Tm) {s m : Nat} (h : sizeT c + sizeT v + 2 ≤ s) (hm : s * s ≤ m) : 8 * sizeT (inst c v) + 8 ≤ m := by
  have h1 := sub_size v c 0
  rw [pt_zero] at h1
  have h2 := mul_cap (x := sizeT c + 1) (y := sizeT v + 1) (s := s) (m := m) (by omega) hm
  omega
theorem freeT_sub (v : Tm) : ∀ (t : Tm) (d : Nat), freeT (sbs t (pt v d)) ≤ max (freeT t - 1) (freeT v + d) ∨ freeT (sbs t (pt v d)) ≤ d := by
  intro t
  have lf : ∀ (u : Tm) (d : Nat), freeT (ren u (shift d 0)) ≤ freeT u + d := by
    have gen : ∀ (u : Tm) (d e : Nat), freeT (ren u (shift d e)) ≤ freeT u + d := by
      intro u
      refine tm_ind (P := fun u => ∀ d e, freeT (ren u (shift d e)) ≤ freeT u + d) ?_ ?_ ?_ ?_ ?_ u
      · intro k d e
        show shift d e k + 1 ≤ k + 1 + d
        unfold shift
        split <;> omega
      · intro t hc d e; rw [ren_c hc]; omega
      · intro a b ha hb d e
        show max (freeT (ren a (shift d e))) (freeT (ren b (upr (shift d e))) - 1) ≤ max (freeT a) (freeT b - 1) + d
        rw [upr_shift]
        have := ha d e
        have := hb d (e + 1)
        omega
      · intro a b ha hb d e
        show max (freeT (ren a (shift d e))) (freeT (ren b (upr (shift d e))) - 1) ≤ max (freeT a) (freeT b - 1) + d
        rw [upr_shift]
        have := ha d e
        have := hb d (e + 1)
        omega
      · intro a b ha hb d e
        show max (freeT (ren a (shift d e))) (freeT (ren b (shift d e))) ≤ max (freeT a) (freeT b) + d
        have := ha d e
        have := hb d e
        omega
    exact fun u d => gen u d 0
  refine tm_ind (P := fun t => ∀ d, freeT (sbs t (pt v d)) ≤ max (freeT t - 1) (freeT v + d) ∨ freeT (sbs t (pt v d)) ≤ d) ?_ ?_ ?_ ?_ ?_ t
  · intro k d
    show freeT (pt v d k) ≤ max (k + 1 - 1) (freeT v + d) ∨ freeT (pt v d k) ≤ d
    unfold pt
    by_cases h : k < d
    · rw [if_pos h]; right; exact h
    · rw [if_neg h]
      by_cases h2 : k = d
      · rw [if_pos h2]; left; have := lf v d; omega
      · rw [if_neg h2]; left; show k - 1 + 1 ≤ _; omega
  · intro t hc d
    rw [sbs_c hc, show freeT t = 0 by cases t <;> first | rfl | (cases hc; done)]
    right; omega
  · intro a b ha hb d
    have h1 := ha d
    have h2 := hb (d + 1)
    show max (freeT (sbs a (pt v d))) (freeT (sbs b (ups (pt v d))) - 1) ≤ max (max (freeT a) (freeT b - 1) - 1) (freeT v + d) ∨ max (freeT (sbs a (pt v d))) (freeT (sbs b (ups (pt v d))) - 1) ≤ d
    rw [ups_pt]
    omega
  · intro a b ha hb d
    have h1 := ha d
    have h2 := hb (d + 1)
    show max (freeT (sbs a (pt v d))) (freeT (sbs b (ups (pt v d))) - 1) ≤ max (max (freeT a) (freeT b - 1) - 1) (freeT v + d) ∨ max (freeT (sbs a (pt v d))) (freeT (sbs b (ups (pt v d))) - 1) ≤ d
    rw [ups_pt]
    omega
  · intro a b ha hb d
    have h1 := ha d
    have h2 := hb d
    show max (freeT (sbs a (pt v d))) (freeT (sbs b (pt v d))) ≤ max (max (freeT a) (freeT b) - 1) (freeT v + d) ∨ max (freeT (sbs a (pt v d))) (freeT (sbs b (pt v d))) ≤ d
    omega
theorem freeT_inst (c v : Tm) : freeT (inst c v) ≤ max (freeT c - 1) (freeT v) := by
  have h := freeT_sub v c 0
  rw [pt_zero] at h
  omega
theorem freeT_step : ∀ t : Tm, freeT (stepT t) ≤ freeT t := by
  intro t
  refine tm_ind (P := fun t => freeT (stepT t) ≤ freeT t) (fun k => Nat.le_refl _) (fun t h => by cases t <;> first | exact Nat.le_refl _ | (cases h; done)) ?_ ?_ ?_ t
  · intro a b ha hb
    show freeT (if looseT a = true then Jvm.Term.add (stepT a) b else .add a (stepT b)) ≤ max (freeT a) (freeT b - 1)
    by_cases h : looseT a = true
    · rw [if_pos h]; show max (freeT (stepT a)) (freeT b - 1) ≤ _; omega
    · rw [if_neg h]; show max (freeT a) (freeT (stepT b) - 1) ≤ _; omega
  · intro a b ha hb
    show freeT (if looseT a = true then Jvm.Term.sub (stepT a) b else .sub a (stepT b)) ≤ max (freeT a) (freeT b - 1)
    by_cases h : looseT a = true
    · rw [if_pos h]; show max (freeT (stepT a)) (freeT b - 1) ≤ _; omega
    · rw [if_neg h]; show max (freeT a) (freeT (stepT b) - 1) ≤ _; omega
  · intro a b ha hb
    show freeT (if isL a = true then inst (bodyT a) b else if looseT a = true then Jvm.Term.mul (stepT a) b else .mul a (stepT b)) ≤ max (freeT a) (freeT b)
    by_cases hL : isL a = true
    · obtain ⟨A, c, rfl⟩ := isL_ex hL
      rw [if_pos hL]
      have h := freeT_inst c b
      have e : freeT (.sub A c : Tm) = max (freeT A) (freeT c - 1) := rfl
      rw [e]
      show freeT (inst c b) ≤ _
      omega
    · rw [if_neg hL]
      by_cases h : looseT a = true
      · rw [if_pos h]; show max (freeT (stepT a)) (freeT b) ≤ _; omega
      · rw [if_neg h]; show max (freeT a) (freeT (stepT b)) ≤ _; omega
def nfT : Nat → Tm → Option Tm
  | 0, _ => none
  | k + 1, t => if 80 < sizeT t then none else if looseT t = true then nfT k (stepT t) else some t
theorem nfT_some : ∀ (k : Nat) (t u : Tm), nfT k t = some u → sizeT u ≤ 80 ∧ looseT u = false ∧ freeT u ≤ freeT t
  | 0, t, u, h => by cases h
  | k + 1, t, u, h => by
    unfold nfT at h
    by_cases h1 : 80 < sizeT t
    · rw [if_pos h1] at h; cases h
    · rw [if_neg h1] at h
      by_cases h2 : looseT t = true
      · rw [if_pos h2] at h
        obtain ⟨a, b, c⟩ := nfT_some k (stepT t) u h
        exact ⟨a, b, Nat.le_trans c (freeT_step t)⟩
      · rw [if_neg h2] at h
        have e : t = u := by injection h
        subst e
        exact ⟨by omega, by simpa using h2, Nat.le_refl _⟩
