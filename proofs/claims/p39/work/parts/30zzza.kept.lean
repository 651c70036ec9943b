/-! what is accepted stays without open goals -/
theorem opn_zero {G : GG} {f : Nat} : ∀ k, opn G f k = 0 ↔ ∀ g, g < k → ¬ (qF G g = f ∧ qS G g = 0) := by
  intro k
  induction k with
  | zero => exact ⟨fun _ g hg => absurd hg (Nat.not_lt_zero g), fun _ => rfl⟩
  | succ k ih =>
    have e : opn G f (k + 1) = opn G f k + (if qF G k = f ∧ qS G k = 0 then 1 else 0) := rfl
    constructor
    · intro h g hg
      rw [e] at h
      by_cases q : g = k
      · subst q
        intro w
        rw [if_pos w] at h
        omega
      · exact ih.mp (by omega) g (by omega)
    · intro h
      rw [e, if_neg (h k (Nat.lt_succ_self k)), Nat.add_zero]
      exact ih.mpr (fun g hg => h g (by omega))
theorem AccOK_same {acc : Int32} {B B' : FG} {G G' : GG} (h : AccOK acc B G) (hB : fFc B ≤ fFc B') (hg : ∀ g, g < qN G' → qS G' g = 0 → accB acc (qF G' g) = true → ∃ g', g' < qN G ∧ qF G g' = qF G' g ∧ qS G g' = 0) : AccOK acc B' G' := by
  intro f hf ha
  obtain ⟨h1, h2⟩ := h f hf ha
  refine ⟨by omega, (opn_zero _).mpr ?_⟩
  rintro g hgq ⟨w1, w2⟩
  obtain ⟨g', k1, k2, k3⟩ := hg g hgq w2 (by rw [w1]; exact ha)
  exact (opn_zero _).mp h2 g' k1 ⟨k2.trans w1, k3⟩
theorem AccOK_accept {acc : Int32} {B : FG} {G : GG} {f : Nat} (h : AccOK acc B G) (hf : f < fFc B) (h8 : fFc B ≤ 8) (ho : opn G f (qN G) = 0) : AccOK (acc ||| ((1 : Int32) <<< (nz f &&& 31))) B G := by
  intro g hg ha
  rw [acc_or acc (by omega) hg] at ha
  by_cases q : g = f
  · subst q
    exact ⟨hf, ho⟩
  · have e : decide (g = f) = false := decide_eq_false q
    rw [e, Bool.or_false] at ha
    exact h g hg ha
theorem AccOK_set {acc : Int32} {B : FG} {G : GG} {g s : Nat} {r : Tm} (h : AccOK acc B G) (hs : s ≠ 0) : AccOK acc B (setS G g s r) := by
  refine AccOK_same h (Nat.le_refl _) ?_
  intro g' hg' h0 _
  refine ⟨g', hg', rfl, ?_⟩
  have h0' : up1 (qS G) g s g' = 0 := h0
  by_cases q : g' = g
  · rw [q, up1_eq] at h0'
    exact absurd h0' hs
  · rw [up1_ne q] at h0'
    exact h0'
/-- reopened: the function is not accepted -/
theorem AccOK_reopen {acc : Int32} {B : FG} {G : GG} {g : Nat} {r : Tm} (h : AccOK acc B G) (hn : accB acc (qF G g) = false) : AccOK acc B (setS G g 0 r) := by
  refine AccOK_same h (Nat.le_refl _) ?_
  intro g' hg' h0 ha
  have ha' : accB acc (qF G g') = true := ha
  by_cases q : g' = g
  · rw [q, hn] at ha'
    cases ha'
  · refine ⟨g', hg', rfl, ?_⟩
    have h0' : up1 (qS G) g 0 g' = 0 := h0
    rw [up1_ne q] at h0'
    exact h0'
theorem AccOK_open {acc : Int32} {B : FG} {G : GG} {g : Nat} (h : AccOK acc B G) (h8 : qF G g < 8) (hg : g < qN G) (h0 : qS G g = 0) : accB acc (qF G g) = false := by
  cases q : accB acc (qF G g) with
  | false => rfl
  | true => exact absurd ⟨rfl, h0⟩ ((opn_zero _).mp (h _ h8 q).2 g hg)
