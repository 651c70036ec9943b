/-! what is accepted: a new function, a split -/
theorem AccOK_dec {acc : Int32} {B : FG} {G : GG} {u R : Tm} {r gn : Nat} {l : List Tm} (h : AccOK acc B G) (h8 : fFc B < 8) : AccOK acc (decB B u r gn) (decG G (fFc B) l R) := by
  refine AccOK_same h (show fFc B ≤ fFc B + 1 by omega) ?_
  intro g hg h0 ha
  have hg' : g < qN G + 1 := hg
  have ha' : accB acc (up1 (qF G) (qN G) (fFc B) g) = true := ha
  have h0' : up1 (qS G) (qN G) 0 g = 0 := h0
  by_cases q : g = qN G
  · rw [q, up1_eq] at ha'
    have := (h _ h8 ha').1
    omega
  · rw [up1_ne q] at h0'
    refine ⟨g, by omega, ?_, h0'⟩
    show qF G g = up1 (qF G) (qN G) (fFc B) g
    rw [up1_ne q]
theorem AccOK_spl {acc : Int32} {A : SG} {B : FG} {G : GG} {g0 pl d : Nat} {Cf : Nat → List Tm} {Tf : Nat → Tm} (h : AccOK acc B G) (hn : accB acc (qF G g0) = false) : AccOK acc B (splG A G g0 pl d Cf Tf) := by
  refine AccOK_same h (Nat.le_refl _) ?_
  intro g hg h0 ha
  have ha' : accB acc (if g < qN G then qF G g else qF G g0) = true := ha
  have h0' : (if g < qN G then (if g = g0 then 1 else qS G g) else 0) = 0 := h0
  by_cases q : g < qN G
  · rw [if_pos q] at h0'
    by_cases w : g = g0
    · rw [if_pos w] at h0'
      cases h0'
    · rw [if_neg w] at h0'
      refine ⟨g, q, ?_, h0'⟩
      show qF G g = (if g < qN G then qF G g else qF G g0)
      rw [if_pos q]
  · rw [if_neg q, hn] at ha'
    cases ha'
