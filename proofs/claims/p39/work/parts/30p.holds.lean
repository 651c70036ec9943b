def rHolds (d : Nat) (K : Rows) (p1 p2 : Int32) : Option Int32 := f_X6_holds d K.1 K.2.1 K.2.2.1 K.2.2.2.1 p1 p2
theorem rHolds_step (d : Nat) (K : Rows) (p1 p2 : Int32) : rHolds (d + 1) K p1 p2 = (rKind K p1).bind (fun k => if k = 1 then (rFirst K p1).bind (fun f => if f = p2 then some 1 else some 0) else if k = 7 then
    (rFirst K p1).bind (fun f => (rHolds d K f p2).bind (fun b => if b = 0 then (rSecond K p1).bind (fun s => (rHolds d K s p2).bind (fun b2 => if b2 = 0 then some 0 else some 1)) else some 1)) else some 0) := rfl
/-- whether a variable stands in a pattern -/
theorem rHolds_yes {K : Rows} {n x : Nat} (hw : WF K n) (hx : x < 1000000) : ∀ (d : Nat) (t : Tm) (i : Nat), sizeT t ≤ d → Rep K n t i → (occ t x → rHolds d K (nz i) (nz x) = some 1) ∧ (¬ occ t x → rHolds d K (nz i) (nz x) = some 0)
  | 0, t, i, hm, _ => absurd (sizeT_pos t) (by omega)
  | d + 1, t, i, hm, ht => by
    have hi := Rep_lt ht
    rw [rHolds_step, rKind_at hw hi, rFirst_at hw hi, rSecond_at hw hi]
    simp only [Option.bind_some]
    have w : ∀ k c, k < 8 → c < 8 → k ≠ c → ¬ nz k = nz c := fun k c hk hc hne hq => hne ((nz_inj (by omega) (by omega)).mp hq)
    cases t with
    | index k =>
      obtain ⟨h1, h2, h3, h4⟩ := ht
      rw [h4.1, if_pos (show nz 1 = 1 from rfl), h3]
      by_cases h : k = x
      · rw [if_pos (by rw [h])]
        exact ⟨fun _ => rfl, fun hn => absurd h hn⟩
      · rw [if_neg (fun hq => h ((nz_inj (by omega) (by omega)).mp hq))]
        exact ⟨fun ho => absurd ho h, fun _ => rfl⟩
    | arg m =>
      obtain ⟨h1, h2, h3, h4, h5⟩ := ht
      rw [h5.1]
      have q1 : ¬ nz (m % 8) = 1 := w _ 1 (by omega) (by decide) h3.2
      have q7 : ¬ nz (m % 8) = 7 := w _ 7 (by omega) (by decide) (by omega)
      rw [if_neg q1, if_neg q7]
      exact ⟨fun ho => ho.elim, fun _ => rfl⟩
    | add a b =>
      rw [ht.2.2.1.1]
      have q1 : ¬ nz 5 = 1 := w 5 1 (by decide) (by decide) (by decide)
      have q7 : ¬ nz 5 = 7 := w 5 7 (by decide) (by decide) (by decide)
      rw [if_neg q1, if_neg q7]
      exact ⟨fun ho => ho.elim, fun _ => rfl⟩
    | sub a b =>
      rw [ht.2.2.1.1]
      have q1 : ¬ nz 6 = 1 := w 6 1 (by decide) (by decide) (by decide)
      have q7 : ¬ nz 6 = 7 := w 6 7 (by decide) (by decide) (by decide)
      rw [if_neg q1, if_neg q7]
      exact ⟨fun ho => ho.elim, fun _ => rfl⟩
    | mul a b =>
      obtain ⟨h1, h2, h3, j, l, h4, h5, h6, h7, h8, h9⟩ := ht
      have hsz : sizeT (.mul a b : Tm) = 1 + sizeT a + sizeT b := rfl
      rw [hsz] at hm
      have q1 : ¬ nz 7 = 1 := w 7 1 (by decide) (by decide) (by decide)
      rw [h3.1, if_neg q1, if_pos (show nz 7 = 7 from rfl), h6, h7]
      obtain ⟨r1, r2⟩ := rHolds_yes hw hx d a j (by omega) h8
      obtain ⟨r3, r4⟩ := rHolds_yes hw hx d b l (by omega) h9
      by_cases c1 : occ a x
      · rw [r1 c1, Option.bind_some, if_neg (by decide)]
        exact ⟨fun _ => rfl, fun hn => absurd (Or.inl c1) hn⟩
      · rw [r2 c1, Option.bind_some, if_pos rfl]
        by_cases c2 : occ b x
        · rw [r3 c2, Option.bind_some, if_neg (by decide)]
          exact ⟨fun _ => rfl, fun hn => absurd (Or.inr c2) hn⟩
        · rw [r4 c2, Option.bind_some, if_pos rfl]
          exact ⟨fun ho => by rcases ho with h | h; exact absurd h c1; exact absurd h c2, fun _ => rfl⟩
    | _ => exact ht.elim
