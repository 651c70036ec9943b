/-! whether some value could be alike to two patterns; heads and arguments -/
def meetT : Tm → Tm → Bool
  | .index _, _ => true
  | _, .index _ => true
  | .mul a b, .mul c d => meetT a c && meetT b d
  | .arg m, .arg k => (m % 8 == 3) && (k % 8 == 3) && (m / 8 == k / 8)
  | _, _ => false
def rMeet (d : Nat) (K : Rows) (p1 p2 : Int32) : Option Int32 := f_X6_meet d K.1 K.2.1 K.2.2.1 K.2.2.2.1 p1 p2
theorem rMeet_step (d : Nat) (K : Rows) (p1 p2 : Int32) : rMeet (d + 1) K p1 p2 = (rKind K p1).bind (fun k => (rKind K p2).bind (fun k2 => if k = 1 then some 1 else if k2 = 1 then some 1 else
    if k = 3 then (if k2 = 3 then (rFirst K p1).bind (fun f => (rFirst K p2).bind (fun f2 => if f = f2 then some 1 else some 0)) else
      if k = 7 then (if k2 = 7 then (rFirst K p1).bind (fun f => (rFirst K p2).bind (fun f2 => (rMeet d K f f2).bind (fun b => if b = 0 then some 0 else (rSecond K p1).bind (fun s => (rSecond K p2).bind (fun s2 => (rMeet d K s s2).bind (fun b2 => if b2 = 0 then some 0 else some 1)))))) else some 0) else some 0)
    else if k = 7 then (if k2 = 7 then (rFirst K p1).bind (fun f => (rFirst K p2).bind (fun f2 => (rMeet d K f f2).bind (fun b => if b = 0 then some 0 else (rSecond K p1).bind (fun s => (rSecond K p2).bind (fun s2 => (rMeet d K s s2).bind (fun b2 => if b2 = 0 then some 0 else some 1)))))) else some 0) else some 0)) := rfl
theorem nz_ne {k c : Nat} (hk : k < 2147483648) (hc : c < 2147483648) (h : k ≠ c) : ¬ nz k = nz c := fun hq => h ((nz_inj hk hc).mp hq)
theorem kA3 (a b : Tm) : ¬ kdT (.add a b : Tm) = 3 := (by decide : ¬ 5 = 3)
theorem kA7 (a b : Tm) : ¬ kdT (.add a b : Tm) = 7 := (by decide : ¬ 5 = 7)
theorem kS3 (a b : Tm) : ¬ kdT (.sub a b : Tm) = 3 := (by decide : ¬ 6 = 3)
theorem kS7 (a b : Tm) : ¬ kdT (.sub a b : Tm) = 7 := (by decide : ¬ 6 = 7)
theorem kM3 (a b : Tm) : ¬ kdT (.mul a b : Tm) = 3 := (by decide : ¬ 7 = 3)
theorem kM7 (a b : Tm) : kdT (.mul a b : Tm) = 7 := rfl
theorem rMeet_yes {K : Rows} {n : Nat} (hw : WF K n) : ∀ (d : Nat) (t s : Tm) (i j : Nat), sizeT t ≤ d → Rep K n t i → Rep K n s j → rMeet d K (nz i) (nz j) = some (if meetT t s = true then 1 else 0)
  | 0, t, s, i, j, hm, _, _ => absurd (sizeT_pos t) (by omega)
  | d + 1, t, s, i, j, hm, ht, hs => by
    have hi := Rep_lt ht
    have hj := Rep_lt hs
    have hn := hw.2.1
    obtain ⟨k1, v1⟩ := Rep_view ht
    obtain ⟨k2, v2⟩ := Rep_view hs
    have hk8 : kdT t < 8 := by rcases v1 with v | v <;> omega
    have hk8' : kdT s < 8 := by rcases v2 with v | v <;> omega
    rw [rMeet_step, rKind_at hw hi, Option.bind_some, k1, rKind_at hw hj, Option.bind_some, k2, rFirst_at hw hi, rFirst_at hw hj, rSecond_at hw hi, rSecond_at hw hj]
    simp only [Option.bind_some]
    have e1 : ∀ x, x < 8 → (nz x = 1 ↔ x = 1) := fun x hx => nz_inj (by omega) (by decide)
    have e3 : ∀ x, x < 8 → (nz x = 3 ↔ x = 3) := fun x hx => nz_inj (by omega) (by decide)
    have e7 : ∀ x, x < 8 → (nz x = 7 ↔ x = 7) := fun x hx => nz_inj (by omega) (by decide)
    simp only [e1 _ hk8, e1 _ hk8', e3 _ hk8, e3 _ hk8', e7 _ hk8, e7 _ hk8']
    by_cases c1 : kdT t = 1
    · rw [if_pos c1]
      cases t with
      | index k => rw [if_pos (show meetT (.index k) s = true by cases s <;> rfl)]
      | arg m => exact absurd c1 (show ¬ m % 8 = 1 from ht.2.2.1.2)
      | add a b => exact absurd c1 (by decide : ¬ 5 = 1)
      | sub a b => exact absurd c1 (by decide : ¬ 6 = 1)
      | mul a b => exact absurd c1 (by decide : ¬ 7 = 1)
      | _ => exact ht.elim
    · rw [if_neg c1]
      by_cases c2 : kdT s = 1
      · rw [if_pos c2]
        cases s with
        | index k => rw [if_pos (show meetT t (.index k) = true by cases t <;> rfl)]
        | arg m => exact absurd c2 (show ¬ m % 8 = 1 from hs.2.2.1.2)
        | add a b => exact absurd c2 (by decide : ¬ 5 = 1)
        | sub a b => exact absurd c2 (by decide : ¬ 6 = 1)
        | mul a b => exact absurd c2 (by decide : ¬ 7 = 1)
        | _ => exact hs.elim
      · rw [if_neg c2]
        cases t with
        | index k => exact absurd rfl c1
        | arg m =>
          obtain ⟨h1, h2, h3, h4, h5⟩ := ht
          have q7 : ¬ kdT (.arg m : Tm) = 7 := by show ¬ m % 8 = 7; omega
          rw [h4]
          by_cases q3 : kdT (.arg m : Tm) = 3
          · rw [if_pos q3]
            have q3' : m % 8 = 3 := q3
            cases s with
            | index k => exact absurd rfl c2
            | arg k =>
              obtain ⟨g1, g2, g3, g4, g5⟩ := hs
              rw [g4]
              by_cases r3 : kdT (.arg k : Tm) = 3
              · have r3' : k % 8 = 3 := r3
                rw [if_pos r3]
                by_cases hp : m / 8 = k / 8
                · rw [if_pos (by rw [hp]), if_pos (by simp [meetT, q3', r3', hp])]
                · rw [if_neg (nz_ne (by omega) (by omega) hp), if_neg (by simp [meetT, hp])]
              · have r3' : ¬ k % 8 = 3 := r3
                rw [if_neg r3, if_neg q7, if_neg (by simp [meetT, r3'])]
            | add a b => rw [if_neg (kA3 _ _), if_neg q7, if_neg (by simp [meetT])]
            | sub a b => rw [if_neg (kS3 _ _), if_neg q7, if_neg (by simp [meetT])]
            | mul a b => rw [if_neg (kM3 _ _), if_neg q7, if_neg (by simp [meetT])]
            | _ => exact hs.elim
          · have q3' : ¬ m % 8 = 3 := q3
            rw [if_neg q3, if_neg q7]
            cases s with
            | index k => exact absurd rfl c2
            | arg k => rw [if_neg (by simp [meetT, q3'])]
            | _ => rw [if_neg (by simp [meetT])]
        | add a b => rw [if_neg (kA3 _ _), if_neg (kA7 _ _)]; cases s <;> first | exact absurd rfl c2 | (rw [if_neg (by simp [meetT])]; done)
        | sub a b => rw [if_neg (kS3 _ _), if_neg (kS7 _ _)]; cases s <;> first | exact absurd rfl c2 | (rw [if_neg (by simp [meetT])]; done)
        | mul a b =>
          rw [if_neg (kM3 _ _), if_pos (kM7 _ _)]
          obtain ⟨h1, h2, h3, j1, l1, h4, h5, h6, h7, h8, h9⟩ := ht
          have hsz : sizeT (.mul a b : Tm) = 1 + sizeT a + sizeT b := rfl
          rw [hsz] at hm
          rw [h6, h7]
          cases s with
          | index k => exact absurd rfl c2
          | arg k =>
            have r7 : ¬ kdT (.arg k : Tm) = 7 := by show ¬ k % 8 = 7; have := hs.2.2.1.1; omega
            rw [if_neg r7, if_neg (by simp [meetT])]
          | add c d => rw [if_neg (kA7 _ _), if_neg (by simp [meetT])]
          | sub c d => rw [if_neg (kS7 _ _), if_neg (by simp [meetT])]
          | mul c e =>
            obtain ⟨g1, g2, g3, j2, l2, g4, g5, g6, g7, g8, g9⟩ := hs
            rw [if_pos (kM7 _ _), g6, g7, rMeet_yes hw d a c j1 j2 (by omega) h8 g8, Option.bind_some, rMeet_yes hw d b e l1 l2 (by omega) h9 g9]
            show _ = some (if (meetT a c && meetT b e) = true then 1 else 0)
            cases meetT a c <;> cases meetT b e <;> rfl
          | _ => exact hs.elim
        | _ => exact ht.elim
def rHead (K : Rows) (p : Int32) : Option Int32 := f_X9_headOf K.1 K.2.1 K.2.2.1 p
def rArgs (K : Rows) (p : Int32) : Option Int32 := f_X9_argumentsOf K.1 K.2.1 K.2.2.1 p
theorem nargs_size : ∀ t : Tm, 2 * nargs t + 1 ≤ sizeT t := by
  intro t
  refine tm_ind (P := fun t => 2 * nargs t + 1 ≤ sizeT t) (fun k => Nat.le_refl 1) (fun t h => by rw [nargs_c h]; exact sizeT_pos t) (fun a b _ _ => sizeT_pos _) (fun a b _ _ => sizeT_pos _) ?_ t
  intro a b ha hb
  show 2 * (nargs a + 1) + 1 ≤ 1 + sizeT a + sizeT b
  have := sizeT_pos b
  omega
theorem head_loop {K : Rows} {n : Nat} (hw : WF K n) : ∀ (t : Tm) (f i x : Nat), Rep K n t i → nargs t < f → x + nargs t < 200 → ∃ j, f_X9_headOf_L4 f K.1 K.2.1 K.2.2.1 (nz i) (nz x) = some (nz j) ∧ Rep K n (headc t) j := by
  have stop : ∀ (t : Tm) (f i x : Nat), Rep K n t i → ¬ K.2.1 i = 7 → headc t = t → x < 200 → f_X9_headOf_L4 (f + 1) K.1 K.2.1 K.2.2.1 (nz i) (nz x) = some (nz i) ∧ Rep K n (headc t) i := by
    intro t f i x hr h7 hh hx
    have hi := Rep_lt hr
    have hn := hw.2.1
    refine ⟨?_, by rw [hh]; exact hr⟩
    unfold f_X9_headOf_L4
    rw [if_neg (fun hq : (200 : Int32) ≤ nz x => absurd ((nz_le (i := 200) (by decide) (by omega)).mp hq) (by omega)), if_neg (nz_neg (by omega)), hw.1, if_neg (fun hq => absurd ((nz_le (by omega) (by omega)).mp hq) (by omega)), if_pos (nz_inb (by omega) (by decide)), nz_nat (by omega), if_neg h7]
  have ne7 : ∀ k, k < 7 → ¬ nz k = 7 := fun k hk => nz_ne (c := 7) (by omega) (by decide) (by omega)
  intro t
  induction t with
  | mul a b iha ihb =>
    intro f i x hr hf hx
    obtain ⟨f, rfl⟩ : ∃ e, f = e + 1 := ⟨f - 1, by omega⟩
    have hi := Rep_lt hr
    have hn := hw.2.1
    have hna : nargs (.mul a b : Tm) = nargs a + 1 := rfl
    rw [hna] at hf hx
    obtain ⟨h1, h2, h3, j, l, h4, h5, h6, h7, h8, h9⟩ := hr
    obtain ⟨j', e, r⟩ := iha f j (x + 1) h8 (by omega) (by omega)
    refine ⟨j', ?_, r⟩
    unfold f_X9_headOf_L4
    rw [if_neg (fun hq : (200 : Int32) ≤ nz x => absurd ((nz_le (i := 200) (by decide) (by omega)).mp hq) (by omega)), if_neg (nz_neg (by omega)), hw.1, if_neg (fun hq => absurd ((nz_le (by omega) (by omega)).mp hq) (by omega)), if_pos (nz_inb (by omega) (by decide)), nz_nat (by omega), if_pos (show K.2.1 i = 7 from h3.1), if_pos (nz_inb (by omega) (by decide)), h6, show nz x + 1 = nz (x + 1) from nz_add x 1, ← hw.1]
    exact e
  | index k => intro f i x hr hf hx; obtain ⟨f, rfl⟩ : ∃ e, f = e + 1 := ⟨f - 1, by omega⟩; exact ⟨i, stop _ f i x hr (by rw [hr.2.2.2.1]; exact ne7 1 (by decide)) rfl (by omega)⟩
  | arg m => intro f i x hr hf hx; obtain ⟨f, rfl⟩ : ∃ e, f = e + 1 := ⟨f - 1, by omega⟩; exact ⟨i, stop _ f i x hr (by rw [hr.2.2.2.2.1]; exact ne7 _ (by have := hr.2.2.1.1; omega)) rfl (by omega)⟩
  | add a b _ _ => intro f i x hr hf hx; obtain ⟨f, rfl⟩ : ∃ e, f = e + 1 := ⟨f - 1, by omega⟩; exact ⟨i, stop _ f i x hr (by rw [hr.2.2.1.1]; exact ne7 5 (by decide)) rfl (by omega)⟩
  | sub a b _ _ => intro f i x hr hf hx; obtain ⟨f, rfl⟩ : ∃ e, f = e + 1 := ⟨f - 1, by omega⟩; exact ⟨i, stop _ f i x hr (by rw [hr.2.2.1.1]; exact ne7 6 (by decide)) rfl (by omega)⟩
  | _ => intro f i x hr; exact hr.elim
theorem args_loop {K : Rows} {n : Nat} (hw : WF K n) : ∀ (t : Tm) (f i x : Nat), Rep K n t i → nargs t < f → x + nargs t < 200 → f_X9_argumentsOf_L4 f K.1 K.2.1 K.2.2.1 (nz i) (nz x) = some (nz (x + nargs t)) := by
  have stop : ∀ (t : Tm) (f i x : Nat), Rep K n t i → ¬ K.2.1 i = 7 → nargs t = 0 → x < 200 → f_X9_argumentsOf_L4 (f + 1) K.1 K.2.1 K.2.2.1 (nz i) (nz x) = some (nz (x + nargs t)) := by
    intro t f i x hr h7 hh hx
    have hi := Rep_lt hr
    have hn := hw.2.1
    unfold f_X9_argumentsOf_L4
    rw [if_neg (fun hq : (200 : Int32) ≤ nz x => absurd ((nz_le (i := 200) (by decide) (by omega)).mp hq) (by omega)), if_neg (nz_neg (by omega)), hw.1, if_neg (fun hq => absurd ((nz_le (by omega) (by omega)).mp hq) (by omega)), if_pos (nz_inb (by omega) (by decide)), nz_nat (by omega), if_neg h7, hh, Nat.add_zero]
  have ne7 : ∀ k, k < 7 → ¬ nz k = 7 := fun k hk => nz_ne (c := 7) (by omega) (by decide) (by omega)
  intro t
  induction t with
  | mul a b iha ihb =>
    intro f i x hr hf hx
    obtain ⟨f, rfl⟩ : ∃ e, f = e + 1 := ⟨f - 1, by omega⟩
    have hi := Rep_lt hr
    have hn := hw.2.1
    have hna : nargs (.mul a b : Tm) = nargs a + 1 := rfl
    rw [hna] at hf hx ⊢
    obtain ⟨h1, h2, h3, j, l, h4, h5, h6, h7, h8, h9⟩ := hr
    have e := iha f j (x + 1) h8 (by omega) (by omega)
    unfold f_X9_argumentsOf_L4
    rw [if_neg (fun hq : (200 : Int32) ≤ nz x => absurd ((nz_le (i := 200) (by decide) (by omega)).mp hq) (by omega)), if_neg (nz_neg (by omega)), hw.1, if_neg (fun hq => absurd ((nz_le (by omega) (by omega)).mp hq) (by omega)), if_pos (nz_inb (by omega) (by decide)), nz_nat (by omega), if_pos (show K.2.1 i = 7 from h3.1), if_pos (nz_inb (by omega) (by decide)), h6, show nz x + 1 = nz (x + 1) from nz_add x 1, ← hw.1, e]
    congr 2
    omega
  | index k => intro f i x hr hf hx; obtain ⟨f, rfl⟩ : ∃ e, f = e + 1 := ⟨f - 1, by omega⟩; exact stop _ f i x hr (by rw [hr.2.2.2.1]; exact ne7 1 (by decide)) rfl (by omega)
  | arg m => intro f i x hr hf hx; obtain ⟨f, rfl⟩ : ∃ e, f = e + 1 := ⟨f - 1, by omega⟩; exact stop _ f i x hr (by rw [hr.2.2.2.2.1]; exact ne7 _ (by have := hr.2.2.1.1; omega)) rfl (by omega)
  | add a b _ _ => intro f i x hr hf hx; obtain ⟨f, rfl⟩ : ∃ e, f = e + 1 := ⟨f - 1, by omega⟩; exact stop _ f i x hr (by rw [hr.2.2.1.1]; exact ne7 5 (by decide)) rfl (by omega)
  | sub a b _ _ => intro f i x hr hf hx; obtain ⟨f, rfl⟩ : ∃ e, f = e + 1 := ⟨f - 1, by omega⟩; exact stop _ f i x hr (by rw [hr.2.2.1.1]; exact ne7 6 (by decide)) rfl (by omega)
  | _ => intro f i x hr; exact hr.elim
theorem rHead_at {K : Rows} {n i : Nat} {t : Tm} (hw : WF K n) (hr : Rep K n t i) : ∃ j, rHead K (nz i) = some (nz j) ∧ Rep K n (headc t) j := by
  have h := nargs_size t
  have h2 := Rep_size t i hr
  exact head_loop hw t 100000 i 0 hr (by omega) (by omega)
theorem rArgs_at {K : Rows} {n i : Nat} {t : Tm} (hw : WF K n) (hr : Rep K n t i) : rArgs K (nz i) = some (nz (nargs t)) := by
  have h := nargs_size t
  have h2 := Rep_size t i hr
  have e := args_loop hw t 100000 i 0 hr (by omega) (by omega)
  rw [Nat.zero_add] at e
  exact e
