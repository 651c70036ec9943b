/-- find: the type as a tree, exactly where the tree function finds one -/
theorem find_ok {S : SS} {D : DS} {P : PS} {tb : Nat → Option Tm} {B : Nat} (hB : B ≤ 800000) (htbf : ∀ m T, tb m = some T → freeT T ≤ B) : ∀ (t : Tm) (d : Nat) (K : Rows) (n : Nat) (F : FS) (U : US) (Γ : List Tm) (i : Nat), sizeT t ≤ d → WF K n → Rep K n t i → UOK K n U Γ → Γ.length + sizeT t ≤ 42 → TB K n S D P tb → (∀ A ∈ Γ, freeT A ≤ B ∧ sizeT A ≤ 80) → freeT t + sizeT t ≤ B → n + 181 * sizeT t + 2600 ≤ 32768 →
    Found (f_X10_find d K F U S D P (nz i)) K n U Γ (tyT tb t Γ) (sizeT t) := by
  intro t
  induction t with
  | index k =>
    intro d K n F U Γ i hd hw hr hu hl htb hΓ hfr hroom
    obtain ⟨d, rfl⟩ : ∃ e, d = e + 1 := ⟨d - 1, by have := sizeT_pos (.index k : Tm); omega⟩
    have hi := Rep_lt hr
    have hn := hw.2.1
    have hz : sizeT (.index k : Tm) = 1 := rfl
    rw [hz] at hl hroom ⊢
    obtain ⟨h1, h2, h3, h4⟩ := hr
    have st : f_X10_find (d + 1) K F U S D P (nz i) = (g_X8_typeAt U ((U.1 - 1) - nz k)).bind (fun c => (rLift 200 K c (nz k + 1) 0).bind (fun w => some (w.1, w.2, F, U))) := by
      rw [find_step, rFirst_at hw hi, Option.bind_some, h3, rKind_at hw hi, Option.bind_some, h4.1, if_neg (by decide : ¬ nz 1 = 0), if_pos (show nz 1 = 1 from rfl)]
    have eT : tyT tb (.index k) Γ = (Γ[k]?).map (fun T => ren T (shift (k + 1) 0)) := rfl
    rw [st, eT]
    rcases UOK_at hu h2 with ⟨T, j, q1, q2, q3⟩ | ⟨q1, q2⟩
    · have hlt : k < Γ.length := by
        rcases Nat.lt_or_ge k Γ.length with q | q
        · exact q
        · rw [List.getElem?_eq_none q] at q1; cases q1
      have hT := hΓ T (List.mem_of_getElem? q1)
      obtain ⟨K', n', j', e1, e2, e3, e4, e5, e6⟩ := rLift_made (k + 1) (by omega) T 200 K n j 0 hw q3 (by omega) (by omega) (by omega) (by omega) (by omega)
      rw [q1, q2, Option.bind_some, show nz k + 1 = nz (k + 1) from nz_add k 1, show (0 : Int32) = nz 0 from rfl, e1, Option.bind_some]
      refine ⟨fun A h => ?_, fun h => by cases h⟩
      have eA : ren T (shift (k + 1) 0) = A := by injection h
      subst eA
      exact ⟨K', n', F, U, j', rfl, e2, e3, by omega, e5, e6, SameU_refl _ _⟩
    · rw [q1, q2, Option.bind_some, show (0 : Int32) = nz 0 from rfl, lift_none (d := 199) hw, Option.bind_some]
      exact ⟨fun A h => (by cases h), fun _ => ⟨K, n, F, U, rfl, hw, Nat.le_refl _, Ext_refl _ _⟩⟩
  | arg m =>
    intro d K n F U Γ i hd hw hr hu hl htb hΓ hfr hroom
    obtain ⟨d, rfl⟩ : ∃ e, d = e + 1 := ⟨d - 1, by have := sizeT_pos (.arg m : Tm); omega⟩
    have hi := Rep_lt hr
    have hn := hw.2.1
    have hz : sizeT (.arg m : Tm) = 1 := rfl
    rw [hz] at hl hroom ⊢
    obtain ⟨h1, h2, h3, h4, h5⟩ := hr
    have eT : tyT tb (.arg m) Γ = (if m % 8 = 0 then (if 3 ≤ m / 8 then none else some (.arg (m + 8))) else if m % 8 = 2 then some (.arg 0) else if m % 8 = 1 then none else tb m) := rfl
    rw [find_step, rFirst_at hw hi, Option.bind_some, h4, rKind_at hw hi, Option.bind_some, h5.1, eT]
    have c : m % 8 = 0 ∨ m % 8 = 2 ∨ m % 8 = 3 ∨ m % 8 = 4 := by omega
    rcases c with c | c | c | c
    · rw [c, if_pos rfl, if_pos (show nz 0 = 0 from rfl)]
      by_cases h : 3 ≤ m / 8
      · rw [if_pos h, if_pos (show (3 : Int32) ≤ nz (m / 8) from (nz_le (i := 3) (by decide) (by omega)).mpr h)]
        exact ⟨fun A h => (by cases h), fun _ => ⟨K, n, F, U, rfl, hw, Nat.le_refl _, Ext_refl _ _⟩⟩
      · obtain ⟨K', e1, e2, e3, e4⟩ := leaf_arg (k := 0) (p := m / 8 + 1) hw (by omega) (by decide) (by decide) (by omega)
        rw [if_neg h, if_neg (show ¬ (3 : Int32) ≤ nz (m / 8) from fun hq => h ((nz_le (i := 3) (by decide) (by omega)).mp hq)), show nz (m / 8) + 1 = nz (m / 8 + 1) from nz_add _ 1, show (0 : Int32) = nz 0 from rfl, e1, Option.bind_some]
        refine ⟨fun A h => ?_, fun h => by cases h⟩
        have eA : Jvm.Term.arg (m + 8) = A := by injection h
        rw [show 8 * (m / 8 + 1) + 0 = m + 8 by omega] at e4
        subst eA
        exact ⟨K', n + 1, F, U, n, rfl, e2, by omega, by omega, e3, e4, SameU_refl _ _⟩
    · rw [c, if_neg (by decide : ¬ (2 : Nat) = 0), if_pos (rfl : (2 : Nat) = 2), if_neg (by decide : ¬ nz 2 = 0), if_neg (by decide : ¬ nz 2 = 1), if_pos (show nz 2 = 2 from rfl)]
      obtain ⟨K', e1, e2, e3, e4⟩ := leaf_arg (k := 0) (p := 0) hw (by omega) (by decide) (by decide) (by omega)
      rw [show (0 : Int32) = nz 0 from rfl, e1, Option.bind_some]
      refine ⟨fun A h => ?_, fun h => by cases h⟩
      have eA : Jvm.Term.arg 0 = A := by injection h
      subst eA
      exact ⟨K', n + 1, F, U, n, rfl, e2, by omega, by omega, e3, e4, SameU_refl _ _⟩
    · rw [c, if_neg (by decide : ¬ (3 : Nat) = 0), if_neg (by decide : ¬ (3 : Nat) = 2), if_neg (by decide : ¬ (3 : Nat) = 1), if_neg (by decide : ¬ nz 3 = 0), if_neg (by decide : ¬ nz 3 = 1), if_neg (by decide : ¬ nz 3 = 2), if_pos (show nz 3 = 3 from rfl)]
      have em : 8 * (m / 8) + 3 = m := by omega
      have q := con_at htb (p := m / 8) (by omega)
      rw [em] at q
      rcases q with ⟨T, j, q1, q2, q3⟩ | ⟨q1, q2⟩
      · rw [q1, q2, Option.bind_some]
        refine ⟨fun A h => ?_, fun h => by cases h⟩
        have eA : T = A := by injection h
        subst eA
        exact ⟨K, n, F, U, j, rfl, hw, Nat.le_refl _, by omega, Ext_refl _ _, q3, SameU_refl _ _⟩
      · rw [q1, q2, Option.bind_some]
        exact ⟨fun A h => (by cases h), fun _ => ⟨K, n, F, U, rfl, hw, Nat.le_refl _, Ext_refl _ _⟩⟩
    · rw [c, if_neg (by decide : ¬ (4 : Nat) = 0), if_neg (by decide : ¬ (4 : Nat) = 2), if_neg (by decide : ¬ (4 : Nat) = 1), if_neg (by decide : ¬ nz 4 = 0), if_neg (by decide : ¬ nz 4 = 1), if_neg (by decide : ¬ nz 4 = 2), if_neg (by decide : ¬ nz 4 = 3), if_pos (show nz 4 = 4 from rfl)]
      have em : 8 * (m / 8) + 4 = m := by omega
      have q := fun_at htb (p := m / 8) (by omega)
      rw [em] at q
      rcases q with ⟨T, j, q1, q2, q3⟩ | ⟨q1, q2⟩
      · rw [q1, q2, Option.bind_some]
        refine ⟨fun A h => ?_, fun h => by cases h⟩
        have eA : T = A := by injection h
        subst eA
        exact ⟨K, n, F, U, j, rfl, hw, Nat.le_refl _, by omega, Ext_refl _ _, q3, SameU_refl _ _⟩
      · rw [q1, q2, Option.bind_some]
        exact ⟨fun A h => (by cases h), fun _ => ⟨K, n, F, U, rfl, hw, Nat.le_refl _, Ext_refl _ _⟩⟩
  | add a b iha ihb =>
    intro d K n F U Γ i hd hw hr hu hl htb hΓ hfr hroom
    obtain ⟨d, rfl⟩ : ∃ e, d = e + 1 := ⟨d - 1, by have := sizeT_pos (.add a b : Tm); omega⟩
    have hsz : sizeT (.add a b : Tm) = 1 + sizeT a + sizeT b := rfl
    rw [hsz] at hd
    obtain ⟨h1, h2, h3, j, l, h4, h5, h6, h7, h8, h9⟩ := hr
    rw [find_step, rFirst_at hw h1, Option.bind_some, rKind_at hw h1, Option.bind_some, h3.1, if_neg (by decide : ¬ nz 5 = 0), if_neg (by decide : ¬ nz 5 = 1), if_neg (by decide : ¬ nz 5 = 2), if_neg (by decide : ¬ nz 5 = 3), if_neg (by decide : ¬ nz 5 = 4), if_pos (show nz 5 = 5 from rfl)]
    exact (find_pi hB htbf (fun K n F U Γ i => iha d K n F U Γ i (by omega)) (fun K n F U Γ i => ihb d K n F U Γ i (by omega)) hw h1 h6 h7 h8 h9 hu hl htb hΓ hfr hroom).1
  | sub a b iha ihb =>
    intro d K n F U Γ i hd hw hr hu hl htb hΓ hfr hroom
    obtain ⟨d, rfl⟩ : ∃ e, d = e + 1 := ⟨d - 1, by have := sizeT_pos (.sub a b : Tm); omega⟩
    have hsz : sizeT (.sub a b : Tm) = 1 + sizeT a + sizeT b := rfl
    rw [hsz] at hd
    obtain ⟨h1, h2, h3, j, l, h4, h5, h6, h7, h8, h9⟩ := hr
    rw [find_step, rFirst_at hw h1, Option.bind_some, rKind_at hw h1, Option.bind_some, h3.1, if_neg (by decide : ¬ nz 6 = 0), if_neg (by decide : ¬ nz 6 = 1), if_neg (by decide : ¬ nz 6 = 2), if_neg (by decide : ¬ nz 6 = 3), if_neg (by decide : ¬ nz 6 = 4), if_neg (by decide : ¬ nz 6 = 5), if_pos (show nz 6 = 6 from rfl)]
    exact (find_pi hB htbf (fun K n F U Γ i => iha d K n F U Γ i (by omega)) (fun K n F U Γ i => ihb d K n F U Γ i (by omega)) hw h1 h6 h7 h8 h9 hu hl htb hΓ hfr hroom).2
  | mul a b iha ihb =>
    intro d K n F U Γ i hd hw hr hu hl htb hΓ hfr hroom
    obtain ⟨d, rfl⟩ : ∃ e, d = e + 1 := ⟨d - 1, by have := sizeT_pos (.mul a b : Tm); omega⟩
    have hsz : sizeT (.mul a b : Tm) = 1 + sizeT a + sizeT b := rfl
    rw [hsz] at hd
    obtain ⟨h1, h2, h3, j, l, h4, h5, h6, h7, h8, h9⟩ := hr
    rw [find_step, rFirst_at hw h1, Option.bind_some, rKind_at hw h1, Option.bind_some, h3.1, if_neg (by decide : ¬ nz 7 = 0), if_neg (by decide : ¬ nz 7 = 1), if_neg (by decide : ¬ nz 7 = 2), if_neg (by decide : ¬ nz 7 = 3), if_neg (by decide : ¬ nz 7 = 4), if_neg (by decide : ¬ nz 7 = 5), if_neg (by decide : ¬ nz 7 = 6), if_pos (show nz 7 = 7 from rfl)]
    exact find_app hB htbf (fun K n F U Γ i => iha d K n F U Γ i (by omega)) (fun K n F U Γ i => ihb d K n F U Γ i (by omega)) hw h1 h6 h7 h8 h9 hu hl htb hΓ hfr hroom
  | _ => intro d K n F U Γ i hd hw hr; exact hr.elim
