/-! types as trees: what find comes to -/
def isUn : Option Tm → Option Nat
  | some (.arg m) => if m % 8 = 0 then some (m / 8) else none
  | _ => none
def isPi : Option Tm → Option (Tm × Tm)
  | some (.add a b) => some (a, b)
  | _ => none
def capT (t : Tm) : Option Tm := if sizeT t ≤ 200 then some t else none
def tyT (tb : Nat → Option Tm) : Tm → List Tm → Option Tm
  | .index k, Γ => (Γ[k]?).map (fun T => ren T (shift (k + 1) 0))
  | .arg m, _ => if m % 8 = 0 then (if 3 ≤ m / 8 then none else some (.arg (m + 8))) else if m % 8 = 2 then some (.arg 0) else if m % 8 = 1 then none else tb m
  | .add a b, Γ => (isUn ((tyT tb a Γ).bind nf)).bind (fun u => (isUn ((tyT tb b (a :: Γ)).bind nf)).bind (fun w => some (.arg (8 * max u w + 0))))
  | .sub a b, Γ => (isUn ((tyT tb a Γ).bind nf)).bind (fun _ => (tyT tb b (a :: Γ)).bind (fun B => capT (.add a B)))
  | .mul a b, Γ => (isPi ((tyT tb a Γ).bind nf)).bind (fun q => if (tyT tb b Γ).bind nf = some q.1 then capT (inst q.2 b) else none)
  | _, _ => none
theorem map_same {α : Type} (o : Option α) : o.map (fun z => z) = o := by cases o <;> rfl
theorem map_pr {α β : Type} (o : Option (α × β)) : o.map (fun z => (z.1, z.2)) = o := by cases o <;> rfl
theorem g_first (K : Rows) (p : Int32) : g_X9_firstOf K p = rFirst K p := map_same _
theorem g_second (K : Rows) (p : Int32) : g_X9_secondOf K p = rSecond K p := map_same _
theorem g_kind (K : Rows) (p : Int32) : g_X9_kindOf K p = rKind K p := map_same _
theorem g_num (K : Rows) (p : Int32) : g_X9_numberOf K p = rNum K p := map_same _
theorem g_size (K : Rows) (p : Int32) : g_X9_sizeOf K p = rSize K p := map_same _
theorem g_free (K : Rows) (p : Int32) : g_X9_freeOf K p = rFree K p := map_same _
theorem g_head (K : Rows) (p : Int32) : g_X9_headOf K p = rHead K p := map_same _
theorem g_args (K : Rows) (p : Int32) : g_X9_argumentsOf K p = rArgs K p := map_same _
theorem g_mark (K : Rows) : g_X9_mark K = some K.1 := rfl
theorem g_leaf (K : Rows) (p q : Int32) : g_X9_leaf K p q = rLeaf K p q := map_pr _
theorem g_pair (K : Rows) (p q r : Int32) : g_X9_pair K p q r = rPair K p q r := map_pr _
theorem g_lift (K : Rows) (p q r : Int32) : g_X6_lift K p q r = rLift 200 K p q r := map_pr _
theorem g_put (K : Rows) (p q r : Int32) : g_X6_put K p q r = rPut 200 K p q r := map_pr _
theorem g_same (K : Rows) (p q : Int32) : g_X6_same K p q = rSame 200 K p q := map_same _
theorem g_meet (K : Rows) (p q : Int32) : g_X6_meet K p q = rMeet 200 K p q := map_same _
theorem g_holds (K : Rows) (p q : Int32) : g_X6_holds K p q = rHolds 200 K p q := map_same _
theorem g_release {K : Rows} {n mark : Nat} (hw : WF K n) (hm : mark ≤ n) : g_X9_release K (nz mark) = some (setM K mark) := by
  unfold g_X9_release
  rw [release_ok hw hm]
  rfl
theorem g_keep {K : Rows} {n mark i : Nat} {t : Tm} (F : FS) (hw : WF K n) (hm : mark ≤ n) (ht : Rep K n t i) : ∃ K' M F' j, g_X9_keep K F (nz mark) (nz i) = some (nz j, K', F') ∧ WF K' M ∧ mark ≤ M ∧ M ≤ mark + sizeT t ∧ Ext K K' mark ∧ Rep K' M t j ∧ (i < mark → M = mark ∧ j = i) := by
  obtain ⟨K', M, mv', j, e, h⟩ := rKeep_ok (mv := F.2.2) hw hm ht
  refine ⟨K', M, (F.1, F.2.1, mv'), j, ?_, h⟩
  show (rKeep K F.2.2 (nz mark) (nz i)).map _ = _
  rw [e]
  rfl
theorem g_keep_no {K : Rows} {n mark : Nat} (F : FS) (hw : WF K n) (hm : mark ≤ n) : g_X9_keep K F (nz mark) (-1) = some ((-1), setM K mark, F) := by
  show (rKeep K F.2.2 (nz mark) (-1)).map _ = _
  rw [rKeep_no hw hm]
  rfl
/-- the context around, the innermost type first -/
def UOK (K : Rows) (n : Nat) (U : US) (Γ : List Tm) : Prop := U.1 = nz Γ.length ∧ Γ.length ≤ 42 ∧ ∀ k T, Γ[k]? = some T → ∃ j, U.2 (Γ.length - 1 - k) = nz j ∧ Rep K n T j
theorem UOK_ext {K K' : Rows} {n n' : Nat} {U : US} {Γ : List Tm} (h : UOK K n U Γ) (hx : Ext K K' n) (hn : n ≤ n') : UOK K' n' U Γ := ⟨h.1, h.2.1, fun k T hk => by
  obtain ⟨j, h1, h2⟩ := h.2.2 k T hk
  exact ⟨j, h1, Rep_ext hx hn T j h2⟩⟩
theorem UOK_push {K : Rows} {n i : Nat} {U : US} {Γ : List Tm} {a : Tm} (h : UOK K n U Γ) (hl : Γ.length < 42) (ha : Rep K n a i) : ∃ U', g_X8_push U (nz i) = some (1, U') ∧ UOK K n U' (a :: Γ) := by
  obtain ⟨h1, h2, h3⟩ := h
  refine ⟨(nz (Γ.length + 1), upd U.2 Γ.length (nz i)), ?_, rfl, by rw [List.length_cons]; omega, ?_⟩
  · unfold g_X8_push f_X8_push
    rw [h1, if_pos (show nz Γ.length < Int32.ofNat 42 from (nz_lt (by omega) (by decide)).mpr hl), if_pos (nz_inb hl (by decide)), nz_nat (by omega), show nz Γ.length + 1 = nz (Γ.length + 1) from nz_add _ 1]
    rfl
  · intro k T hk
    rw [List.length_cons]
    cases k with
    | zero =>
      have e : a = T := by simpa using hk
      subst e
      exact ⟨i, if_pos (by omega), ha⟩
    | succ k =>
      have hk' : Γ[k]? = some T := by simpa using hk
      obtain ⟨j, q1, q2⟩ := h3 k T hk'
      have hlt : k < Γ.length := by
        rcases Nat.lt_or_ge k Γ.length with q | q
        · exact q
        · rw [List.getElem?_eq_none q] at hk'; cases hk'
      refine ⟨j, ?_, q2⟩
      show upd U.2 Γ.length (nz i) (Γ.length + 1 - 1 - (k + 1)) = nz j
      rw [show Γ.length + 1 - 1 - (k + 1) = Γ.length - 1 - k by omega]
      exact (if_neg (by omega)).trans q1
theorem UOK_pop {K : Rows} {n : Nat} {U : US} {Γ : List Tm} {a : Tm} (h : UOK K n U (a :: Γ)) : ∃ U', g_X8_pop U = some U' ∧ UOK K n U' Γ := by
  obtain ⟨h1, h2, h3⟩ := h
  rw [List.length_cons] at h1 h2
  refine ⟨(nz Γ.length, U.2), ?_, rfl, by omega, ?_⟩
  · unfold g_X8_pop f_X8_pop
    rw [h1, if_neg (fun hq : nz (Γ.length + 1) ≤ (0 : Int32) => absurd ((nz_le (j := 0) (by omega) (by decide)).mp hq) (by omega)), ← nz_add Γ.length 1, show nz Γ.length + nz 1 - 1 = nz Γ.length from Int32.add_sub_cancel _ _]
    rfl
  · intro k T hk
    obtain ⟨j, q1, q2⟩ := h3 (k + 1) T (by simpa using hk)
    refine ⟨j, ?_, q2⟩
    rw [List.length_cons, show Γ.length + 1 - 1 - (k + 1) = Γ.length - 1 - k by omega] at q1
    exact q1
theorem nz_sub {i j : Nat} (h : j ≤ i) : nz i - nz j = nz (i - j) := by
  rw [show nz i = nz (i - j) + nz j by rw [nz_add]; congr 1; omega]
  exact Int32.add_sub_cancel _ _
theorem nz_sub_toInt {i j : Nat} (hi : i < 1073741824) (hj : j < 1073741824) : (nz i - nz j).toInt = (i : Int) - (j : Int) := by
  rw [Int32.toInt_sub, nz_toInt (by omega), nz_toInt (by omega)]
  exact Int.bmod_eq_of_le (by omega) (by omega)
theorem UOK_at {K : Rows} {n k : Nat} {U : US} {Γ : List Tm} (h : UOK K n U Γ) (hk : k < 1000000) : (∃ T j, Γ[k]? = some T ∧ g_X8_typeAt U ((U.1 - 1) - nz k) = some (nz j) ∧ Rep K n T j) ∨ (Γ[k]? = none ∧ g_X8_typeAt U ((U.1 - 1) - nz k) = some (-1)) := by
  obtain ⟨h1, h2, h3⟩ := h
  by_cases hlt : k < Γ.length
  · left
    obtain ⟨j, q1, q2⟩ := h3 k Γ[k] (List.getElem?_eq_getElem hlt)
    refine ⟨Γ[k], j, List.getElem?_eq_getElem hlt, ?_, q2⟩
    have e : (U.1 - 1) - nz k = nz (Γ.length - 1 - k) := by
      rw [h1, show (1 : Int32) = nz 1 from rfl, nz_sub (by omega), nz_sub (by omega)]
    unfold g_X8_typeAt f_X8_typeAt
    rw [e, if_neg (nz_neg (by omega)), h1, if_neg (fun hq => absurd ((nz_le (by omega) (by omega)).mp hq) (by omega)), if_pos (nz_inb (by omega) (by decide)), nz_nat (by omega), q1]
    rfl
  · right
    refine ⟨List.getElem?_eq_none (by omega), ?_⟩
    have e : (U.1 - 1) - nz k < 0 := by
      rw [Int32.lt_iff_toInt_lt, h1, Int32.toInt_sub, show (1 : Int32) = nz 1 from rfl, nz_sub_toInt (by omega) (by omega), nz_toInt (by omega), Int.bmod_eq_of_le (by omega) (by omega), show (0 : Int32).toInt = 0 from rfl]
      omega
    unfold g_X8_typeAt f_X8_typeAt
    rw [if_pos e]
    rfl
theorem lift_none {K : Rows} {n d : Nat} {p : Int32} (hw : WF K n) : rLift (d + 1) K (-1) p (nz 0) = some ((-1), K) := by
  rw [rLift_step]
  have e : rFree K (-1) = some (-1) := by
    unfold rFree f_X9_freeOf
    rw [if_pos (by decide)]
  rw [e, Option.bind_some, if_pos (by decide)]
theorem kind_none (K : Rows) : rKind K (-1) = some (-1) := by
  unfold rKind f_X9_kindOf
  rw [if_pos (by decide)]
theorem first_none (K : Rows) : rFirst K (-1) = some (-1) := by
  unfold rFirst f_X9_firstOf
  rw [if_pos (by decide)]
theorem same_none (K : Rows) (p : Int32) (d : Nat) : rSame (d + 1) K (-1) p = some 0 := by
  rw [rSame_step, kind_none, Option.bind_some, if_pos rfl]
theorem tyT_free {tb : Nat → Option Tm} {B : Nat} (htb : ∀ m T, tb m = some T → freeT T ≤ B) : ∀ (t : Tm) (Γ : List Tm) (T : Tm), (∀ A ∈ Γ, freeT A ≤ B) → Γ.length + sizeT t ≤ 43 → freeT t + sizeT t ≤ B → tyT tb t Γ = some T → freeT T ≤ B + 43 := by
  have nfr : ∀ {o : Option Tm} {u : Tm}, o.bind nf = some u → ∃ A, o = some A ∧ freeT u ≤ freeT A := by
    intro o u h
    cases o with
    | none => cases h
    | some A => exact ⟨A, rfl, (nfT_some 21 A u h).2.2⟩
  have lf : ∀ (u : Tm) (d e : Nat), freeT (ren u (shift d e)) ≤ freeT u + d := by
    intro u
    refine tm_ind (P := fun u => ∀ d e, freeT (ren u (shift d e)) ≤ freeT u + d) ?_ ?_ ?_ ?_ ?_ u
    · intro k d e
      show shift d e k + 1 ≤ k + 1 + d
      unfold shift
      split <;> omega
    · intro t hc d e; rw [ren_c hc]; omega
    · intro a b ha hb d e
      show max (freeT (ren a (shift d e))) (freeT (ren b (upr (shift d e))) - 1) ≤ max (freeT a) (freeT b - 1) + d
      rw [upr_shift]
      have := ha d e
      have := hb d (e + 1)
      omega
    · intro a b ha hb d e
      show max (freeT (ren a (shift d e))) (freeT (ren b (upr (shift d e))) - 1) ≤ max (freeT a) (freeT b - 1) + d
      rw [upr_shift]
      have := ha d e
      have := hb d (e + 1)
      omega
    · intro a b ha hb d e
      show max (freeT (ren a (shift d e))) (freeT (ren b (shift d e))) ≤ max (freeT a) (freeT b) + d
      have := ha d e
      have := hb d e
      omega
  intro t
  induction t with
  | index k =>
    intro Γ T hΓ hl hf h
    have hz : sizeT (.index k : Tm) = 1 := rfl
    rw [hz] at hl
    have h' : (Γ[k]?).map (fun T => ren T (shift (k + 1) 0)) = some T := h
    cases hk : Γ[k]? with
    | none => rw [hk] at h'; cases h'
    | some A =>
      rw [hk] at h'
      have e : ren A (shift (k + 1) 0) = T := by injection h'
      have hlt : k < Γ.length := by
        rcases Nat.lt_or_ge k Γ.length with q | q
        · exact q
        · rw [List.getElem?_eq_none q] at hk; cases hk
      have hm : A ∈ Γ := List.mem_of_getElem? hk
      have := hΓ A hm
      have := lf A (k + 1) 0
      rw [← e]; omega
  | arg m =>
    intro Γ T hΓ hl hf h
    unfold tyT at h
    split at h
    · split at h
      · cases h
      · have e : Jvm.Term.arg (m + 8) = T := by injection h
        rw [← e]; exact Nat.zero_le _
    · split at h
      · have e : Jvm.Term.arg 0 = T := by injection h
        rw [← e]; exact Nat.zero_le _
      · split at h
        · cases h
        · have := htb m T h; omega
  | add a b iha ihb =>
    intro Γ T hΓ hl hf h
    have h' : (isUn ((tyT tb a Γ).bind nf)).bind (fun u => (isUn ((tyT tb b (a :: Γ)).bind nf)).bind (fun w => some (.arg (8 * max u w + 0)))) = some T := h
    cases hu : isUn ((tyT tb a Γ).bind nf) with
    | none => rw [hu] at h'; cases h'
    | some u =>
      cases hv : isUn ((tyT tb b (a :: Γ)).bind nf) with
      | none => rw [hu, hv] at h'; cases h'
      | some w =>
        rw [hu, hv] at h'
        have e : Jvm.Term.arg (8 * max u w + 0) = T := by injection h'
        rw [← e]; exact Nat.zero_le _
  | sub a b iha ihb =>
    intro Γ T hΓ hl hf h
    have hz : sizeT (.sub a b : Tm) = 1 + sizeT a + sizeT b := rfl
    have hz2 : freeT (.sub a b : Tm) = max (freeT a) (freeT b - 1) := rfl
    rw [hz] at hl hf
    rw [hz2] at hf
    have hpa := sizeT_pos a
    have h' : (isUn ((tyT tb a Γ).bind nf)).bind (fun _ => (tyT tb b (a :: Γ)).bind (fun B => capT (.add a B))) = some T := h
    cases hu : isUn ((tyT tb a Γ).bind nf) with
    | none => rw [hu] at h'; cases h'
    | some u =>
      cases hv : tyT tb b (a :: Γ) with
      | none => rw [hu, hv] at h'; cases h'
      | some A =>
        rw [hu, hv] at h'
        have h2 : capT (.add a A) = some T := h'
        unfold capT at h2
        split at h2
        · have e : Jvm.Term.add a A = T := by injection h2
          have q := ihb (a :: Γ) A (by
            intro X hX
            rcases List.mem_cons.mp hX with rfl | hX
            · omega
            · exact hΓ X hX) (by rw [List.length_cons]; omega) (by omega) hv
          rw [← e]
          show max (freeT a) (freeT A - 1) ≤ _
          omega
        · cases h2
  | mul a b iha ihb =>
    intro Γ T hΓ hl hf h
    have hz : sizeT (.mul a b : Tm) = 1 + sizeT a + sizeT b := rfl
    have hz2 : freeT (.mul a b : Tm) = max (freeT a) (freeT b) := rfl
    rw [hz] at hl hf
    rw [hz2] at hf
    have h' : (isPi ((tyT tb a Γ).bind nf)).bind (fun q => if (tyT tb b Γ).bind nf = some q.1 then capT (inst q.2 b) else none) = some T := h
    cases hu : (tyT tb a Γ).bind nf with
    | none => rw [hu] at h'; cases h'
    | some u =>
      obtain ⟨A, hA, hle⟩ := nfr hu
      have q := iha Γ A hΓ (by omega) (by omega) hA
      rw [hu] at h'
      cases u with
      | add C D =>
        have h2 : (if (tyT tb b Γ).bind nf = some C then capT (inst D b) else none) = some T := h'
        split at h2
        · unfold capT at h2
          split at h2
          · have e : inst D b = T := by injection h2
            have g := freeT_inst D b
            have hle' : max (freeT C) (freeT D - 1) ≤ freeT A := hle
            rw [← e]; omega
          · cases h2
        · cases h2
      | _ => cases h'
  | _ => intro Γ T _ _ _ h; cases h
