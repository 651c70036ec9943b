/-! the four questions about types -/
/-- a row of types in an array, the innermost first -/
def Tel (K : Rows) (n : Nat) (m : Int32) (f : Nat → Int32) (Γ : List Tm) : Prop := m = nz Γ.length ∧ ∀ k T, Γ[k]? = some T → ∃ j, f (Γ.length - 1 - k) = nz j ∧ Rep K n T j
theorem Tel_ext {K K' : Rows} {n n' : Nat} {m : Int32} {f : Nat → Int32} {Γ : List Tm} (h : Tel K n m f Γ) (hx : Ext K K' n) (hn : n ≤ n') : Tel K' n' m f Γ := ⟨h.1, fun k T hk => by
  obtain ⟨j, h1, h2⟩ := h.2 k T hk
  exact ⟨j, h1, Rep_ext hx hn T j h2⟩⟩
theorem become_loop {m un : Nat} {uf : Nat → Int32} (hm : m ≤ 42) (hun : m ≤ un) : ∀ (k f i : Nat) (tf : Nat → Int32), i + k = m → k < f → (∀ x, x < i → tf x = uf x) → ∃ tf', f_X8_become_L7 42 un f (nz i) tf (nz m) uf (nz i) = some (nz m, tf', nz m, uf) ∧ ∀ x, x < m → tf' x = uf x := by
  intro k
  induction k with
  | zero =>
    intro f i tf hi hf h
    obtain ⟨f, rfl⟩ : ∃ e, f = e + 1 := ⟨f - 1, by omega⟩
    obtain rfl : i = m := by omega
    unfold f_X8_become_L7
    rw [if_pos ((nz_le (by omega) (by omega)).mpr (Nat.le_refl _))]
    exact ⟨tf, rfl, h⟩
  | succ k ih =>
    intro f i tf hi hf h
    obtain ⟨f, rfl⟩ : ∃ e, f = e + 1 := ⟨f - 1, by omega⟩
    unfold f_X8_become_L7
    by_cases hunb : un < 2147483648
    · rw [if_neg (fun hq => absurd ((nz_le (by omega) (by omega)).mp hq) (by omega)), if_pos (nz_inb (by omega) hunb)]
      unfold f_X8_push
      rw [if_pos (show nz i < Int32.ofNat 42 from (nz_lt (by omega) (by decide)).mpr (by omega)), if_pos (nz_inb (by omega) (by decide)), nz_nat (by omega), show nz i + 1 = nz (i + 1) from nz_add i 1, Option.bind_some]
      refine ih f (i + 1) (upd tf i (uf i)) (by omega) (by omega) ?_
      intro x hx
      by_cases q : x = i
      · rw [q]; exact if_pos rfl
      · exact (if_neg q).trans (h x (by omega))
    · have e : inb (nz i) un = true := by
        unfold inb
        rw [nz_toInt (by omega)]
        exact decide_eq_true (by omega)
      rw [if_neg (fun hq => absurd ((nz_le (by omega) (by omega)).mp hq) (by omega)), if_pos e]
      unfold f_X8_push
      rw [if_pos (show nz i < Int32.ofNat 42 from (nz_lt (by omega) (by decide)).mpr (by omega)), if_pos (nz_inb (by omega) (by decide)), nz_nat (by omega), show nz i + 1 = nz (i + 1) from nz_add i 1, Option.bind_some]
      refine ih f (i + 1) (upd tf i (uf i)) (by omega) (by omega) ?_
      intro x hx
      by_cases q : x = i
      · rw [q]; exact if_pos rfl
      · exact (if_neg q).trans (h x (by omega))
theorem become_n_ok (K : Rows) (n : Nat) (U : US) : ∃ U', g_X8_become_n U = some U' ∧ UOK K n U' [] := by
  obtain ⟨tf', e, -⟩ := become_loop (m := 0) (un := 0) (uf := fun _ => 0) (by omega) (by omega) 0 100000 0 U.2 (by omega) (by omega) (fun x h => absurd h (by omega))
  refine ⟨(nz 0, tf'), ?_, rfl, Nat.zero_le _, fun k T h => by simp at h⟩
  unfold g_X8_become_n f_X8_become
  have e' : f_X8_become_L7 42 0 100000 0 U.2 0 (fun _ => 0) 0 = some (nz 0, tf', nz 0, fun _ => 0) := e
  rw [e']
  rfl
/-- the context of a goal -/
def Ctx (K : Rows) (n : Nat) (P : PS) (g : Nat) (Γ : List Tm) : Prop := Tel K n (P.2.2.2.2.2.2.2.2.2.2.1 g) (P.2.2.2.2.2.2.2.2.2.2.2.1 g) Γ ∧ Γ.length ≤ P.2.2.2.2.2.2.2.2.2.1 g ∧ Γ.length ≤ 12
theorem become_g_ok {K : Rows} {n g : Nat} {P : PS} {Γ : List Tm} (h : Ctx K n P g Γ) (hg : g < 2147483648) (U : US) : ∃ U', g_X8_become_g U P (nz g) = some U' ∧ UOK K n U' Γ := by
  obtain ⟨⟨h1, h2⟩, h3, h4⟩ := h
  obtain ⟨tf', e, e2⟩ := become_loop (m := Γ.length) (un := P.2.2.2.2.2.2.2.2.2.1 g) (uf := P.2.2.2.2.2.2.2.2.2.2.2.1 g) (by omega) h3 Γ.length 100000 0 U.2 (by omega) (by omega) (fun x h => absurd h (by omega))
  refine ⟨(nz Γ.length, tf'), ?_, rfl, by omega, ?_⟩
  · unfold g_X8_become_g f_X8_become
    rw [nz_nat hg, h1]
    have e' : f_X8_become_L7 42 (P.2.2.2.2.2.2.2.2.2.1 g) 100000 0 U.2 (nz Γ.length) (P.2.2.2.2.2.2.2.2.2.2.2.1 g) 0 = some (nz Γ.length, tf', nz Γ.length, P.2.2.2.2.2.2.2.2.2.2.2.1 g) := e
    rw [e']
    rfl
  · intro k T hk
    have hlt : k < Γ.length := by
      rcases Nat.lt_or_ge k Γ.length with q | q
      · exact q
      · rw [List.getElem?_eq_none q] at hk; cases hk
    obtain ⟨j, q1, q2⟩ := h2 k T hk
    exact ⟨j, (e2 _ (by omega)).trans q1, q2⟩
/-- what find is asked with -/
def Ask (K : Rows) (n : Nat) (S : SS) (D : DS) (P : PS) (tb : Nat → Option Tm) (Γ : List Tm) (t : Tm) (i : Nat) : Prop :=
  WF K n ∧ Rep K n t i ∧ sizeT t ≤ 30 ∧ freeT t ≤ 1000 ∧ Γ.length ≤ 12 ∧ TB K n S D P tb ∧ (∀ m T, tb m = some T → freeT T ≤ 2000) ∧ (∀ A ∈ Γ, freeT A ≤ 2000 ∧ sizeT A ≤ 80) ∧ n + 8100 ≤ 32768
theorem ask_ok {K : Rows} {n i : Nat} {S : SS} {D : DS} {P : PS} {tb : Nat → Option Tm} {Γ : List Tm} {t : Tm} {U : US} (h : Ask K n S D P tb Γ t i) (hu : UOK K n U Γ) (F : FS) : FoundN (FN (f_X10_find 40) K F U S D P (nz i)) K n U Γ ((tyT tb t Γ).bind nf) (sizeT t) := by
  obtain ⟨h1, h2, h3, h4, h5, h6, h7, h8, h9⟩ := h
  refine FN_ok (find_ok (B := 2000) (by decide) h7 t 40 K n F U Γ i (by omega) h1 h2 hu (by omega) h6 h8 (by omega) (by omega)) (by omega) (fun A hA => ?_)
  have := tyT_free h7 t Γ A (fun X hX => (h8 X hX).1) (by omega) (by omega) hA
  omega
theorem levelOf_step (T : TS) (F : FS) (U : US) (S : SS) (D : DS) (P : PS) (p1 : Int32) : f_X10_levelOf T F U S D P p1 = (g_X8_become_n U).bind (fun u => (FN (f_X10_find 40) T F u S D P p1).bind (fun z => (rKind z.2.1 z.1).bind (fun k => if k = 0 then (rFirst z.2.1 z.1).bind (fun l => (g_X9_release z.2.1 T.1).bind (fun r => some (l, r, z.2.2.1, z.2.2.2))) else (g_X9_release z.2.1 T.1).bind (fun r => some ((-1), r, z.2.2.1, z.2.2.2))))) := by
  simp only [f_X10_levelOf, FN, Option.bind_assoc, Option.bind_some, g_first, g_kind, g_mark]
theorem isOfData_step (T : TS) (F : FS) (U : US) (S : SS) (D : DS) (P : PS) (p1 : Int32) : f_X10_isOfData T F U S D P p1 = (g_X8_become_n U).bind (fun u => (FN (f_X10_find 40) T F u S D P p1).bind (fun z => (rKind z.2.1 z.1).bind (fun k => (g_X9_release z.2.1 T.1).bind (fun r => if k = 2 then some (1, r, z.2.2.1, z.2.2.2) else some (0, r, z.2.2.1, z.2.2.2))))) := by
  simp only [f_X10_isOfData, FN, Option.bind_assoc, Option.bind_some, g_first, g_kind, g_mark]
theorem fits_step (T : TS) (F : FS) (U : US) (S : SS) (D : DS) (P : PS) (p1 p2 p3 : Int32) : f_X10_fits T F U S D P p1 p2 p3 = (g_X8_become_g U P p1).bind (fun u => (FN (f_X10_find 40) T F u S D P p2).bind (fun z => (rSame 200 z.2.1 z.1 p3).bind (fun k => (g_X9_release z.2.1 T.1).bind (fun r => if inb k 2 = true then some (k, r, z.2.2.1, z.2.2.2) else none)))) := by
  simp only [f_X10_fits, FN, Option.bind_assoc, Option.bind_some, g_same, g_mark]
theorem tformOf_step (T : TS) (F : FS) (U : US) (S : SS) (D : DS) (P : PS) (p1 : Int32) : f_X10_formOf T F U S D P p1 = (g_X8_become_n U).bind (fun u => (FN (f_X10_find 40) T F u S D P p1).bind (fun z => (g_X9_keep z.2.1 z.2.2.1 T.1 z.1).bind (fun y => some (y.1, y.2.1, y.2.2, z.2.2.2)))) := by
  simp only [f_X10_formOf, FN, Option.bind_assoc, Option.bind_some, g_mark]
theorem level_ok {K : Rows} {n i : Nat} {S : SS} {D : DS} {P : PS} {tb : Nat → Option Tm} {t : Tm} (h : Ask K n S D P tb [] t i) (F : FS) (U : US) :
    ∃ K' F' U', f_X10_levelOf K F U S D P (nz i) = some ((match isUn ((tyT tb t []).bind nf) with | some l => nz l | none => -1), K', F', U') ∧ WF K' n ∧ Ext K K' n := by
  obtain ⟨U1, u1, u2⟩ := become_n_ok K n U
  obtain ⟨A1, A2⟩ := ask_ok h u2 F
  have hw := h.1
  rw [levelOf_step, u1, Option.bind_some, hw.1]
  cases hA : (tyT tb t []).bind nf with
  | none =>
    obtain ⟨K1, n1, F1, U1, e1, e2, e3, e4⟩ := A2 hA
    refine ⟨setM K1 n, F1, U1, ?_, WF_cut e2 e3, Ext_trans e4 (Ext_setM K1 n n) (Nat.le_refl _)⟩
    rw [e1, Option.bind_some]
    show (rKind K1 (-1)).bind _ = _
    rw [kind_none, Option.bind_some, if_neg (by decide)]
    show (g_X9_release K1 (nz n)).bind _ = _
    rw [g_release e2 e3]
    rfl
  | some u =>
    obtain ⟨K1, n1, F1, U1, j1, e1, e2, e3, e4, e5, e6, e7⟩ := A1 u hA
    have hj1 := Rep_lt e6
    have hn1 := e2.2.1
    have hk8 : kdT u < 8 := by rcases (Rep_view e6).2 with v | v <;> omega
    refine ⟨setM K1 n, F1, U1, ?_, WF_cut e2 e3, Ext_trans e5 (Ext_setM K1 n n) (Nat.le_refl _)⟩
    rw [e1, Option.bind_some]
    show (rKind K1 (nz j1)).bind _ = _
    rw [rKind_at e2 hj1, Option.bind_some, (Rep_view e6).1, isUn_at e6]
    by_cases hk : kdT u = 0
    · have fu : K1.2.2.1 j1 = nz (prT u) := by rcases (Rep_view e6).2 with v | v; exact v.2.2.1; omega
      rw [hk, if_pos (show nz 0 = 0 from rfl)]
      show (rFirst K1 (nz j1)).bind _ = _
      rw [rFirst_at e2 hj1, Option.bind_some, fu]
      show (g_X9_release K1 (nz n)).bind _ = _
      rw [g_release e2 e3]
      rfl
    · rw [if_neg (show ¬ nz (kdT u) = (0 : Int32) from nz_ne (c := 0) (by omega) (by decide) hk), if_neg hk]
      show (g_X9_release K1 (nz n)).bind _ = _
      rw [g_release e2 e3]
      rfl
def isDa : Option Tm → Bool
  | some (.arg m) => m % 8 == 2
  | _ => false
theorem isOfData_ok {K : Rows} {n i : Nat} {S : SS} {D : DS} {P : PS} {tb : Nat → Option Tm} {t : Tm} (h : Ask K n S D P tb [] t i) (F : FS) (U : US) :
    ∃ K' F' U', f_X10_isOfData K F U S D P (nz i) = some ((if isDa ((tyT tb t []).bind nf) = true then 1 else 0), K', F', U') ∧ WF K' n ∧ Ext K K' n := by
  obtain ⟨U1, u1, u2⟩ := become_n_ok K n U
  obtain ⟨A1, A2⟩ := ask_ok h u2 F
  have hw := h.1
  rw [isOfData_step, u1, Option.bind_some, hw.1]
  cases hA : (tyT tb t []).bind nf with
  | none =>
    obtain ⟨K1, n1, F1, U1, e1, e2, e3, e4⟩ := A2 hA
    refine ⟨setM K1 n, F1, U1, ?_, WF_cut e2 e3, Ext_trans e4 (Ext_setM K1 n n) (Nat.le_refl _)⟩
    rw [e1, Option.bind_some]
    show (rKind K1 (-1)).bind _ = _
    rw [kind_none, Option.bind_some]
    show (g_X9_release K1 (nz n)).bind _ = _
    rw [g_release e2 e3, Option.bind_some, if_neg (by decide)]
    rfl
  | some u =>
    obtain ⟨K1, n1, F1, U1, j1, e1, e2, e3, e4, e5, e6, e7⟩ := A1 u hA
    have hj1 := Rep_lt e6
    have hn1 := e2.2.1
    have hk8 : kdT u < 8 := by rcases (Rep_view e6).2 with v | v <;> omega
    refine ⟨setM K1 n, F1, U1, ?_, WF_cut e2 e3, Ext_trans e5 (Ext_setM K1 n n) (Nat.le_refl _)⟩
    rw [e1, Option.bind_some]
    show (rKind K1 (nz j1)).bind _ = _
    rw [rKind_at e2 hj1, Option.bind_some, (Rep_view e6).1]
    show (g_X9_release K1 (nz n)).bind _ = _
    rw [g_release e2 e3, Option.bind_some]
    have hd : isDa (some u) = true ↔ kdT u = 2 := by
      cases u with
      | arg m => show (m % 8 == 2) = true ↔ m % 8 = 2; simp
      | index k => exact ⟨fun q => (by cases q), fun q => absurd q (by decide : ¬ 1 = 2)⟩
      | add a b => exact ⟨fun q => (by cases q), fun q => absurd q (by decide : ¬ 5 = 2)⟩
      | sub a b => exact ⟨fun q => (by cases q), fun q => absurd q (by decide : ¬ 6 = 2)⟩
      | mul a b => exact ⟨fun q => (by cases q), fun q => absurd q (by decide : ¬ 7 = 2)⟩
      | _ => exact e6.elim
    by_cases hk : kdT u = 2
    · rw [hk, if_pos (show nz 2 = 2 from rfl), if_pos (hd.mpr hk)]
    · rw [if_neg (show ¬ nz (kdT u) = (2 : Int32) from nz_ne (c := 2) (by omega) (by decide) hk), if_neg (fun q => hk (hd.mp q))]
theorem fits_ok {K : Rows} {n i g jt : Nat} {S : SS} {D : DS} {P : PS} {tb : Nat → Option Tm} {t A : Tm} {Γ : List Tm} (h : Ask K n S D P tb Γ t i) (hc : Ctx K n P g Γ) (hg : g < 2147483648) (hA0 : Rep K n A jt) (F : FS) (U : US) :
    ∃ K' F' U' r, f_X10_fits K F U S D P (nz g) (nz i) (nz jt) = some (r, K', F', U') ∧ WF K' n ∧ Ext K K' n ∧ ((tyT tb t Γ).bind nf = some A → r = 1) ∧ ((tyT tb t Γ).bind nf ≠ some A → r = 0) := by
  obtain ⟨U1, u1, u2⟩ := become_g_ok hc hg U
  obtain ⟨A1, A2⟩ := ask_ok h u2 F
  have hw := h.1
  rw [fits_step, u1, Option.bind_some, hw.1]
  cases hA : (tyT tb t Γ).bind nf with
  | none =>
    obtain ⟨K1, n1, F1, U1, e1, e2, e3, e4⟩ := A2 hA
    refine ⟨setM K1 n, F1, U1, 0, ?_, WF_cut e2 e3, Ext_trans e4 (Ext_setM K1 n n) (Nat.le_refl _), fun q => (by cases q), fun _ => rfl⟩
    rw [e1, Option.bind_some]
    show (rSame 200 K1 (-1) (nz jt)).bind _ = _
    rw [same_none K1 (nz jt) 199, Option.bind_some]
    show (g_X9_release K1 (nz n)).bind _ = _
    rw [g_release e2 e3, Option.bind_some, if_pos (by decide)]
  | some u =>
    obtain ⟨K1, n1, F1, U1, j1, e1, e2, e3, e4, e5, e6, e7⟩ := A1 u hA
    obtain ⟨s1, s2⟩ := rSame_yes e2 200 u A j1 jt (Rep_size u j1 e6) e6 (Rep_ext e5 e3 A jt hA0)
    have go : ∀ r, inb r 2 = true → rSame 200 K1 (nz j1) (nz jt) = some r → ∀ o : Option (Int32 × TS × FS × US), o = some (nz j1, K1, F1, U1) → (o.bind (fun z => (rSame 200 z.2.1 z.1 (nz jt)).bind (fun k => (g_X9_release z.2.1 (nz n)).bind (fun r => if inb k 2 = true then some (k, r, z.2.2.1, z.2.2.2) else none)))) = some (r, setM K1 n, F1, U1) := by
      intro r hr hs o ho
      rw [ho, Option.bind_some]
      show (rSame 200 K1 (nz j1) (nz jt)).bind _ = _
      rw [hs, Option.bind_some]
      show (g_X9_release K1 (nz n)).bind _ = _
      rw [g_release e2 e3, Option.bind_some, if_pos hr]
    by_cases hu : u = A
    · exact ⟨setM K1 n, F1, U1, 1, go 1 (by decide) (s1 hu) _ e1, WF_cut e2 e3, Ext_trans e5 (Ext_setM K1 n n) (Nat.le_refl _), fun _ => rfl, fun q => absurd (by rw [hu]) q⟩
    · exact ⟨setM K1 n, F1, U1, 0, go 0 (by decide) (s2 hu) _ e1, WF_cut e2 e3, Ext_trans e5 (Ext_setM K1 n n) (Nat.le_refl _), fun q => absurd (by injection q) hu, fun _ => rfl⟩
theorem tform_ok {K : Rows} {n i : Nat} {S : SS} {D : DS} {P : PS} {tb : Nat → Option Tm} {t : Tm} (h : Ask K n S D P tb [] t i) (F : FS) (U : US) :
    (∀ u, (tyT tb t []).bind nf = some u → ∃ K' M F' U' j, f_X10_formOf K F U S D P (nz i) = some (nz j, K', F', U') ∧ WF K' M ∧ n ≤ M ∧ M ≤ n + sizeT u ∧ Ext K K' n ∧ Rep K' M u j) ∧
    ((tyT tb t []).bind nf = none → ∃ K' F' U', f_X10_formOf K F U S D P (nz i) = some ((-1), K', F', U') ∧ WF K' n ∧ Ext K K' n) := by
  obtain ⟨U1, u1, u2⟩ := become_n_ok K n U
  obtain ⟨A1, A2⟩ := ask_ok h u2 F
  have hw := h.1
  rw [tformOf_step, u1, Option.bind_some, hw.1]
  refine ⟨fun u hA => ?_, fun hA => ?_⟩
  · obtain ⟨K1, n1, F1, U1, j1, e1, e2, e3, e4, e5, e6, e7⟩ := A1 u hA
    obtain ⟨K2, M, F2, j2, g1, g2, g3, g4, g5, g6, -⟩ := g_keep F1 e2 e3 e6
    refine ⟨K2, M, F2, U1, j2, ?_, g2, g3, g4, Ext_trans e5 g5 (Nat.le_refl _), g6⟩
    rw [e1, Option.bind_some]
    show (g_X9_keep K1 F1 (nz n) (nz j1)).bind _ = _
    rw [g1, Option.bind_some]
  · obtain ⟨K1, n1, F1, U1, e1, e2, e3, e4⟩ := A2 hA
    refine ⟨setM K1 n, F1, U1, ?_, WF_cut e2 e3, Ext_trans e4 (Ext_setM K1 n n) (Nat.le_refl _)⟩
    rw [e1, Option.bind_some]
    show (g_X9_keep K1 F1 (nz n) (-1)).bind _ = _
    rw [g_keep_no F1 e2 e3, Option.bind_some]
