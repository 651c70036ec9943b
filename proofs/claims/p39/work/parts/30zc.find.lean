/-- the types of constructors and functions, as rows -/
def TB (K : Rows) (n : Nat) (S : SS) (D : DS) (P : PS) (tb : Nat → Option Tm) : Prop :=
  (∃ cc, S.2.1 = nz cc ∧ cc ≤ 16 ∧ (∀ p, p < cc → ∃ T j, tb (8 * p + 3) = some T ∧ S.2.2.2.2.2.2.1 p = nz j ∧ Rep K n T j) ∧ ∀ p, cc ≤ p → tb (8 * p + 3) = none) ∧
  (∃ fc, D.1 = nz fc ∧ fc ≤ 8 ∧ (∀ p, p < fc → ∃ T j, tb (8 * p + 4) = some T ∧ P.1 p = nz j ∧ Rep K n T j) ∧ ∀ p, fc ≤ p → tb (8 * p + 4) = none)
theorem TB_ext {K K' : Rows} {n n' : Nat} {S : SS} {D : DS} {P : PS} {tb : Nat → Option Tm} (h : TB K n S D P tb) (hx : Ext K K' n) (hn : n ≤ n') : TB K' n' S D P tb := by
  obtain ⟨⟨cc, a1, a2, a3, a4⟩, ⟨fc, b1, b2, b3, b4⟩⟩ := h
  refine ⟨⟨cc, a1, a2, ?_, a4⟩, ⟨fc, b1, b2, ?_, b4⟩⟩
  · intro p hp
    obtain ⟨T, j, q1, q2, q3⟩ := a3 p hp
    exact ⟨T, j, q1, q2, Rep_ext hx hn T j q3⟩
  · intro p hp
    obtain ⟨T, j, q1, q2, q3⟩ := b3 p hp
    exact ⟨T, j, q1, q2, Rep_ext hx hn T j q3⟩
theorem con_at {K : Rows} {n p : Nat} {S : SS} {D : DS} {P : PS} {tb : Nat → Option Tm} (h : TB K n S D P tb) (hp : p < 1000000) : (∃ T j, tb (8 * p + 3) = some T ∧ g_X7_typeOfConstructor S (nz p) = some (nz j) ∧ Rep K n T j) ∨ (tb (8 * p + 3) = none ∧ g_X7_typeOfConstructor S (nz p) = some (-1)) := by
  obtain ⟨⟨cc, a1, a2, a3, a4⟩, -⟩ := h
  unfold g_X7_typeOfConstructor f_X7_typeOfConstructor f_X7_hasConstructor
  rw [a1, if_neg (nz_neg (by omega)), map_same]
  by_cases hlt : p < cc
  · obtain ⟨T, j, q1, q2, q3⟩ := a3 p hlt
    left
    refine ⟨T, j, q1, ?_, q3⟩
    rw [if_neg (fun hq => absurd ((nz_le (by omega) (by omega)).mp hq) (by omega)), Option.bind_some, if_neg (by decide), if_pos (nz_inb (by omega) (by decide)), nz_nat (by omega), q2]
  · right
    refine ⟨a4 p (by omega), ?_⟩
    rw [if_pos ((nz_le (by omega) (by omega)).mpr (by omega)), Option.bind_some, if_pos rfl]
theorem fix_at {D : DS} {fc p : Nat} (h : D.1 = nz fc) (hf : fc ≤ 8) (hp : p < fc) : fix D (nz p) = true := by
  unfold fix
  rw [h, nz_nat (by omega), nz_nat (by omega)]
  exact decide_eq_true ⟨nz_neg (by omega), hp⟩
theorem function_at {D : DS} {fc p : Nat} (h : D.1 = nz fc) (hf : fc ≤ 8) (hp : p < 1000000) : f_X0_function D (nz p) = some (if p < fc then nz p else -1) := by
  unfold f_X0_function
  rw [if_neg (nz_neg (by omega)), h]
  by_cases hlt : p < fc
  · rw [if_neg (fun hq => absurd ((nz_le (by omega) (by omega)).mp hq) (by omega)), if_pos (fix_at h hf hlt), if_pos (nz_inb (by omega) (by decide)), if_pos hlt]
  · rw [if_pos ((nz_le (by omega) (by omega)).mpr (by omega)), if_neg hlt]
theorem fun_at {K : Rows} {n p : Nat} {S : SS} {D : DS} {P : PS} {tb : Nat → Option Tm} (h : TB K n S D P tb) (hp : p < 1000000) : (∃ T j, tb (8 * p + 4) = some T ∧ f_X0_typeOfFunction D P (nz p) = some (nz j) ∧ Rep K n T j) ∨ (tb (8 * p + 4) = none ∧ f_X0_typeOfFunction D P (nz p) = some (-1)) := by
  obtain ⟨-, ⟨fc, b1, b2, b3, b4⟩⟩ := h
  unfold f_X0_typeOfFunction
  rw [function_at b1 b2 hp, Option.bind_some]
  by_cases hlt : p < fc
  · obtain ⟨T, j, q1, q2, q3⟩ := b3 p hlt
    left
    refine ⟨T, j, q1, ?_, q3⟩
    rw [if_pos hlt, if_neg (nz_neg (by omega)), if_pos (fix_at b1 b2 hlt), nz_nat (by omega), q2]
  · right
    refine ⟨b4 p (by omega), ?_⟩
    rw [if_neg hlt, if_pos (by decide)]
abbrev FiT : Type := TS → FS → US → SS → DS → PS → Int32 → Option (Int32 × TS × FS × US)
/-- the type, and its normal form -/
def FN (fi : FiT) (T : TS) (F : FS) (U : US) (S : SS) (D : DS) (P : PS) (p : Int32) : Option (Int32 × TS × FS × US) := (fi T F U S D P p).bind (fun q => (g_X1_formOf q.2.1 q.2.2.1 q.1).bind (fun z => some (z.1, z.2.1, z.2.2, q.2.2.2)))
theorem ofFunctions_step (fi : FiT) (T : TS) (F : FS) (U : US) (S : SS) (D : DS) (P : PS) (p1 : Int32) : f_X10_ofFunctions fi T F U S D P p1 = (rFirst T p1).bind (fun a => (FN fi T F U S D P a).bind (fun z => (rKind z.2.1 z.1).bind (fun k => if k = 0 then (g_X8_push z.2.2.2 a).bind (fun u => if u.1 = 0 then some ((-1), z.2.1, z.2.2.1, u.2) else
    (rSecond z.2.1 p1).bind (fun b => (FN fi z.2.1 z.2.2.1 u.2 S D P b).bind (fun y => (g_X8_pop y.2.2.2).bind (fun v => (rKind y.2.1 y.1).bind (fun k2 => if k2 = 0 then (rFirst y.2.1 z.1).bind (fun l1 => (rFirst y.2.1 y.1).bind (fun l2 => (rLeaf y.2.1 0 (if l1 < l2 then l2 else l1)).bind (fun w => some (w.1, w.2, y.2.2.1, v)))) else some ((-1), y.2.1, y.2.2.1, v)))))) else some ((-1), z.2.1, z.2.2.1, z.2.2.2)))) := by
  simp only [f_X10_ofFunctions, FN, Option.bind_assoc, Option.bind_some, g_first, g_second, g_kind, g_leaf]
theorem ofLambda_step (fi : FiT) (T : TS) (F : FS) (U : US) (S : SS) (D : DS) (P : PS) (p1 : Int32) : f_X10_ofLambda fi T F U S D P p1 = (rFirst T p1).bind (fun a => (FN fi T F U S D P a).bind (fun z => (rKind z.2.1 z.1).bind (fun k => if k = 0 then (g_X8_push z.2.2.2 a).bind (fun u => if u.1 = 0 then some ((-1), z.2.1, z.2.2.1, u.2) else
    (rSecond z.2.1 p1).bind (fun b => (fi z.2.1 z.2.2.1 u.2 S D P b).bind (fun y => (g_X8_pop y.2.2.2).bind (fun v => (rPair y.2.1 5 a y.1).bind (fun w => some (w.1, w.2, y.2.2.1, v)))))) else some ((-1), z.2.1, z.2.2.1, z.2.2.2)))) := by
  simp only [f_X10_ofLambda, FN, Option.bind_assoc, Option.bind_some, g_first, g_second, g_kind, g_pair]
theorem ofApplication_step (fi : FiT) (T : TS) (F : FS) (U : US) (S : SS) (D : DS) (P : PS) (p1 : Int32) : f_X10_ofApplication fi T F U S D P p1 = (rSecond T p1).bind (fun b => (rFirst T p1).bind (fun a => (FN fi T F U S D P a).bind (fun z => (rKind z.2.1 z.1).bind (fun k => if k = 5 then
    (FN fi z.2.1 z.2.2.1 z.2.2.2 S D P b).bind (fun y => (rFirst y.2.1 z.1).bind (fun c => (rSame 200 y.2.1 y.1 c).bind (fun e => (g_X9_release y.2.1 z.2.1.1).bind (fun r => if e = 0 then some ((-1), r, y.2.2.1, y.2.2.2) else (rSecond r z.1).bind (fun c => (rPut 200 r c b 0).bind (fun w => some (w.1, w.2, y.2.2.1, y.2.2.2))))))) else some ((-1), z.2.1, z.2.2.1, z.2.2.2))))) := by
  simp only [f_X10_ofApplication, FN, Option.bind_assoc, Option.bind_some, g_first, g_second, g_kind, g_same, g_put, g_mark]
theorem bind_four {α β γ δ : Type} (o : Option (α × β × γ × δ)) : o.bind (fun q => some (q.1, q.2.1, q.2.2.1, q.2.2.2)) = o := by cases o <;> rfl
theorem find_step (d : Nat) (T : TS) (F : FS) (U : US) (S : SS) (D : DS) (P : PS) (p1 : Int32) : f_X10_find (d + 1) T F U S D P p1 = (rFirst T p1).bind (fun a => (rKind T p1).bind (fun k => if k = 0 then (if 3 ≤ a then some ((-1), T, F, U) else (rLeaf T 0 (a + 1)).bind (fun w => some (w.1, w.2, F, U))) else if k = 1 then (g_X8_typeAt U ((U.1 - 1) - a)).bind (fun c => (rLift 200 T c (a + 1) 0).bind (fun w => some (w.1, w.2, F, U))) else
    if k = 2 then (rLeaf T 0 0).bind (fun w => some (w.1, w.2, F, U)) else if k = 3 then (g_X7_typeOfConstructor S a).bind (fun w => some (w, T, F, U)) else if k = 4 then (f_X0_typeOfFunction D P a).bind (fun w => some (w, T, F, U)) else if k = 5 then (f_X10_ofFunctions (f_X10_find d) T F U S D P p1) else if k = 6 then (f_X10_ofLambda (f_X10_find d) T F U S D P p1) else
    if k = 7 then (f_X10_ofApplication (f_X10_find d) T F U S D P p1) else some ((-1), T, F, U))) := by
  simp only [f_X10_find, g_first, g_kind, g_leaf, g_lift, bind_four]
/-- the same context around -/
def SameU (m : Nat) (U U' : US) : Prop := U'.1 = U.1 ∧ ∀ x, x < m → U'.2 x = U.2 x
theorem SameU_refl (m : Nat) (U : US) : SameU m U U := ⟨rfl, fun _ _ => rfl⟩
theorem SameU_trans {m : Nat} {U U' U'' : US} (h : SameU m U U') (h2 : SameU m U' U'') : SameU m U U'' := ⟨h2.1.trans h.1, fun x hx => (h2.2 x hx).trans (h.2 x hx)⟩
theorem UOK_same {K : Rows} {n : Nat} {U U' : US} {Γ : List Tm} (h : UOK K n U Γ) (h2 : SameU Γ.length U U') : UOK K n U' Γ := ⟨h2.1.trans h.1, h.2.1, fun k T hk => by
  obtain ⟨j, q1, q2⟩ := h.2.2 k T hk
  have hlt : k < Γ.length := by
    rcases Nat.lt_or_ge k Γ.length with q | q
    · exact q
    · rw [List.getElem?_eq_none q] at hk; cases hk
  exact ⟨j, (h2.2 _ (by omega)).trans q1, q2⟩⟩
theorem push_ok {K : Rows} {n i : Nat} {U : US} {Γ : List Tm} {a : Tm} (h : UOK K n U Γ) (hl : Γ.length < 42) (ha : Rep K n a i) : ∃ U', g_X8_push U (nz i) = some (1, U') ∧ UOK K n U' (a :: Γ) ∧ U'.1 = nz (Γ.length + 1) ∧ ∀ x, x < Γ.length → U'.2 x = U.2 x := by
  obtain ⟨U', e1, e2⟩ := UOK_push h hl ha
  have e3 := e1
  unfold g_X8_push f_X8_push at e3
  rw [h.1, if_pos (show nz Γ.length < Int32.ofNat 42 from (nz_lt (by omega) (by decide)).mpr hl), if_pos (nz_inb hl (by decide)), nz_nat (by omega), show nz Γ.length + 1 = nz (Γ.length + 1) from nz_add _ 1] at e3
  have e4 : (nz (Γ.length + 1), upd U.2 Γ.length (nz i)) = U' := by injection e3 with e3; injection e3
  refine ⟨U', e1, e2, by rw [← e4], fun x hx => ?_⟩
  rw [← e4]
  exact if_neg (by omega)
theorem pop_ok {U : US} {m : Nat} (h : U.1 = nz (m + 1)) (hm : m < 42) : g_X8_pop U = some (nz m, U.2) := by
  unfold g_X8_pop f_X8_pop
  rw [h, if_neg (fun hq : nz (m + 1) ≤ (0 : Int32) => absurd ((nz_le (j := 0) (by omega) (by decide)).mp hq) (by omega)), ← nz_add m 1, show nz m + nz 1 - 1 = nz m from Int32.add_sub_cancel _ _]
  rfl
def Found (o : Option (Int32 × TS × FS × US)) (K : Rows) (n : Nat) (U : US) (Γ : List Tm) (T : Option Tm) (s : Nat) : Prop :=
  (∀ A, T = some A → ∃ K' n' F' U' j, o = some (nz j, K', F', U') ∧ WF K' n' ∧ n ≤ n' ∧ n' + 101 ≤ n + 181 * s ∧ Ext K K' n ∧ Rep K' n' A j ∧ SameU Γ.length U U') ∧
  (T = none → ∃ K' n' F' U', o = some ((-1), K', F', U') ∧ WF K' n' ∧ n ≤ n' ∧ Ext K K' n)
def FoundN (o : Option (Int32 × TS × FS × US)) (K : Rows) (n : Nat) (U : US) (Γ : List Tm) (T : Option Tm) (s : Nat) : Prop :=
  (∀ A, T = some A → ∃ K' n' F' U' j, o = some (nz j, K', F', U') ∧ WF K' n' ∧ n ≤ n' ∧ n' + 101 ≤ n + 181 * s + sizeT A ∧ Ext K K' n ∧ Rep K' n' A j ∧ SameU Γ.length U U') ∧
  (T = none → ∃ K' n' F' U', o = some ((-1), K', F', U') ∧ WF K' n' ∧ n ≤ n' ∧ Ext K K' n)
theorem FN_ok {fi : FiT} {K : Rows} {n s : Nat} {F : FS} {U : US} {S : SS} {D : DS} {P : PS} {p : Int32} {Γ : List Tm} {T : Option Tm} (h : Found (fi K F U S D P p) K n U Γ T s) (hroom : n + 181 * s + 2500 ≤ 32768) (hfr : ∀ A, T = some A → freeT A ≤ 900000) :
    FoundN (FN fi K F U S D P p) K n U Γ (T.bind nf) s := by
  obtain ⟨h1, h2⟩ := h
  unfold FN
  cases T with
  | none =>
    obtain ⟨K', n', F', U', e1, e2, e3, e4⟩ := h2 rfl
    refine ⟨fun A hA => (by cases hA), fun _ => ⟨K', n', F', U', ?_, e2, e3, e4⟩⟩
    rw [e1, Option.bind_some]
    show (g_X1_formOf K' F' (-1)).bind _ = _
    rw [form_no e2, Option.bind_some]
  | some A =>
    obtain ⟨K', n', F', U', j, e1, e2, e3, e4, e5, e6, e7⟩ := h1 A rfl
    obtain ⟨g1, g2⟩ := form_ok e2 e6 (by omega) (hfr A rfl) F'
    have start : (fi K F U S D P p).bind (fun q => (g_X1_formOf q.2.1 q.2.2.1 q.1).bind (fun z => some (z.1, z.2.1, z.2.2, q.2.2.2))) = (g_X1_formOf K' F' (nz j)).bind (fun z => some (z.1, z.2.1, z.2.2, U')) := by
      rw [e1, Option.bind_some]
    rw [start]
    refine ⟨fun u hu => ?_, fun hu => ?_⟩
    · obtain ⟨K2, M, F2, j2, q1, q2, q3, q4, q5, q6, -⟩ := g1 u hu
      exact ⟨K2, M, F2, U', j2, by rw [q1, Option.bind_some], q2, by omega, by omega, Ext_trans e5 q5 e3, q6, e7⟩
    · obtain ⟨K2, F2, q1, q2, q3⟩ := g2 hu
      exact ⟨K2, n', F2, U', by rw [q1, Option.bind_some], q2, e3, Ext_trans e5 q3 e3⟩
theorem isUn_at {K : Rows} {n j : Nat} {u : Tm} (h : Rep K n u j) : isUn (some u) = if kdT u = 0 then some (prT u) else none := by
  cases u with
  | arg m => rfl
  | _ => first | rfl | exact h.elim
theorem isPi_at {K : Rows} {n j : Nat} {u : Tm} (h : Rep K n u j) : (kdT u = 5 → ∃ a b, u = .add a b) ∧ (kdT u ≠ 5 → isPi (some u) = none) := by
  cases u with
  | arg m => exact ⟨fun q => absurd (show m % 8 = 5 from q) (by have := h.2.2.1.1; omega), fun _ => rfl⟩
  | add a b => exact ⟨fun _ => ⟨a, b, rfl⟩, fun q => absurd rfl q⟩
  | index k => exact ⟨fun q => absurd q (by decide : ¬ 1 = 5), fun _ => rfl⟩
  | sub a b => exact ⟨fun q => absurd q (by decide : ¬ 6 = 5), fun _ => rfl⟩
  | mul a b => exact ⟨fun q => absurd q (by decide : ¬ 7 = 5), fun _ => rfl⟩
  | _ => exact h.elim
theorem pop_any (U : US) : ∃ U', g_X8_pop U = some U' := by
  unfold g_X8_pop f_X8_pop
  split
  · exact ⟨_, rfl⟩
  · exact ⟨_, rfl⟩
