/-! the court's arrays and the court as trees -/
theorem va_up_at {α : Type} (f : Nat → α) (i : Nat) (v : α) : va_up f i v i = v := if_pos rfl
def setS (G : GG) (g0 s : Nat) (r : Tm) : GG := (qF G, qC G, qT G, qP G, up1 (qS G) g0 s, up1 (qR G) g0 r, qPl G, qCh G, qN G)
theorem court_set {A : SG} {B : FG} {G : GG} (h : CourtT A B G) {g0 s : Nat} {r : Tm} (hg : g0 < qN G) (hs : qS G g0 ≠ 1) (hs1 : s ≠ 1) (hf : s = 2 → (tyT (tbl A B) r (qC G g0)).bind nf = some (qT G g0) ∧ sizeT r ≤ 30 ∧ freeT r ≤ 1000) : CourtT A B (setS G g0 s r) := by
  obtain ⟨c1, c2, c3, c4, c5, c6⟩ := h
  have sm : GSame G (setS G g0 s r) (qN G) := fun g _ => ⟨rfl, rfl, rfl, rfl⟩
  have one : ∀ g, qS (setS G g0 s r) g = 1 ↔ qS G g = 1 := by
    intro g
    show up1 (qS G) g0 s g = 1 ↔ _
    by_cases e : g = g0
    · subst e; rw [up1_eq]; exact ⟨fun q => absurd q hs1, fun q => absurd q hs⟩
    · rw [up1_ne e]
  refine ⟨c1, c2, c3, ?_, ?_, c6⟩
  · intro g hgl
    refine GoalOK_same sm (Nat.le_refl _) hgl (Ex_refl _) (Nat.le_refl _) (fun _ _ => rfl) (c4 g hgl) ?_ ?_
    · intro q
      by_cases e : g = g0
      · subst e
        have q' : up1 (qS G) g s g = 2 := q
        rw [up1_eq] at q'
        have w := hf q'
        have er : qR (setS G g s r) g = r := up1_eq _ _ _
        unfold FillOK
        rw [er]
        exact w
      · have q' : up1 (qS G) g0 s g = 2 := q
        rw [up1_ne e] at q'
        have er : qR (setS G g0 s r) g = qR G g := up1_ne e
        unfold FillOK
        rw [er]
        exact (c4 g hgl).2.2.2.2.2.2.2.1 q'
    · intro q
      exact SplitOK_same sm (Nat.le_refl _) hgl rfl rfl ((c4 g hgl).2.2.2.2.2.2.2.2 ((one g).mp q))
  · intro g g' q1 q2 q3 q4
    rcases c5 g g' q1 q2 q3 (fun q => q4 ((one g').mpr q)) with w | w | ⟨w1, c, θ, w2, w3, w4⟩
    · exact Or.inl w
    · exact Or.inr (Or.inl w)
    · exact Or.inr (Or.inr ⟨(one g).mpr w1, c, θ, w2, w3, w4⟩)
def stW (s : Nat) : Int32 := if s = 0 then 111 else if s = 1 then 115 else 102
def GoalC (K : Rows) (n : Nat) (P : PS) (G : GG) (g : Nat) : Prop :=
  P.2.2.2.1 g = nz (qF G g) ∧ (∃ j, P.2.2.2.2.1 g = nz j ∧ Rep K n (qT G g) j) ∧ Ctx K n P g (qC G g) ∧ P.2.2.2.2.2.2.2.2.2.2.2.2.1 g = (qP G g).length ∧ (∀ (k : Nat) (p : Tm), (qP G g)[k]? = some p → ∃ j, P.2.2.2.2.2.2.2.2.2.2.2.2.2 g k = nz j ∧ Rep K n p j) ∧
  qS G g ≤ 2 ∧ P.2.2.2.2.2.1 g = stW (qS G g) ∧ (qS G g = 2 → ∃ j, P.2.2.2.2.2.2.1 g = nz j ∧ Rep K n (qR G g) j) ∧ (qS G g = 1 → P.2.2.2.2.2.2.2.1 g = nz (qPl G g) ∧ P.2.2.2.2.2.2.2.2.1 g = nz (qCh G g))
def SigC (K : Rows) (n : Nat) (S : SS) (A : SG) : Prop :=
  S.1 = nz (sDc A) ∧ S.2.1 = nz (sCc A) ∧ (∀ c, c < sCc A → S.2.2.2.1 c = nz (sOwn A c) ∧ S.2.2.2.2.1 c = nz (sPrt A c).length ∧ (∀ (k d : Nat), (sPrt A c)[k]? = some d → S.2.2.2.2.2.1 (3 * c + k) = nz d) ∧ S.2.2.2.2.2.2.2.1 c = nz (cntd A (sOwn A c) c) ∧ ∃ j, S.2.2.2.2.2.2.1 c = nz j ∧ Rep K n (conT A c) j) ∧
  ∀ d, d < sDc A → S.2.2.2.2.2.2.2.2 d = nz (cntd A d (sCc A))
def FunC (K : Rows) (n : Nat) (D : DS) (P : PS) (B : FG) : Prop :=
  D.1 = nz (fFc B) ∧ ∀ f, f < fFc B → (∃ j, P.1 f = nz j ∧ Rep K n (fTy B f) j) ∧ P.2.1 f = nz (fAr B f) ∧ P.2.2.1 f = nz (fFg B f)
def CourtC (K : Rows) (n : Nat) (S : SS) (D : DS) (P : PS) (A : SG) (B : FG) (G : GG) : Prop :=
  WF K n ∧ SigC K n S A ∧ FunC K n D P B ∧ D.2.1 = nz (qN G) ∧ ∀ g, g < qN G → GoalC K n P G g
theorem Ctx_ext {K K' : Rows} {n n' g : Nat} {P : PS} {Γ : List Tm} (h : Ctx K n P g Γ) (hx : Ext K K' n) (hn : n ≤ n') : Ctx K' n' P g Γ := ⟨Tel_ext h.1 hx hn, h.2⟩
theorem GoalC_ext {K K' : Rows} {n n' g : Nat} {P : PS} {G : GG} (h : GoalC K n P G g) (hx : Ext K K' n) (hn : n ≤ n') : GoalC K' n' P G g := by
  obtain ⟨h1, ⟨j, h2, h3⟩, h4, h5, h6, h7, h8, h9, h10⟩ := h
  refine ⟨h1, ⟨j, h2, Rep_ext hx hn _ j h3⟩, Ctx_ext h4 hx hn, h5, ?_, h7, h8, ?_, h10⟩
  · intro k p hp
    obtain ⟨j, q1, q2⟩ := h6 k p hp
    exact ⟨j, q1, Rep_ext hx hn p j q2⟩
  · intro hs
    obtain ⟨j, q1, q2⟩ := h9 hs
    exact ⟨j, q1, Rep_ext hx hn _ j q2⟩
theorem CourtC_ext {K K' : Rows} {n n' : Nat} {S : SS} {D : DS} {P : PS} {A : SG} {B : FG} {G : GG} (h : CourtC K n S D P A B G) (hw : WF K' n') (hx : Ext K K' n) (hn : n ≤ n') : CourtC K' n' S D P A B G := by
  obtain ⟨h1, ⟨a1, a2, a3, a4⟩, ⟨b1, b2⟩, h4, h5⟩ := h
  refine ⟨hw, ⟨a1, a2, ?_, a4⟩, ⟨b1, ?_⟩, h4, fun g hg => GoalC_ext (h5 g hg) hx hn⟩
  · intro c hc
    obtain ⟨q1, q2, q3, q4, j, q5, q6⟩ := a3 c hc
    exact ⟨q1, q2, q3, q4, j, q5, Rep_ext hx hn _ j q6⟩
  · intro f hf
    obtain ⟨⟨j, q1, q2⟩, q3, q4⟩ := b2 f hf
    exact ⟨⟨j, q1, Rep_ext hx hn _ j q2⟩, q3, q4⟩
theorem court_TB {K : Rows} {n : Nat} {S : SS} {D : DS} {P : PS} {A : SG} {B : FG} {G : GG} (h : CourtC K n S D P A B G) (ht : CourtT A B G) : TB K n S D P (tbl A B) := by
  obtain ⟨h1, ⟨a1, a2, a3, a4⟩, ⟨b1, b2⟩, h4, h5⟩ := h
  refine ⟨⟨sCc A, a2, ht.1.1, ?_, ?_⟩, ⟨fFc B, b1, ht.2.1.1, ?_, ?_⟩⟩
  · intro p hp
    obtain ⟨q1, q2, q3, q4, j, q5, q6⟩ := a3 p hp
    exact ⟨conT A p, j, tbl_con hp, q5, q6⟩
  · intro p hp
    unfold tbl
    rw [if_pos (by omega), if_neg (by omega)]
  · intro p hp
    obtain ⟨⟨j, q1, q2⟩, q3, q4⟩ := b2 p hp
    exact ⟨fTy B p, j, tbl_fun hp, q1, q2⟩
  · intro p hp
    unfold tbl
    rw [if_neg (by omega), if_pos (by omega), if_neg (by omega)]
/-- the nodes -/
def NodeC (K : Rows) (n : Nat) (N : NS) (nt : Nat → Tm) (m : Nat) : Prop := N.2.1 = nz m ∧ m ≤ 250 ∧ ∀ k, k < m → (∃ j, N.1 k = nz j ∧ Rep K n (nt k) j) ∧ sizeT (nt k) ≤ 30 ∧ freeT (nt k) ≤ 20
theorem NodeC_ext {K K' : Rows} {n n' m : Nat} {N : NS} {nt : Nat → Tm} (h : NodeC K n N nt m) (hx : Ext K K' n) (hn : n ≤ n') : NodeC K' n' N nt m := ⟨h.1, h.2.1, fun k hk => by
  obtain ⟨⟨j, q1, q2⟩, q3⟩ := h.2.2 k hk
  exact ⟨⟨j, q1, Rep_ext hx hn _ j q2⟩, q3⟩⟩
theorem termAt_ok {K : Rows} {n m k : Nat} {N : NS} {nt : Nat → Tm} (h : NodeC K n N nt m) (hk : k < 1000000) : (k < m → ∃ j, f_X11_termAt N (nz k) = some (0, nz j) ∧ Rep K n (nt k) j) ∧ (m ≤ k → f_X11_termAt N (nz k) = some (3, 0)) := by
  obtain ⟨h1, h2, h3⟩ := h
  unfold f_X11_termAt
  rw [if_neg (nz_neg (by omega)), h1]
  constructor
  · intro hlt
    obtain ⟨⟨j, q1, q2⟩, -⟩ := h3 k hlt
    exact ⟨j, by rw [if_pos ((nz_lt (by omega) (by omega)).mpr hlt), if_pos (nz_inb (by omega) (by decide)), nz_nat (by omega), q1], q2⟩
  · intro hge
    rw [if_neg (fun hq => absurd ((nz_lt (by omega) (by omega)).mp hq) (by omega))]
theorem ask_node {K : Rows} {n i : Nat} {S : SS} {D : DS} {P : PS} {A : SG} {B : FG} {G : GG} {t : Tm} (h : CourtC K n S D P A B G) (ht : CourtT A B G) (hr : Rep K n t i) (hz : sizeT t ≤ 30) (hf : freeT t ≤ 1000) (hn : n + 8100 ≤ 32768) : Ask K n S D P (tbl A B) [] t i :=
  ⟨h.1, hr, hz, hf, Nat.zero_le _, court_TB h ht, fun m T q => by rw [tbl_free ht.2.1 m T q]; omega, fun A hA => absurd hA (List.not_mem_nil), hn⟩
theorem ask_goal {K : Rows} {n i g : Nat} {S : SS} {D : DS} {P : PS} {A : SG} {B : FG} {G : GG} {t : Tm} (h : CourtC K n S D P A B G) (ht : CourtT A B G) (hg : g < qN G) (hr : Rep K n t i) (hz : sizeT t ≤ 30) (hf : freeT t ≤ 1000) (hn : n + 8100 ≤ 32768) : Ask K n S D P (tbl A B) (qC G g) t i := by
  obtain ⟨c1, c2, c3, c4, c5, c6⟩ := ht
  obtain ⟨a1, a2, a3, -⟩ := c4 g hg
  refine ⟨h.1, hr, hz, hf, a2, court_TB h ⟨c1, c2, c3, c4, c5, c6⟩, fun m T q => by rw [tbl_free c2 m T q]; omega, fun A hA => ?_, hn⟩
  obtain ⟨b1, b2, b3⟩ := a3 A hA
  exact ⟨by omega, b1⟩
theorem gix_at {D : DS} {gc g : Nat} (h : D.2.1 = nz gc) (hb : gc ≤ 40) (hg : g < gc) : gix D (nz g) = true := by
  unfold gix
  rw [h, nz_nat (by omega), nz_nat (by omega)]
  exact decide_eq_true ⟨nz_neg (by omega), hg⟩
theorem goal_at {D : DS} {gc g : Nat} (h : D.2.1 = nz gc) (hb : gc ≤ 40) (hg : g < 1000000) : f_X0_goal D (nz g) = some (if g < gc then nz g else -1) := by
  unfold f_X0_goal
  rw [if_neg (nz_neg (by omega)), h]
  by_cases hlt : g < gc
  · rw [if_neg (fun hq => absurd ((nz_le (by omega) (by omega)).mp hq) (by omega)), if_pos (gix_at h hb hlt), if_pos (nz_inb (by omega) (by decide)), if_pos hlt]
  · rw [if_pos ((nz_le (by omega) (by omega)).mpr (by omega)), if_neg hlt]
theorem goalAt_ok {D : DS} {gc g : Nat} (h : D.2.1 = nz gc) (hb : gc ≤ 40) (hg : g < 1000000) : f_X11_goalAt D (nz g) = some (if g < gc then (0, nz g) else (4, 0)) := by
  unfold f_X11_goalAt
  rw [goal_at h hb hg, Option.bind_some]
  by_cases hlt : g < gc
  · rw [if_pos hlt, if_neg (nz_neg (by omega)), if_pos (gix_at h hb hlt), if_pos hlt]
  · rw [if_neg hlt, if_pos (by decide), if_neg hlt]
theorem functionAt_ok {D : DS} {fc f : Nat} (h : D.1 = nz fc) (hb : fc ≤ 8) (hf : f < 1000000) : f_X11_functionAt D (nz f) = some (if f < fc then (0, nz f) else (4, 0)) := by
  unfold f_X11_functionAt
  rw [function_at h hb hf, Option.bind_some]
  by_cases hlt : f < fc
  · rw [if_pos hlt, if_neg (nz_neg (by omega)), if_pos (fix_at h hb hlt), if_pos hlt]
  · rw [if_neg hlt, if_pos (by decide), if_neg hlt]
/-- how many goals of a function are open -/
def opn (G : GG) (f : Nat) : Nat → Nat
  | 0 => 0
  | k + 1 => opn G f k + (if qF G k = f ∧ qS G k = 0 then 1 else 0)
theorem stW_open {s : Nat} : stW s = 111 ↔ s = 0 := by
  unfold stW
  by_cases h : s = 0
  · rw [if_pos h]; exact ⟨fun _ => h, fun _ => rfl⟩
  · rw [if_neg h]
    refine ⟨fun q => ?_, fun q => absurd q h⟩
    split at q <;> exact absurd q (by decide)
theorem opn_le (G : GG) (f : Nat) : ∀ k, opn G f k ≤ k := by
  intro k
  induction k with
  | zero => exact Nat.le_refl 0
  | succ k ih =>
    show opn G f k + (if qF G k = f ∧ qS G k = 0 then 1 else 0) ≤ k + 1
    split <;> omega
theorem open_loop {K : Rows} {n : Nat} {D : DS} {P : PS} {G : GG} {f : Nat} (hD : D.2.1 = nz (qN G)) (hb : qN G ≤ 40) (hf : f < 1000000) (hF : ∀ g, g < qN G → qF G g < 1000000) (hG : ∀ g, g < qN G → GoalC K n P G g) :
    ∀ (k fu i : Nat), i + k = qN G → k < fu → f_X0_openOnesOf_L4 fu D P (nz f) (nz (opn G f i)) (nz i) = some (nz (opn G f (qN G))) := by
  intro k
  induction k with
  | zero =>
    intro fu i hi hfu
    obtain ⟨fu, rfl⟩ : ∃ e, fu = e + 1 := ⟨fu - 1, by omega⟩
    obtain rfl : i = qN G := by omega
    unfold f_X0_openOnesOf_L4
    rw [hD, if_pos ((nz_le (by omega) (by omega)).mpr (Nat.le_refl _))]
  | succ k ih =>
    intro fu i hi hfu
    obtain ⟨fu, rfl⟩ : ∃ e, fu = e + 1 := ⟨fu - 1, by omega⟩
    obtain ⟨g1, g2, g3, g4, g5, g6, g7, -⟩ := hG i (by omega)
    have e : opn G f (i + 1) = opn G f i + (if qF G i = f ∧ qS G i = 0 then 1 else 0) := rfl
    have next := ih fu (i + 1) (by omega) (by omega)
    unfold f_X0_openOnesOf_L4
    rw [if_neg (by rw [hD]; exact fun hq => absurd ((nz_le (by omega) (by omega)).mp hq) (by omega)), goal_at hD hb (by omega), Option.bind_some, if_pos (show i < qN G by omega), if_neg (nz_neg (by omega)), if_pos (gix_at hD hb (by omega)), nz_nat (by omega), g1, g7, show nz i + 1 = nz (i + 1) from nz_add i 1]
    by_cases c1 : qF G i = f
    · rw [if_pos (by rw [c1])]
      by_cases c2 : qS G i = 0
      · rw [if_pos (stW_open.mpr c2), show nz (opn G f i) + 1 = nz (opn G f i + 1) from nz_add _ 1]
        rw [e, if_pos ⟨c1, c2⟩] at next
        exact next
      · rw [if_neg (fun q => c2 (stW_open.mp q))]
        rw [e, if_neg (fun q => c2 q.2), Nat.add_zero] at next
        exact next
    · rw [if_neg (nz_ne (by have := hF i (by omega); omega) (by omega) c1)]
      rw [e, if_neg (fun q => c1 q.1), Nat.add_zero] at next
      exact next
theorem open_ok {K : Rows} {n : Nat} {S : SS} {D : DS} {P : PS} {A : SG} {B : FG} {G : GG} {f : Nat} (h : CourtC K n S D P A B G) (ht : CourtT A B G) (hf : f < 1000000) : f_X0_openOnesOf D P (nz f) = some (nz (opn G f (qN G))) :=
  open_loop h.2.2.2.1 ht.2.2.1 hf (fun g hg => by have := (ht.2.2.2.1 g hg).1; have := ht.2.1.1; omega) h.2.2.2.2 (qN G) 100000 0 (by omega) (by have := ht.2.2.1; omega)
