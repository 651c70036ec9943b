/-! fill, reopen, auto -/
theorem calls_at {K : Rows} {n i : Nat} {t : Tm} (hw : WF K n) (hr : Rep K n t i) : g_X9_callsOf K (nz i) = some (callsT t) := by
  have hi := Rep_lt hr
  have hn := hw.2.1
  unfold g_X9_callsOf f_X9_callsOf
  rw [map_same, if_neg (nz_neg (by omega)), hw.1, if_neg (fun hq => absurd ((nz_le (by omega) (by omega)).mp hq) (by omega)), if_pos (nz_inb (by omega) (by decide)), nz_nat (by omega), (Rep_calls_loose hr).2.2.2.1]
/-- the goal's arrays after it is filled or opened -/
def stP (P : PS) (g : Nat) (s r : Int32) : PS := (P.1, P.2.1, P.2.2.1, P.2.2.2.1, P.2.2.2.2.1, va_up P.2.2.2.2.2.1 g s, va_up P.2.2.2.2.2.2.1 g r, P.2.2.2.2.2.2.2.1, P.2.2.2.2.2.2.2.2.1, P.2.2.2.2.2.2.2.2.2.1, P.2.2.2.2.2.2.2.2.2.2.1, P.2.2.2.2.2.2.2.2.2.2.2.1, P.2.2.2.2.2.2.2.2.2.2.2.2.1, P.2.2.2.2.2.2.2.2.2.2.2.2.2)
theorem fillWith_ok {P : PS} {g : Nat} (hg : g < 1000000) (r : Int32) : g_X3_fillWith P (nz g) r = some (stP P g 102 r) := by
  unfold g_X3_fillWith f_X3_fillWith
  rw [nz_nat (by omega)]
  rfl
theorem open_P_ok {P : PS} {g : Nat} (hg : g < 1000000) : g_X3_open P (nz g) = some (stP P g 111 (-1)) := by
  unfold g_X3_open f_X3_open
  rw [nz_nat (by omega)]
  rfl
theorem CourtC_set {K : Rows} {n g s : Nat} {S : SS} {D : DS} {P : PS} {A : SG} {B : FG} {G : GG} {r : Tm} {x : Int32} (h : CourtC K n S D P A B G) (hg : g < qN G) (hs2 : s ≤ 2) (hs : qS G g ≠ 1) (hs1 : s ≠ 1) (hr : s = 2 → ∃ j, x = nz j ∧ Rep K n r j) : CourtC K n S D (stP P g (stW s) x) A B (setS G g s r) := by
  obtain ⟨c1, c2, c3, c4, c5⟩ := h
  refine ⟨c1, c2, c3, c4, ?_⟩
  intro g' hg'
  have hg2 : g' < qN G := hg'
  obtain ⟨y1, y2, y3, y4, y5, y6, y7, y8, y9⟩ := c5 g' hg2
  by_cases e : g' = g
  · subst e
    have e1 : qS (setS G g' s r) g' = s := up1_eq _ _ _
    have e2 : qR (setS G g' s r) g' = r := up1_eq _ _ _
    refine ⟨y1, y2, y3, y4, y5, by rw [e1]; exact hs2, by rw [e1]; exact vu_at _ _ _, ?_, fun q => absurd (e1.symm.trans q) hs1⟩
    intro q
    rw [e1] at q
    rw [e2]
    obtain ⟨j, j1, j2⟩ := hr q
    exact ⟨j, (vu_at _ _ _).trans j1, j2⟩
  · refine GoalC_same (P := P) (G := G) ⟨y1, y2, y3, y4, y5, y6, y7, y8, y9⟩ ?_ ⟨rfl, rfl, rfl, rfl⟩ (up1_ne e) (fun _ => up1_ne e) (fun _ => ⟨rfl, rfl⟩)
    exact ⟨rfl, rfl, vu_ne e, vu_ne e, rfl, rfl, rfl, rfl, rfl, rfl, rfl⟩
theorem opn_same {G G' : GG} {f : Nat} : ∀ k, (∀ g, g < k → qF G' g = qF G g ∧ (qS G' g = 0 ↔ qS G g = 0)) → opn G' f k = opn G f k := by
  intro k
  induction k with
  | zero => intro _; rfl
  | succ k ih =>
    intro h
    show opn G' f k + (if qF G' k = f ∧ qS G' k = 0 then 1 else 0) = opn G f k + (if qF G k = f ∧ qS G k = 0 then 1 else 0)
    rw [ih (fun g hg => h g (by omega)), (h k (by omega)).1]
    congr 1
    by_cases q : qF G k = f ∧ qS G k = 0
    · rw [if_pos q, if_pos ⟨q.1, (h k (by omega)).2.mpr q.2⟩]
    · rw [if_neg q, if_neg (fun w => q ⟨w.1, (h k (by omega)).2.mp w.2⟩)]
theorem opn_set {G : GG} {g s f : Nat} {r : Tm} : ∀ k, (k ≤ g ∨ qF G g ≠ f → opn (setS G g s r) f k = opn G f k) ∧ (g < k → qF G g = f → opn (setS G g s r) f k + (if qS G g = 0 then 1 else 0) = opn G f k + (if s = 0 then 1 else 0)) := by
  intro k
  induction k with
  | zero => exact ⟨fun _ => rfl, fun h => absurd h (Nat.not_lt_zero _)⟩
  | succ k ih =>
    have e : opn (setS G g s r) f (k + 1) = opn (setS G g s r) f k + (if qF G k = f ∧ up1 (qS G) g s k = 0 then 1 else 0) := rfl
    have e2 : opn G f (k + 1) = opn G f k + (if qF G k = f ∧ qS G k = 0 then 1 else 0) := rfl
    rw [e, e2]
    constructor
    · intro h
      rw [ih.1 (by omega)]
      by_cases w : k = g
      · subst w
        rcases h with h | h
        · omega
        · rw [if_neg (fun q => h q.1), if_neg (fun q => h q.1)]
      · rw [up1_ne w]
    · intro h1 h2
      by_cases w : k = g
      · subst w
        rw [ih.1 (Or.inl (Nat.le_refl _)), up1_eq]
        by_cases q1 : qS G k = 0 <;> by_cases q2 : s = 0 <;> simp [h2, q1, q2]
      · rw [up1_ne w]
        have := ih.2 (by omega) h2
        omega
def fillable (D : DS) (A : SG) (B : FG) (G : GG) (g : Nat) (t : Tm) : Prop := g < qN G ∧ qS G g = 0 ∧ (callsT t &&& ((D.2.2 ||| ((1 : Int32) <<< (nz (qF G g) &&& 31))) ^^^ ((-1) : Int32))) = 0 ∧ (tyT (tbl A B) t (qC G g)).bind nf = some (qT G g)
theorem L_fill {K : Rows} {n g k m : Nat} {S : SS} {D : DS} {P : PS} {A : SG} {B : FG} {G : GG} {N : NS} {nt : Nat → Tm} (hC : CourtC K n S D P A B G) (ht : CourtT A B G) (hN : NodeC K n N nt m) (hk : k < m) (hg : g < 1000000) (hn : n + 8100 ≤ 32768) (F : FS) (U : US) :
    (fillable D A B G g (nt k) → ∃ K' F' U' P', f_L_fill K F U S D N P (nz g) (nz k) = some (nz (opn (setS G g 2 (nt k)) (qF G g) (qN G)), K', F', U', P') ∧ WF K' n ∧ Ext K K' n ∧ CourtT A B (setS G g 2 (nt k)) ∧ CourtC K' n S D P' A B (setS G g 2 (nt k))) ∧
    (¬ fillable D A B G g (nt k) → ∃ K' F' U' r, f_L_fill K F U S D N P (nz g) (nz k) = some (r, K', F', U', P) ∧ r < 0 ∧ WF K' n ∧ Ext K K' n) := by
  have h40 := ht.2.2.1
  have hD2 := hC.2.2.2.1
  have hw := hC.1
  have bad : ∀ r : Int32, r < 0 → f_L_fill K F U S D N P (nz g) (nz k) = some (r, K, F, U, P) → ∃ K' F' U' r, f_L_fill K F U S D N P (nz g) (nz k) = some (r, K', F', U', P) ∧ r < 0 ∧ WF K' n ∧ Ext K K' n := fun r hr he => ⟨K, F, U, r, he, hr, hw, Ext_refl K n⟩
  by_cases hgl : g < qN G
  · obtain ⟨j, q1, q2⟩ := (termAt_ok hN (show k < 1000000 by have := hN.2.1; omega)).1 hk
    have hz := hN.2.2 k hk
    have hgc := hC.2.2.2.2 g hgl
    obtain ⟨y1, ⟨jt, y2, y3⟩, y4, y5, y6, y7, y8, y9, y10⟩ := hgc
    have start : f_L_fill K F U S D N P (nz g) (nz k) = Option.bind (if stW (qS G g) = 111 then (if (callsT (nt k) &&& ((D.2.2 ||| ((1 : Int32) <<< (nz (qF G g) &&& 31))) ^^^ ((-1) : Int32))) = 0 then (Option.bind (f_X10_fits K F U S D P (nz g) (nz j) (nz jt)) (fun q_11 => (if q_11.1 = 0 then some ((5 : Int32), (0 : Int32), q_11.2.1, q_11.2.2.1, q_11.2.2.2, P) else (Option.bind (g_X3_fillWith P (nz g) (nz j)) (fun q_13 => (Option.bind (f_X0_openOnesOf D q_13 (q_13.2.2.2.1 (Int32.toNatClampNeg (nz g)))) (fun q_14 => some ((0 : Int32), q_14, q_11.2.1, q_11.2.2.1, q_11.2.2.2, q_13)))))))) else some (5, 0, K, F, U, P)) else some (2, 0, K, F, U, P))
        (fun q_1 => (if q_1.1 = 0 then some (q_1.2.1, q_1.2.2.1, q_1.2.2.2.1, q_1.2.2.2.2.1, q_1.2.2.2.2.2) else (if q_1.1 = 4 then some ((-3000000), q_1.2.2.1, q_1.2.2.2.1, q_1.2.2.2.2.1, q_1.2.2.2.2.2) else (if q_1.1 = 3 then some ((-2500000), q_1.2.2.1, q_1.2.2.2.1, q_1.2.2.2.2.1, q_1.2.2.2.2.2) else (if q_1.1 = 2 then some ((-1000000), q_1.2.2.1, q_1.2.2.2.1, q_1.2.2.2.2.1, q_1.2.2.2.2.2) else (if q_1.1 = 5 then some ((-1500000), q_1.2.2.1, q_1.2.2.2.1, q_1.2.2.2.2.1, q_1.2.2.2.2.2) else none)))))) := by
      unfold f_L_fill f_X11_fill f_X11_needOpen
      rw [goalAt_ok hD2 h40 hg, if_pos hgl, Option.bind_some, if_pos (show ((0 : Int32), nz g).1 = 0 from rfl), if_pos (gix_at hD2 h40 hgl), q1, Option.bind_some, if_pos (show ((0 : Int32), nz j).1 = 0 from rfl), nz_nat (show g < 2147483648 by omega), y8, y1, y2, Option.bind_some]
      by_cases hs : stW (qS G g) = 111
      · rw [if_pos hs, if_pos hs, Option.bind_some, if_pos rfl, calls_at hw q2, Option.bind_some]
      · rw [if_neg hs, if_neg hs, Option.bind_some, if_neg (by decide)]
    by_cases hs : qS G g = 0
    · rw [if_pos (stW_open.mpr hs)] at start
      by_cases hc : (callsT (nt k) &&& ((D.2.2 ||| ((1 : Int32) <<< (nz (qF G g) &&& 31))) ^^^ ((-1) : Int32))) = 0
      · rw [if_pos hc] at start
        obtain ⟨K1, F1, U1, r, f1, f2, f3, f4, f5⟩ := fits_ok (ask_goal hC ht hgl q2 hz.2.1 (by omega) hn) y4 (by omega) y3 F U
        rw [f1, Option.bind_some] at start
        by_cases hfit : (tyT (tbl A B) (nt k) (qC G g)).bind nf = some (qT G g)
        · rw [f4 hfit, if_neg (show ¬ ((1, K1, F1, U1) : Int32 × Rows × FS × US).1 = 0 from (by decide : ¬ (1 : Int32) = 0))] at start
          refine ⟨fun _ => ?_, fun q => absurd ⟨hgl, hs, hc, hfit⟩ q⟩
          have hT' := court_set (s := 2) (r := nt k) ht hgl (by omega) (by decide) (fun _ => ⟨hfit, hz.2.1, by omega⟩)
          have hx := CourtC_ext hC f2 f3 (Nat.le_refl _)
          have hC' := CourtC_set (s := 2) (r := nt k) (x := nz j) hx hgl (by decide) (by omega) (by decide) (fun _ => ⟨j, rfl, Rep_ext f3 (Nat.le_refl _) _ j q2⟩)
          refine ⟨K1, F1, U1, stP P g (stW 2) (nz j), ?_, f2, f3, hT', hC'⟩
          have hF8 : qF G g < 1000000 := by have := (ht.2.2.2.1 g hgl).1; have := ht.2.1.1; omega
          have ho := open_ok (f := qF G g) hC' hT' hF8
          rw [start, fillWith_ok hg, Option.bind_some]
          show Option.bind (Option.bind (f_X0_openOnesOf D (stP P g (stW 2) (nz j)) (P.2.2.2.1 (Int32.toNatClampNeg (nz g)))) _) _ = _
          rw [nz_nat (show g < 2147483648 by omega), y1, ho]
          rfl
        · rw [f5 hfit, if_pos (show ((0, K1, F1, U1) : Int32 × Rows × FS × US).1 = 0 from rfl)] at start
          refine ⟨fun q => absurd q.2.2.2 hfit, fun _ => ⟨K1, F1, U1, -1500000, by rw [start]; rfl, by decide, f2, f3⟩⟩
      · rw [if_neg hc] at start
        exact ⟨fun q => absurd q.2.2.1 hc, fun _ => bad (-1500000) (by decide) (by rw [start]; rfl)⟩
    · rw [if_neg (fun q => hs (stW_open.mp q))] at start
      exact ⟨fun q => absurd q.2.1 hs, fun _ => bad (-1000000) (by decide) (by rw [start]; rfl)⟩
  · refine ⟨fun q => absurd q.1 hgl, fun _ => bad (-3000000) (by decide) ?_⟩
    unfold f_L_fill f_X11_fill
    rw [goalAt_ok hD2 h40 hg, if_neg hgl]
    rfl
def acc0 (D : DS) (f : Nat) : Prop := ((D.2.2 >>> (nz f &&& 31)) &&& (1 : Int32)) = 0
theorem hasAcc_ok (D : DS) (f : Nat) : (acc0 D f → f_X0_hasAccepted D (nz f) = some 0) ∧ (¬ acc0 D f → f_X0_hasAccepted D (nz f) = some 1) := by
  unfold f_X0_hasAccepted acc0
  exact ⟨fun h => if_pos h, fun h => if_neg h⟩
theorem L_reopen {K : Rows} {n g : Nat} {S : SS} {D : DS} {P : PS} {A : SG} {B : FG} {G : GG} (hC : CourtC K n S D P A B G) (ht : CourtT A B G) (hg : g < qN G) (hs : qS G g = 2) (ha : acc0 D (qF G g)) : ∃ P', f_L_reopen K D P (nz g) = some (nz (sizeT (qR G g)), P') ∧ CourtT A B (setS G g 0 (qR G g)) ∧ CourtC K n S D P' A B (setS G g 0 (qR G g)) := by
  have h40 := ht.2.2.1
  have hD2 := hC.2.2.2.1
  obtain ⟨y1, ⟨jt, y2, y3⟩, y4, y5, y6, y7, y8, y9, y10⟩ := hC.2.2.2.2 g hg
  obtain ⟨j, j1, j2⟩ := y9 hs
  have e8 : P.2.2.2.2.2.1 g = 102 := by rw [y8, hs]; rfl
  refine ⟨stP P g (stW 0) (-1), ?_, court_set ht hg (by omega) (by decide) (fun q => by cases q), CourtC_set hC hg (by decide) (by omega) (by decide) (fun q => by cases q)⟩
  unfold f_L_reopen f_X11_reopen
  rw [goalAt_ok hD2 h40 (show g < 1000000 by omega), if_pos hg, Option.bind_some, if_pos (show ((0 : Int32), nz g).1 = 0 from rfl), if_pos (gix_at hD2 h40 hg), nz_nat (show g < 2147483648 by omega), if_pos e8, y1, (hasAcc_ok D (qF G g)).1 ha, Option.bind_some, if_pos rfl, j1, g_size, rSize_at hC.1 (Rep_lt j2), Option.bind_some, (Rep_calls_loose j2).1]
  show Option.bind (Option.bind (g_X3_open P (nz g)) _) _ = _
  rw [open_P_ok (by omega)]
  rfl
