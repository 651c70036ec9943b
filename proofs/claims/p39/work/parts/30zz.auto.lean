/-! auto -/
def fitD (Γ : List Tm) (T : Tm) : Nat → Option Nat
  | 0 => none
  | i + 1 => if (Γ[Γ.length - 1 - i]?).map (fun A => ren A (shift (Γ.length - i) 0)) = some T then some i else fitD Γ T i
theorem fitD_some {Γ : List Tm} {T : Tm} : ∀ (k i : Nat), fitD Γ T k = some i → i < k ∧ (Γ[Γ.length - 1 - i]?).map (fun A => ren A (shift (Γ.length - i) 0)) = some T
  | 0, i, h => by cases h
  | k + 1, i, h => by
    unfold fitD at h
    split at h
    · rename_i hq
      have e : k = i := by injection h
      subst e
      exact ⟨Nat.lt_succ_self _, hq⟩
    · obtain ⟨a, b⟩ := fitD_some k i h
      exact ⟨by omega, b⟩
theorem auto_loop {K0 : Rows} {n0 g jt len : Nat} {D : DS} {P : PS} {Γ : List Tm} {T : Tm} (hC : Ctx K0 n0 P g Γ) (hg : g < 40) (hlen : Γ.length = len) (hT : P.2.2.2.2.1 g = nz jt) (hTr : Rep K0 n0 T jt) (hTy : ∀ A ∈ Γ, sizeT A ≤ 80 ∧ freeT A ≤ 2000) (hroom : n0 + 1000 ≤ 32768) :
    ∀ (k f : Nat) (K : Rows) (nn : Nat), k ≤ len → k + 1 < f → WF K nn → Ext K0 K n0 → n0 ≤ nn → nn + 80 * k ≤ n0 + 80 * len →
      ∃ K' n', f_X0_innermostThatFits_L24 f K D P (nz g) (nz len) (nz n0) (-1) (nz k + (-1)) = some ((match fitD Γ T k with | some i => nz i | none => -1), setM K' n0) ∧ WF K' n' ∧ n0 ≤ n' ∧ Ext K0 K' n0 := by
  intro k
  have h12 := hC.2.2
  induction k with
  | zero =>
    intro f K nn hk hf hw hx hn hb
    obtain ⟨f, rfl⟩ : ∃ e, f = e + 1 := ⟨f - 1, by omega⟩
    refine ⟨K, nn, ?_, hw, hn, hx⟩
    unfold f_X0_innermostThatFits_L24
    rw [if_pos (by decide : nz 0 + (-1) < 0), g_release hw hn]
    rfl
  | succ k ih =>
    intro f K nn hk hf hw hx hn hb
    obtain ⟨f, rfl⟩ : ∃ e, f = e + 1 := ⟨f - 1, by omega⟩
    obtain ⟨A, row, t1, t2, t3, t4⟩ := ctx_at (Ctx_ext hC hx hn) (show g < 1000000 by omega) (show k < Γ.length by omega)
    obtain ⟨y1, y2⟩ := hTy A (List.mem_of_getElem? t1)
    obtain ⟨K1, n1, j1, a1, a2, a3, a4, a5, a6⟩ := rLift_made (len - k) (by omega) A 200 K nn row 0 hw t4 (by omega) (by omega) (by omega) (by omega) (by omega)
    have hT1 := Rep_ext (Ext_trans hx (Ext_le a5 hn) (Nat.le_refl _)) (by omega : n0 ≤ n1) T jt hTr
    obtain ⟨s1, s2⟩ := rSame_yes a2 200 _ T j1 jt (Rep_size _ j1 a6) a6 hT1
    have esub : nz len - nz k = nz (len - k) := nz_sub (by omega)
    have st : ∀ r, rSame 200 K1 (nz j1) (nz jt) = some r → f_X0_innermostThatFits_L24 (f + 1) K D P (nz g) (nz len) (nz n0) (-1) (nz (k + 1) + (-1)) = (if r = 0 then f_X0_innermostThatFits_L24 f K1 D P (nz g) (nz len) (nz n0) (-1) (nz k + (-1)) else f_X0_innermostThatFits_L24 f K1 D P (nz g) (nz len) (nz n0) (nz k) (nz k + (-1))) := by
      intro r hr
      conv => lhs; unfold f_X0_innermostThatFits_L24
      rw [nz_m1, if_neg (nz_neg (by omega)), if_pos rfl, t2, Option.bind_some, esub, g_lift, show (0 : Int32) = nz 0 from rfl, a1, Option.bind_some, nz_nat (show g < 2147483648 by omega), hT]
      show (g_X6_same K1 (nz j1) (nz jt)).bind _ = _
      rw [g_same, hr, Option.bind_some]
    have ef : fitD Γ T (k + 1) = (if ren A (shift (len - k) 0) = T then some k else fitD Γ T k) := by
      show (if (Γ[Γ.length - 1 - k]?).map (fun A => ren A (shift (Γ.length - k) 0)) = some T then some k else fitD Γ T k) = _
      rw [t1, hlen]
      by_cases q : ren A (shift (len - k) 0) = T
      · rw [if_pos q, if_pos (by rw [← q]; rfl)]
      · rw [if_neg q, if_neg (fun w => q (by injection w))]
    rw [ef]
    by_cases q : ren A (shift (len - k) 0) = T
    · rw [st 1 (s1 q), if_neg (by decide), if_pos q]
      obtain ⟨f, rfl⟩ : ∃ e, f = e + 1 := ⟨f - 1, by omega⟩
      refine ⟨K1, n1, ?_, a2, by omega, Ext_trans hx (Ext_le a5 hn) (Nat.le_refl _)⟩
      unfold f_X0_innermostThatFits_L24
      by_cases w : nz k + (-1) < 0
      · rw [if_pos w, g_release a2 (by omega)]
        rfl
      · rw [if_neg w, if_neg (nz_no (by omega)), g_release a2 (by omega)]
        rfl
    · rw [st 0 (s2 q), if_pos rfl, if_neg q]
      obtain ⟨K', n', b1, b2, b3, b4⟩ := ih f K1 n1 (by omega) (by omega) a2 (Ext_trans hx (Ext_le a5 hn) (Nat.le_refl _)) (by omega) (by omega)
      exact ⟨K', n', b1, b2, b3, b4⟩
theorem fit_fills {A : SG} {B : FG} {G : GG} {g i : Nat} (h : GoalOK A B G g) (hi : fitD (qC G g) (qT G g) (qC G g).length = some i) : i < (qC G g).length ∧ (tyT (tbl A B) (.index ((qC G g).length - 1 - i)) (qC G g)).bind nf = some (qT G g) := by
  obtain ⟨a, b⟩ := fitD_some _ _ hi
  refine ⟨a, ?_⟩
  have e : tyT (tbl A B) (.index ((qC G g).length - 1 - i)) (qC G g) = some (qT G g) := by
    show ((qC G g)[(qC G g).length - 1 - i]?).map (fun T => ren T (shift ((qC G g).length - 1 - i + 1) 0)) = _
    rw [show (qC G g).length - 1 - i + 1 = (qC G g).length - i by omega]
    exact b
  rw [e]
  exact nf_self h.2.2.2.1.1 h.2.2.2.1.2.1
theorem L_auto {K : Rows} {n g : Nat} {S : SS} {D : DS} {P : PS} {A : SG} {B : FG} {G : GG} (hC : CourtC K n S D P A B G) (ht : CourtT A B G) (hg : g < 1000000) (hn : n + 1100 ≤ 32768) :
    (∀ i, g < qN G → qS G g = 0 → fitD (qC G g) (qT G g) (qC G g).length = some i → ∃ K' P', f_L_auto K D P (nz g) = some (nz i, K', P') ∧ WF K' (n + 1) ∧ Ext K K' n ∧ CourtT A B (setS G g 2 (.index ((qC G g).length - 1 - i))) ∧ CourtC K' (n + 1) S D P' A B (setS G g 2 (.index ((qC G g).length - 1 - i)))) ∧
    (¬ (g < qN G ∧ qS G g = 0 ∧ fitD (qC G g) (qT G g) (qC G g).length ≠ none) → ∃ K' r, f_L_auto K D P (nz g) = some (r, K', P) ∧ r < 0 ∧ WF K' n ∧ Ext K K' n) := by
  have h40 := ht.2.2.1
  have hD2 := hC.2.2.2.1
  have hw := hC.1
  by_cases hgl : g < qN G
  · obtain ⟨y1, ⟨jt, y2, y3⟩, y4, y5, y6, y7, y8, y9, y10⟩ := hC.2.2.2.2 g hgl
    have hgo := ht.2.2.2.1 g hgl
    have hl12 := y4.2.2
    have start : f_L_auto K D P (nz g) = Option.bind (if stW (qS G g) = 111 then (Option.bind (f_X0_innermostThatFits_L24 100000 K D P (nz g) (nz (qC G g).length) (nz n) (-1) (nz (qC G g).length + (-1))) (fun q_6 => (if q_6.1 = (-1) then some ((5 : Int32), (0 : Int32), q_6.2, P) else (Option.bind (g_X9_leaf q_6.2 1 ((nz (qC G g).length - (1 : Int32)) - q_6.1)) (fun q_8 => (Option.bind (g_X3_fillWith P (nz g) q_8.1) (fun q_9 => some ((0 : Int32), q_6.1, q_8.2, q_9)))))))) else some (2, 0, K, P))
        (fun q_1 => (if q_1.1 = 0 then some (q_1.2.1, q_1.2.2.1, q_1.2.2.2) else (if q_1.1 = 4 then some ((-3000000), q_1.2.2.1, q_1.2.2.2) else (if q_1.1 = 2 then some ((-1000000), q_1.2.2.1, q_1.2.2.2) else (if q_1.1 = 5 then some ((-1500000), q_1.2.2.1, q_1.2.2.2) else none))))) := by
      have esb : nz (qC G g).length - 1 = nz (qC G g).length + (-1) := Int32.sub_eq_add_neg _ _
      unfold f_L_auto f_X11_auto f_X11_needOpen f_X0_innermostThatFits
      rw [goalAt_ok hD2 h40 hg, if_pos hgl, Option.bind_some, if_pos (show ((0 : Int32), nz g).1 = 0 from rfl), if_pos (gix_at hD2 h40 hgl), nz_nat (show g < 2147483648 by omega), y8, y4.1.1, g_mark, Option.bind_some, Option.bind_some, hw.1, ← esb]
      by_cases hs : stW (qS G g) = 111
      · rw [if_pos hs, if_pos hs, Option.bind_some, if_pos rfl]
      · rw [if_neg hs, if_neg hs, Option.bind_some, if_neg (by decide)]
    by_cases hs : qS G g = 0
    · rw [if_pos (stW_open.mpr hs)] at start
      obtain ⟨K1, n1, b1, b2, b3, b4⟩ := auto_loop (D := D) y4 (show g < 40 by omega) rfl y2 y3 (fun T hT => by
        obtain ⟨w1, w2, w3⟩ := hgo.2.2.1 T hT
        exact ⟨w1, by omega⟩) (by omega) (qC G g).length 100000 K n (Nat.le_refl _) (by omega) hw (Ext_refl K n) (Nat.le_refl n) (by omega)
      have hwm := WF_cut b2 b3
      have hxm := Ext_trans b4 (Ext_setM K1 n n) (Nat.le_refl _)
      rw [b1, Option.bind_some] at start
      cases hi : fitD (qC G g) (qT G g) (qC G g).length with
      | none =>
        rw [hi] at start
        refine ⟨fun i _ _ q => (by cases q), fun _ => ⟨setM K1 n, -1500000, by rw [start]; rfl, by decide, hwm, hxm⟩⟩
      | some i =>
        rw [hi] at start
        obtain ⟨f1, f2⟩ := fit_fills hgo hi
        refine ⟨fun i' _ _ q => ?_, fun q => absurd ⟨hgl, hs, by simp⟩ q⟩
        have ei : i = i' := by injection q
        subst ei
        obtain ⟨K2, c1, c2, c3, c4⟩ := leaf_var (k := (qC G g).length - 1 - i) hwm (by omega) (by omega)
        have hT' := court_set (s := 2) (r := .index ((qC G g).length - 1 - i)) ht hgl (by omega) (by decide) (fun _ => ⟨f2, by show 1 ≤ 30; omega, by show (qC G g).length - 1 - i + 1 ≤ 1000; omega⟩)
        have hx := CourtC_ext hC c2 (Ext_trans hxm c3 (Nat.le_refl _)) (Nat.le_succ _)
        have hC' := CourtC_set (s := 2) (r := .index ((qC G g).length - 1 - i)) (x := nz n) hx hgl (by decide) (by omega) (by decide) (fun _ => ⟨n, rfl, c4⟩)
        refine ⟨K2, stP P g (stW 2) (nz n), ?_, c2, Ext_trans hxm c3 (Nat.le_refl _), hT', hC'⟩
        have esub : nz (qC G g).length - 1 - nz i = nz ((qC G g).length - 1 - i) := by rw [show (1 : Int32) = nz 1 from rfl, nz_sub (by omega), nz_sub (by omega)]
        rw [start, if_neg (show ¬ ((nz i, setM K1 n) : Int32 × Rows).1 = -1 from nz_no (by omega))]
        show Option.bind (Option.bind (g_X9_leaf (setM K1 n) 1 (nz (qC G g).length - 1 - nz i)) _) _ = _
        rw [esub, g_leaf]
        rw [show rLeaf (setM K1 n) 1 (nz ((qC G g).length - 1 - i)) = some (nz n, K2) from c1, Option.bind_some, fillWith_ok hg]
        rfl
    · rw [if_neg (fun q => hs (stW_open.mp q))] at start
      exact ⟨fun i _ q => absurd q hs, fun _ => ⟨K, -1000000, by rw [start]; rfl, by decide, hw, Ext_refl K n⟩⟩
  · refine ⟨fun i q => absurd q hgl, fun _ => ⟨K, -3000000, ?_, by decide, hw, Ext_refl K n⟩⟩
    unfold f_L_auto f_X11_auto
    rw [goalAt_ok hD2 h40 hg, if_neg hgl]
    rfl
