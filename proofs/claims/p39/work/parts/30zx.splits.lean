def spP (P : PS) (g pl ch : Nat) : PS := (P.1, P.2.1, P.2.2.1, P.2.2.2.1, P.2.2.2.2.1, (va_up P.2.2.2.2.2.1 g 115), P.2.2.2.2.2.2.1, (va_up P.2.2.2.2.2.2.2.1 g (nz pl)), (va_up P.2.2.2.2.2.2.2.2.1 g (nz ch)), P.2.2.2.2.2.2.2.2.2.1, P.2.2.2.2.2.2.2.2.2.2.1, P.2.2.2.2.2.2.2.2.2.2.2.1, P.2.2.2.2.2.2.2.2.2.2.2.2.1, P.2.2.2.2.2.2.2.2.2.2.2.2.2)
def Kid (K : Rows) (nn : Nat) (P : PS) (A : SG) (G : GG) (g pl d gc c : Nat) (Γ' : List Tm) (T' : Tm) : Prop :=
  ChildL (qC G g) Γ' pl (cn c) ((sPrt A c).map dat) ∧ Γ'.length ≤ 12 ∧ nf (sbs (qT G g) (chS A ((qC G g).length - 1 - pl) c)) = some T' ∧
  NewAt K nn P (gc + cntd A d c) (qF G g) Γ' T' ((qP G g).map (fun p => sbs p (chS A ((qC G g).length - 1 - pl) c)))
theorem split_loop {K0 : Rows} {n0 g pl d : Nat} {S : SS} {D : DS} {P0 : PS} {A : SG} {B : FG} {G : GG} (hC : CourtC K0 n0 S D P0 A B G) (ht : CourtT A B G) (hg : g < qN G) (hS0 : qS G g = 0) (hpl : pl < (qC G g).length) (hd : d < 1000000)
    (h12 : ∀ c, c < sCc A → sOwn A c = d → (qC G g).length - 1 + (sPrt A c).length ≤ 12) (h40 : qN G + cntd A d (sCc A) ≤ 40) (hroom : n0 + 7000 + NB (qN G + cntd A d (sCc A)) ≤ 32768 + NB (qN G)) :
    ∀ (k f c : Nat) (K : Rows) (nn : Nat) (F : FS) (P : PS), c + k = sCc A → k < f → WF K nn → Ext K0 K n0 → n0 ≤ nn → nn + NB (qN G) ≤ n0 + NB (qN G + cntd A d c) → P.1 = P0.1 ∧ P.2.1 = P0.2.1 ∧ P.2.2.1 = P0.2.2.1 → (∀ g', g' < qN G → PSame P0 P g') →
      (∀ c', c' < c → sOwn A c' = d → ∃ Γ' T', Kid K nn P A G g pl d (qN G) c' Γ' T') →
      (∃ K' F' P', f_X0_splitBy_L48 f K F S D P (nz g) (nz pl) (nz d) (nz n0) (nz (cntd A d c)) (nz c) = some (-1, K', F', S, D, P') ∧ WF K' n0 ∧ Ext K0 K' n0 ∧ (P'.1 = P0.1 ∧ P'.2.1 = P0.2.1 ∧ P'.2.2.1 = P0.2.2.1) ∧ ∀ g', g' < qN G → PSame P0 P' g') ∨
      (∃ K' n' F' S' P', f_X0_splitBy_L48 f K F S D P (nz g) (nz pl) (nz d) (nz n0) (nz (cntd A d c)) (nz c) = some (nz (cntd A d (sCc A)), K', F', S', (D.1, nz (qN G + cntd A d (sCc A)), D.2.2), spP P' g pl (qN G)) ∧
        g_X7_noteSplit S (nz d) = some S' ∧ WF K' n' ∧ Ext K0 K' n0 ∧ n0 ≤ n' ∧ n' + NB (qN G) ≤ n0 + NB (qN G + cntd A d (sCc A)) ∧ (P'.1 = P0.1 ∧ P'.2.1 = P0.2.1 ∧ P'.2.2.1 = P0.2.2.1) ∧ (∀ g', g' < qN G → PSame P0 P' g') ∧ (∀ c', c' < sCc A → sOwn A c' = d → ∃ Γ' T', Kid K' n' P' A G g pl d (qN G) c' Γ' T')) := by
  intro k
  have h16 := ht.1.1
  have hD2 := hC.2.2.2.1
  have h41 := ht.2.2.1
  induction k with
  | zero =>
    intro f c K nn F P hc hf hw hx hn0 hnn hP hPs hkid
    obtain ⟨f, rfl⟩ : ∃ e, f = e + 1 := ⟨f - 1, by omega⟩
    have hc' : c = sCc A := by omega
    subst hc'
    obtain ⟨S', hS'⟩ := note_some hC.2.1.1 ht.1.2.1 hd
    refine Or.inr ⟨K, nn, F, S', P, ?_, hS', hw, hx, hn0, hnn, hP, hPs, hkid⟩
    unfold f_X0_splitBy_L48
    rw [hC.2.1.2.1, if_pos ((nz_le (by omega) (by omega)).mpr (Nat.le_refl _))]
    unfold g_X3_splitInto f_X3_splitInto
    rw [Option.map_some, Option.bind_some, hS', Option.bind_some, hD2, nz_add, nz_nat (by omega)]
    rfl
  | succ k ih =>
    intro f c K nn F P hc hf hw hx hn0 hnn hP hPs hkid
    obtain ⟨f, rfl⟩ : ∃ e, f = e + 1 := ⟨f - 1, by omega⟩
    have hcl : c < sCc A := by omega
    have ho := (ht.1.2.2 c hcl).1
    have h6 := ht.1.2.1
    have q1 : ¬ nz (sCc A) ≤ nz c := fun hq => absurd ((nz_le (by omega) (by omega)).mp hq) (by omega)
    have es : cntd A d (c + 1) = cntd A d c + (if sOwn A c = d then 1 else 0) := rfl
    by_cases e : sOwn A c = d
    · have hcm := cntd_mono A d (sCc A) (c + 1) hcl
      rw [es, if_pos e] at hcm
      have hmono := NB_mono (show qN G + cntd A d c ≤ qN G + cntd A d (sCc A) by omega)
      have hcc : CourtC K nn S D P A B G := by
        obtain ⟨x1, x2, x3, x4, x5⟩ := CourtC_ext hC hw hx hn0
        refine ⟨x1, x2, ⟨x3.1, ?_⟩, x4, fun g' hg' => GoalC_same (x5 g' hg') (hPs g' hg') ⟨rfl, rfl, rfl, rfl⟩ rfl (fun _ => rfl) (fun _ => ⟨rfl, rfl⟩)⟩
        intro f' hf'
        rw [hP.1, hP.2.1, hP.2.2]
        exact x3.2 f' hf'
      have st : ∀ (y : Int32) (K' : Rows) (F' : FS) (Z : CS), f_X0_childOf K F S D P (nz g) (nz pl) (nz c) = some (y, K', F', Z) → f_X0_splitBy_L48 (f + 1) K F S D P (nz g) (nz pl) (nz d) (nz n0) (nz (cntd A d c)) (nz c) =
          (if y < 0 then (g_X9_release K' (nz n0)).bind (fun q => some (-1, q, F', S, D, P)) else f_X0_splitBy_L48 f K' F' S D (addG P (qN G + cntd A d c) Z) (nz g) (nz pl) (nz d) (nz n0) (nz (cntd A d c + 1)) (nz (c + 1))) := by
        intro y K' F' Z hy
        conv => lhs; unfold f_X0_splitBy_L48
        rw [hC.2.1.2.1, if_neg q1, owner_ok hC.2.1 h16 hcl, Option.bind_some, if_pos (by rw [e]), hD2, nz_add, if_neg (show ¬ (40 : Int32) ≤ nz _ from fun hq => absurd ((nz_le (i := 40) (by decide) (by omega)).mp hq) (by omega)), hy, Option.bind_some]
        show (if y < 0 then _ else _) = _
        by_cases hy1 : y < 0
        · rw [if_pos hy1, if_pos hy1]
        · rw [if_neg hy1, if_neg hy1, if_pos (nz_inb (by omega) (by decide)), nz_nat (by omega), show nz (cntd A d c) + 1 = nz (cntd A d c + 1) from nz_add _ 1, show nz c + 1 = nz (c + 1) from nz_add c 1]
      rcases child_ok (h := qN G + cntd A d c) hcc ht hg hS0 hpl hcl (h12 c hcl e) (by omega) (by omega) (by omega) F with ⟨K', n', F', Z, w1, w2, w3, w4⟩ | ⟨K', n', F', Z, Γ', T', w1, w2, w3, w4, w5, w6, w7, w8, w9⟩
      · refine Or.inl ⟨setM K' n0, F', P, ?_, WF_cut w2 (by omega), Ext_trans hx (Ext_trans (Ext_le w4 hn0) (Ext_setM K' n0 n0) (Nat.le_refl _)) (Nat.le_refl _), hP, hPs⟩
        rw [st _ _ _ _ w1, if_pos (by decide), g_release w2 (by omega), Option.bind_some]
      · have eNB : NB (qN G + (cntd A d c + 1)) = NB (qN G + cntd A d c) + (416 + 4 * (qN G + cntd A d c)) := rfl
        have nx := ih f (c + 1) K' n' F' (addG P (qN G + cntd A d c) Z) (by omega) (by omega) w2 (Ext_trans hx (Ext_le w5 hn0) (Nat.le_refl _)) (by omega) (by rw [es, if_pos e, eNB]; omega) hP
          (fun g' hg' => PSame_trans (hPs g' hg') (addG_same P _ Z (by omega))) (by
            intro c' h1 h2
            rcases Nat.lt_succ_iff_lt_or_eq.mp h1 with q | rfl
            · obtain ⟨Γ1, T1, k1, k2, k3, k4⟩ := hkid c' q h2
              have := cntd_lt q h2
              exact ⟨Γ1, T1, k1, k2, k3, NewAt_keep k4 w5 w3 (addG_same P _ Z (by omega))⟩
            · exact ⟨Γ', T', w6, w7, w8, NewAt_add w9⟩)
        rw [es, if_pos e] at nx
        rw [st _ _ _ _ w1, if_neg (by decide)]
        exact nx
    · have st : f_X0_splitBy_L48 (f + 1) K F S D P (nz g) (nz pl) (nz d) (nz n0) (nz (cntd A d c)) (nz c) = f_X0_splitBy_L48 f K F S D P (nz g) (nz pl) (nz d) (nz n0) (nz (cntd A d c)) (nz (c + 1)) := by
        conv => lhs; unfold f_X0_splitBy_L48
        rw [hC.2.1.2.1, if_neg q1, owner_ok hC.2.1 h16 hcl, Option.bind_some, if_neg (nz_ne (by omega) (by omega) e), show nz c + 1 = nz (c + 1) from nz_add c 1]
      rw [st]
      have nx := ih f (c + 1) K nn F P (by omega) (by omega) hw hx hn0 (by rw [es, if_neg e, Nat.add_zero]; exact hnn) hP hPs (by
        intro c' h1 h2
        rcases Nat.lt_succ_iff_lt_or_eq.mp h1 with q | rfl
        · exact hkid c' q h2
        · exact absurd h2 e)
      rw [es, if_neg e, Nat.add_zero] at nx
      exact nx
theorem L_split {K : Rows} {n g pl : Nat} {S : SS} {D : DS} {P : PS} {A : SG} {B : FG} {G : GG} (hC : CourtC K n S D P A B G) (ht : CourtT A B G) (hg : g < 1000000) (hpl : pl < 1000000) (hroom : n + 7000 + NB 40 ≤ 32768 + NB (qN G)) (F : FS) :
    ∃ K' F' S' D' P' r, f_L_split K F S D P (nz g) (nz pl) = some (r, K', F', S', D', P') ∧
      ((r < 0 ∧ S' = S ∧ D' = D ∧ WF K' n ∧ Ext K K' n ∧ CourtC K' n S D P' A B G) ∨
       (∃ d Cf Tf n', r = nz (cntd A d (sCc A)) ∧ g < qN G ∧ qS G g = 0 ∧ pl < (qC G g).length ∧ (qC G g)[(qC G g).length - 1 - pl]? = some (dat d) ∧ CourtT A B (splG A G g pl d Cf Tf) ∧ (∀ c, c < sCc A → sOwn A c = d → ChildL (qC G g) (Cf c) pl (cn c) ((sPrt A c).map dat)) ∧ WF K' n' ∧ Ext K K' n ∧ n ≤ n' ∧ n' + NB (qN G) ≤ n + NB (qN G + cntd A d (sCc A)) ∧
          D' = (D.1, nz (qN G + cntd A d (sCc A)), D.2.2) ∧ CourtC K' n' S' D' P' A B (splG A G g pl d Cf Tf))) := by
  have h40 := ht.2.2.1
  have hD2 := hC.2.2.2.1
  have bad : ∀ r : Int32, r < 0 → f_L_split K F S D P (nz g) (nz pl) = some (r, K, F, S, D, P) → ∃ K' F' S' D' P' r, f_L_split K F S D P (nz g) (nz pl) = some (r, K', F', S', D', P') ∧
      ((r < 0 ∧ S' = S ∧ D' = D ∧ WF K' n ∧ Ext K K' n ∧ CourtC K' n S D P' A B G) ∨
       (∃ d Cf Tf n', r = nz (cntd A d (sCc A)) ∧ g < qN G ∧ qS G g = 0 ∧ pl < (qC G g).length ∧ (qC G g)[(qC G g).length - 1 - pl]? = some (dat d) ∧ CourtT A B (splG A G g pl d Cf Tf) ∧ (∀ c, c < sCc A → sOwn A c = d → ChildL (qC G g) (Cf c) pl (cn c) ((sPrt A c).map dat)) ∧ WF K' n' ∧ Ext K K' n ∧ n ≤ n' ∧ n' + NB (qN G) ≤ n + NB (qN G + cntd A d (sCc A)) ∧
          D' = (D.1, nz (qN G + cntd A d (sCc A)), D.2.2) ∧ CourtC K' n' S' D' P' A B (splG A G g pl d Cf Tf))) :=
    fun r hr he => ⟨K, F, S, D, P, r, he, Or.inl ⟨hr, rfl, rfl, hC.1, Ext_refl K n, hC⟩⟩
  by_cases hgl : g < qN G
  · have hgc := hC.2.2.2.2 g hgl
    have hctx := hgc.2.2.1
    have start : f_L_split K F S D P (nz g) (nz pl) = (Option.bind (if pl < (qC G g).length then (if stW (qS G g) = 111 then (Option.bind (f_X0_splitIsTooMuch K S D P (nz g) (nz pl)) (fun q_7 => (if q_7 = 0 then (Option.bind (f_X0_splitBy K F S D P (nz g) (nz pl)) (fun q_9 => (if q_9.1 = (-1) then some ((5 : Int32), (0 : Int32), q_9.2.1, q_9.2.2.1, q_9.2.2.2.1, q_9.2.2.2.2.1, q_9.2.2.2.2.2) else some ((0 : Int32), q_9.1, q_9.2.1, q_9.2.2.1, q_9.2.2.2.1, q_9.2.2.2.2.1, q_9.2.2.2.2.2)))) else some (2, 0, K, F, S, D, P)))) else some (2, 0, K, F, S, D, P)) else some (3, 0, K, F, S, D, P))
        (fun q_1 => (if q_1.1 = 0 then some (q_1.2.1, q_1.2.2.1, q_1.2.2.2.1, q_1.2.2.2.2.1, q_1.2.2.2.2.2.1, q_1.2.2.2.2.2.2) else (if q_1.1 = 4 then some ((-3000000), q_1.2.2.1, q_1.2.2.2.1, q_1.2.2.2.2.1, q_1.2.2.2.2.2.1, q_1.2.2.2.2.2.2) else (if q_1.1 = 3 then some ((-2500000), q_1.2.2.1, q_1.2.2.2.1, q_1.2.2.2.2.1, q_1.2.2.2.2.2.1, q_1.2.2.2.2.2.2) else (if q_1.1 = 2 then some ((-1000000), q_1.2.2.1, q_1.2.2.2.1, q_1.2.2.2.2.1, q_1.2.2.2.2.2.1, q_1.2.2.2.2.2.2) else (if q_1.1 = 5 then some ((-1500000), q_1.2.2.1, q_1.2.2.2.1, q_1.2.2.2.2.1, q_1.2.2.2.2.2.1, q_1.2.2.2.2.2.2) else none))))))) := by
      unfold f_L_split f_X11_split
      rw [goalAt_ok hD2 h40 hg, if_pos hgl, Option.bind_some, if_pos (show ((0 : Int32), nz g).1 = 0 from rfl), if_pos (gix_at hD2 h40 hgl), needPlace_ok hctx hg hpl, Option.bind_some, nz_nat (show g < 2147483648 by omega), hgc.2.2.2.2.2.2.1]
      by_cases q : pl < (qC G g).length
      · rw [if_pos q, if_pos q, if_pos rfl]
      · rw [if_neg q, if_neg q, if_neg (by decide)]
    by_cases hp : pl < (qC G g).length
    · rw [if_pos hp] at start
      by_cases hs : qS G g = 0
      · rw [if_pos (stW_open.mpr hs)] at start
        obtain ⟨T, row, t1, t2, t3, t4⟩ := ctx_at hctx hg hp
        have hk8 : kdT T < 8 := by rcases (Rep_view t4).2 with v | v <;> omega
        by_cases hk : kdT T = 2
        · have hT : T = dat (prT T) ∧ prT T < 1000000 ∧ K.2.2.1 row = nz (prT T) := by
            rcases (Rep_view t4).2 with v | v
            · refine ⟨?_, v.2.1, v.2.2.1⟩
              have w := v.2.2.2
              rw [hk, if_neg (by decide)] at w
              exact w
            · omega
          obtain ⟨hT1, hT2, hT3⟩ := hT
          have hk2 : K.2.1 row = 2 := by rw [(Rep_view t4).1, hk]; rfl
          obtain ⟨r, m1, m2, m3⟩ := much_loop (g := g) (P := P) (len := (qC G g).length) hC.2.1 ht.1 hD2 h40 (by omega) hctx.1.1 (by omega) hctx.2.2 hT2 (sCc A) 100000 0 (by omega) (by have := ht.1.1; omega) (fun c' h1 _ => absurd h1 (by omega))
          have em : f_X0_splitIsTooMuch K S D P (nz g) (nz pl) = some r := by
            unfold f_X0_splitIsTooMuch
            rw [t2, Option.bind_some, g_kind, rKind_at hC.1 (Rep_lt t4), Option.bind_some, if_pos hk2, g_first, rFirst_at hC.1 (Rep_lt t4), Option.bind_some, hT3]
            exact m1
          rw [em, Option.bind_some] at start
          rcases m2 with rfl | rfl
          · obtain ⟨u1, u2⟩ := m3 rfl
            have eb : f_X0_splitBy K F S D P (nz g) (nz pl) = f_X0_splitBy_L48 100000 K F S D P (nz g) (nz pl) (nz (prT T)) (nz n) (nz (cntd A (prT T) 0)) (nz 0) := by
              unfold f_X0_splitBy
              rw [t2, Option.bind_some, g_kind, rKind_at hC.1 (Rep_lt t4), Option.bind_some, if_pos hk2, g_first, rFirst_at hC.1 (Rep_lt t4), Option.bind_some, hT3, g_mark, Option.bind_some, hC.1.1, hD2, if_pos (nz_inb (by omega) (by decide))]
              rfl
            have hNB := NB_mono u2
            rw [if_pos rfl, eb] at start
            rcases split_loop hC ht hgl hs hp hT2 u1 u2 (by omega) (sCc A) 100000 0 K n F P (by omega) (by have := ht.1.1; omega) hC.1 (Ext_refl K n) (Nat.le_refl n) (Nat.le_refl _) ⟨rfl, rfl, rfl⟩ (fun g' _ => PSame_refl P g') (fun c' h1 _ => absurd h1 (by omega)) with ⟨K', F', P', w1, w2, w3, w4, w5⟩ | ⟨K', n', F', S', P', w1, w2, w3, w4, w5, w6, w7, w8, w9⟩
            · refine ⟨K', F', S, D, P', -1500000, ?_, Or.inl ⟨by decide, rfl, rfl, w2, w3, ?_⟩⟩
              · rw [start, w1]; rfl
              · obtain ⟨x1, x2, x3, x4, x5⟩ := CourtC_ext hC w2 w3 (Nat.le_refl _)
                refine ⟨x1, x2, ⟨x3.1, ?_⟩, x4, fun g' hg' => GoalC_same (x5 g' hg') (w5 g' hg') ⟨rfl, rfl, rfl, rfl⟩ rfl (fun _ => rfl) (fun _ => ⟨rfl, rfl⟩)⟩
                intro f' hf'
                rw [w4.1, w4.2.1, w4.2.2]
                exact x3.2 f' hf'
            · have hch : ∀ c', ∃ y : List Tm × Tm, c' < sCc A → sOwn A c' = prT T → Kid K' n' P' A G g pl (prT T) (qN G) c' y.1 y.2 := by
                intro c'
                by_cases q : c' < sCc A ∧ sOwn A c' = prT T
                · obtain ⟨Γ', T', k1⟩ := w9 c' q.1 q.2
                  exact ⟨(Γ', T'), fun _ _ => k1⟩
                · exact ⟨([], .index 0), fun a b => absurd ⟨a, b⟩ q⟩
              obtain ⟨fy, hfy⟩ := Classical.axiomOfChoice hch
              have hdd : (qC G g)[(qC G g).length - 1 - pl]? = some (dat (prT T)) := by rw [t1, ← hT1]
              have hnew := court_split (Cf := fun c => (fy c).1) (Tf := fun c => (fy c).2) ht hgl hs hp hdd u2 (fun c h1 h2 => ⟨(hfy c h1 h2).1, (hfy c h1 h2).2.1, (hfy c h1 h2).2.2.1⟩)
              refine ⟨K', F', S', (D.1, nz (qN G + cntd A (prT T) (sCc A)), D.2.2), spP P' g pl (qN G), nz (cntd A (prT T) (sCc A)), ?_, Or.inr ⟨prT T, fun c => (fy c).1, fun c => (fy c).2, n', rfl, hgl, hs, hp, hdd, hnew, (fun c h1 h2 => (hfy c h1 h2).1), w3, w4, w5, w6, rfl, ?_⟩⟩
              · rw [start, w1, Option.bind_some, if_neg (show ¬ (nz (cntd A (prT T) (sCc A))) = -1 from nz_no (by have := cntd_le A (prT T) (sCc A); have := ht.1.1; omega)), Option.bind_some]
                rfl
              · obtain ⟨x1, x2, x3, x4, x5⟩ := CourtC_ext hC w3 w4 w5
                have sm := spl_same A G g pl (prT T) (fun c => (fy c).1) (fun c => (fy c).2)
                refine ⟨w3, note_ok x2 w2, ⟨x3.1, ?_⟩, rfl, ?_⟩
                · intro f' hf'
                  show (∃ j, P'.1 f' = nz j ∧ Rep K' n' (fTy B f') j) ∧ P'.2.1 f' = nz (fAr B f') ∧ P'.2.2.1 f' = nz (fFg B f')
                  rw [w7.1, w7.2.1, w7.2.2]
                  exact x3.2 f' hf'
                · intro g' hg'
                  have hg2 : g' < qN G + cntd A (prT T) (sCc A) := hg'
                  by_cases hlt : g' < qN G
                  · by_cases eg : g' = g
                    · subst eg
                      obtain ⟨p1, p2, p3, p4, p5, p6, p7, p8, p9, p10, p11⟩ := w8 g' hlt
                      obtain ⟨y1, y2, y3, y4, y5, y6, y7, y8, y9⟩ := x5 g' hlt
                      obtain ⟨z1, z2, z3, z4⟩ := sm g' hlt
                      have hS1 : qS (splG A G g' pl (prT T) (fun c => (fy c).1) (fun c => (fy c).2)) g' = 1 := by
                        show (if g' < qN G then (if g' = g' then 1 else qS G g') else 0) = 1
                        rw [if_pos hlt, if_pos rfl]
                      refine ⟨?_, ?_, ?_, ?_, ?_, ?_, ?_, ?_, ?_⟩
                      · rw [z1]; exact p1.trans y1
                      · rw [z3]
                        obtain ⟨j, j1, j2⟩ := y2
                        exact ⟨j, p2.trans j1, j2⟩
                      · rw [z2]
                        unfold Ctx at y3 ⊢
                        show Tel K' n' (P'.2.2.2.2.2.2.2.2.2.2.1 g') (P'.2.2.2.2.2.2.2.2.2.2.2.1 g') (qC G g') ∧ (qC G g').length ≤ P'.2.2.2.2.2.2.2.2.2.1 g' ∧ (qC G g').length ≤ 12
                        rw [p7, p8, p9]
                        exact y3
                      · rw [z4]; exact p10.trans y4
                      · rw [z4]
                        show ∀ (k : Nat) (p : Tm), (qP G g')[k]? = some p → ∃ j, P'.2.2.2.2.2.2.2.2.2.2.2.2.2 g' k = nz j ∧ Rep K' n' p j
                        rw [p11]
                        exact y5
                      · rw [hS1]; omega
                      · rw [hS1]; exact vu_at _ _ _
                      · intro q; rw [hS1] at q; cases q
                      · intro _
                        have e1 : qPl (splG A G g' pl (prT T) (fun c => (fy c).1) (fun c => (fy c).2)) g' = pl := up1_eq _ _ _
                        have e2 : qCh (splG A G g' pl (prT T) (fun c => (fy c).1) (fun c => (fy c).2)) g' = qN G := up1_eq _ _ _
                        rw [e1, e2]
                        exact ⟨vu_at _ _ _, vu_at _ _ _⟩
                    · have hSo : qS (splG A G g pl (prT T) (fun c => (fy c).1) (fun c => (fy c).2)) g' = qS G g' := by
                        show (if g' < qN G then (if g' = g then 1 else qS G g') else 0) = _
                        rw [if_pos hlt, if_neg eg]
                      refine GoalC_same (x5 g' hlt) ?_ (sm g' hlt) hSo (fun _ => rfl) (fun _ => ⟨up1_ne eg, up1_ne eg⟩)
                      obtain ⟨p1, p2, p3, p4, p5, p6, p7, p8, p9, p10, p11⟩ := w8 g' hlt
                      exact ⟨p1, p2, (vu_ne eg).trans p3, p4, (vu_ne eg).trans p5, (vu_ne eg).trans p6, p7, p8, p9, p10, p11⟩
                  · obtain ⟨k1, k2, k3⟩ := conOf_ok (A := A) (d := prT T) (r := g' - qN G) (sCc A) (by omega)
                    have hn : ¬ g' < qN G := hlt
                    obtain ⟨v1, v2, v3, v4⟩ := hfy _ k1 k2
                    rw [k3, show qN G + (g' - qN G) = g' by omega] at v4
                    obtain ⟨Z, v5, v6⟩ := v4
                    have gn := GoalC_new (P := P') (G := splG A G g pl (prT T) (fun c => (fy c).1) (fun c => (fy c).2)) v5 (if_neg hn) (if_neg hn) (if_neg hn) (if_neg hn) (if_neg hn)
                    have egg : ¬ g' = g := by omega
                    refine GoalC_same gn (PSame_trans v6 ?_) ⟨rfl, rfl, rfl, rfl⟩ rfl (fun _ => rfl) (fun _ => ⟨rfl, rfl⟩)
                    exact ⟨rfl, rfl, vu_ne egg, rfl, vu_ne egg, vu_ne egg, rfl, rfl, rfl, rfl, rfl⟩
          · rw [if_neg (by decide)] at start
            exact bad (-1000000) (by decide) (by rw [start]; rfl)
        · have hk2 : ¬ K.2.1 row = 2 := by rw [(Rep_view t4).1]; exact nz_ne (c := 2) (by omega) (by decide) hk
          have em : f_X0_splitIsTooMuch K S D P (nz g) (nz pl) = some 0 := by
            unfold f_X0_splitIsTooMuch
            rw [t2, Option.bind_some, g_kind, rKind_at hC.1 (Rep_lt t4), Option.bind_some, if_neg hk2]
          have eb : f_X0_splitBy K F S D P (nz g) (nz pl) = some (-1, K, F, S, D, P) := by
            unfold f_X0_splitBy
            rw [t2, Option.bind_some, g_kind, rKind_at hC.1 (Rep_lt t4), Option.bind_some, if_neg hk2]
          rw [em, Option.bind_some, if_pos rfl, eb] at start
          exact bad (-1500000) (by decide) (by rw [start]; rfl)
      · rw [if_neg (fun q => hs (stW_open.mp q))] at start
        exact bad (-1000000) (by decide) (by rw [start]; rfl)
    · rw [if_neg hp] at start
      exact bad (-2500000) (by decide) (by rw [start]; rfl)
  · refine bad (-3000000) (by decide) ?_
    unfold f_L_split f_X11_split
    rw [goalAt_ok hD2 h40 hg, if_neg hgl]
    rfl
