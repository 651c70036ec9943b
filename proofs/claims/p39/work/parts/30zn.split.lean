/-- the court after a split: Cf and Tf are the contexts and types of the children, by constructor -/
def splG (A : SG) (G : GG) (g0 pl d : Nat) (Cf : Nat → List Tm) (Tf : Nat → Tm) : GG :=
  ((fun g => if g < qN G then qF G g else qF G g0), (fun g => if g < qN G then qC G g else Cf (conOf A d (g - qN G) (sCc A))), (fun g => if g < qN G then qT G g else Tf (conOf A d (g - qN G) (sCc A))),
   (fun g => if g < qN G then qP G g else (qP G g0).map (fun p => sbs p (chS A ((qC G g0).length - 1 - pl) (conOf A d (g - qN G) (sCc A))))), (fun g => if g < qN G then (if g = g0 then 1 else qS G g) else 0), qR G, up1 (qPl G) g0 pl, up1 (qCh G) g0 (qN G), qN G + cntd A d (sCc A))
theorem spl_same (A : SG) (G : GG) (g0 pl d : Nat) (Cf : Nat → List Tm) (Tf : Nat → Tm) : GSame G (splG A G g0 pl d Cf Tf) (qN G) := fun g hg => ⟨if_pos hg, if_pos hg, if_pos hg, if_pos hg⟩
theorem map_qL (f : Nat) (ps : List Tm) (θ : Nat → Tm) : spine (fnn f) (ps.map (fun p => sbs p θ)) = sbs (spine (fnn f) ps) θ := by
  rw [spine_sbs]
  rfl
theorem court_split {A : SG} {B : FG} {G : GG} (h : CourtT A B G) {g0 pl d : Nat} {Cf : Nat → List Tm} {Tf : Nat → Tm} (hg0 : g0 < qN G) (hS : qS G g0 = 0) (hpl : pl < (qC G g0).length) (hd : (qC G g0)[(qC G g0).length - 1 - pl]? = some (dat d))
    (hN : qN G + cntd A d (sCc A) ≤ 40) (hC : ∀ c, c < sCc A → sOwn A c = d → ChildL (qC G g0) (Cf c) pl (cn c) ((sPrt A c).map dat) ∧ (Cf c).length ≤ 12 ∧ nf (sbs (qT G g0) (chS A ((qC G g0).length - 1 - pl) c)) = some (Tf c)) :
    CourtT A B (splG A G g0 pl d Cf Tf) := by
  obtain ⟨c1, c2, c3, c4, c5, c6⟩ := h
  have hs := spl_same A G g0 pl d Cf Tf
  obtain ⟨a1, a2, a3, a4, a5, a6, a7, a8, a9⟩ := c4 g0 hg0
  obtain ⟨b1, b2, b3, b4, b5⟩ := a6
  have hX0 : qX (splG A G g0 pl d Cf Tf) g0 = (qC G g0).length - 1 - pl := by
    unfold qX
    rw [(hs g0 hg0).2.1]
    show _ - 1 - up1 (qPl G) g0 pl g0 = _
    rw [up1_eq]
  have hS0 : qS (splG A G g0 pl d Cf Tf) g0 = 1 := by
    show (if g0 < qN G then (if g0 = g0 then 1 else qS G g0) else 0) = 1
    rw [if_pos hg0, if_pos rfl]
  have hSo : ∀ g, g < qN G → g ≠ g0 → qS (splG A G g0 pl d Cf Tf) g = qS G g := by
    intro g hg hne
    show (if g < qN G then (if g = g0 then 1 else qS G g) else 0) = _
    rw [if_pos hg, if_neg hne]
  have hXo : ∀ g, g < qN G → g ≠ g0 → qX (splG A G g0 pl d Cf Tf) g = qX G g := by
    intro g hg hne
    unfold qX
    rw [(hs g hg).2.1]
    show _ - 1 - up1 (qPl G) g0 pl g = _
    rw [up1_ne hne]
  -- a new goal
  have new : ∀ g, qN G ≤ g → g < qN G + cntd A d (sCc A) → ∃ c, c < sCc A ∧ sOwn A c = d ∧ cntd A d c = g - qN G ∧ qF (splG A G g0 pl d Cf Tf) g = qF G g0 ∧ qC (splG A G g0 pl d Cf Tf) g = Cf c ∧ qT (splG A G g0 pl d Cf Tf) g = Tf c ∧
      qP (splG A G g0 pl d Cf Tf) g = (qP G g0).map (fun p => sbs p (chS A ((qC G g0).length - 1 - pl) c)) ∧ qS (splG A G g0 pl d Cf Tf) g = 0 := by
    intro g q1 q2
    obtain ⟨k1, k2, k3⟩ := conOf_ok (A := A) (d := d) (r := g - qN G) (sCc A) (by omega)
    have hn : ¬ g < qN G := by omega
    exact ⟨_, k1, k2, k3, if_neg hn, if_neg hn, if_neg hn, if_neg hn, if_neg hn⟩
  have hdD : d < sDc A ∨ True := Or.inr trivial
  refine ⟨c1, c2, hN, ?_, ?_, ?_⟩
  · intro g hg
    have hg' : g < qN G + cntd A d (sCc A) := hg
    by_cases hgl : g < qN G
    · refine GoalOK_same hs (Nat.le_add_right _ _) hgl (Ex_refl _) (Nat.le_refl _) (fun _ _ => rfl) (c4 g hgl) ?_ ?_
      · intro q
        by_cases e : g = g0
        · subst e; rw [hS0] at q; cases q
        · rw [hSo g hgl e] at q
          obtain ⟨f1, f2, f3⟩ := (c4 g hgl).2.2.2.2.2.2.2.1 q
          refine ⟨?_, f2, f3⟩
          rw [(hs g hgl).2.1, (hs g hgl).2.2.1]
          exact f1
      · intro q
        by_cases e : g = g0
        · subst e
          have hp : qPl (splG A G g pl d Cf Tf) g = pl := up1_eq _ _ _
          have hc : qCh (splG A G g pl d Cf Tf) g = qN G := up1_eq _ _ _
          refine ⟨d, by rw [hp, (hs g hgl).2.1]; exact hpl, by rw [hX0, (hs g hgl).2.1]; exact hd, by rw [hc]; exact hgl, ?_⟩
          intro c k1 k2
          have hlt := cntd_lt k1 k2
          obtain ⟨c', n1, n2, n3, n4, n5, n6, n7, n8⟩ := new (qN G + cntd A d c) (Nat.le_add_right _ _) (by omega)
          have ecc : c' = c := by
            rcases Nat.lt_trichotomy c' c with w | w | w
            · have := cntd_lt w n2; omega
            · exact w
            · have := cntd_lt w k2; omega
          subst ecc
          rw [hc, hX0, n4, n5, n7, (hs g hgl).1, (hs g hgl).2.1, (hs g hgl).2.2.2]
          refine ⟨?_, rfl, rfl, ?_⟩
          · show qN G + cntd A d c' < qN G + cntd A d (sCc A); omega
          · have w := (ChildL_C hpl (hC c' k1 k2).1).1
            rw [List.length_map] at w
            exact w
        · rw [hSo g hgl e] at q
          exact SplitOK_same hs (Nat.le_add_right _ _) hgl (up1_ne e) (up1_ne e) ((c4 g hgl).2.2.2.2.2.2.2.2 q)
    · obtain ⟨c, n1, n2, n3, n4, n5, n6, n7, n8⟩ := new g (by omega) hg'
      obtain ⟨h1, h2, h3⟩ := hC c n1 n2
      have hm := c1.2.2 c n1
      have hch := ChildL_C hpl h1
      have hlen := hch.1
      rw [List.length_map] at hlen
      have eL : qL (splG A G g0 pl d Cf Tf) g = sbs (qL G g0) (chS A ((qC G g0).length - 1 - pl) c) := by
        unfold qL
        rw [n4, n7, map_qL]
      have hx : (qC G g0).length - 1 - pl < (qC G g0).length := by omega
      refine ⟨by rw [n4]; exact a1, by rw [n5]; exact h2, ?_, ?_, ?_, ⟨?_, ?_, ?_, ?_, ?_⟩, ?_, fun q => absurd q (by rw [n8]; decide), fun q => absurd q (by rw [n8]; decide)⟩
      · rw [n5]; exact ChildL_Ty (by omega) hm.2.1 a2 hpl a3 h1
      · rw [n6]
        have hf := freeT_thS (isC_cn c) (sPrt A c).length (qT G g0) ((qC G g0).length - 1 - pl)
        have := a4.2.2
        have := hm.2.1
        exact nf_TyOK h3 (by unfold chS; omega)
      · rw [n5]; exact Nat.le_trans (ChildL_ncl h1) a5
      · rw [n7, n4, List.length_map]; exact b1
      · rw [n7]
        intro p hp
        obtain ⟨p', hp', rfl⟩ := List.mem_map.mp hp
        exact patB_sbs p' true _ (b2 p' hp') (fun k => patB_thS (isC_cn c) (conB_cn c) k)
      · rw [eL]; exact child_lin (isC_cn c) b3
      · intro k
        rw [eL, n5]
        unfold chS
        rw [child_occ (isC_cn c) hx b4]
        omega
      · rw [eL]
        unfold chS
        rw [(size_child (con := conB) (fn := fnB) (isC_cn c)).2 _ (qL_lhsS (c4 g0 hg0))]
        have w := cntv_lin (qL G g0) ((qC G g0).length - 1 - pl) b3
        have w2 : 2 * (sPrt A c).length * cntv (qL G g0) ((qC G g0).length - 1 - pl) ≤ 4 * 1 := Nat.mul_le_mul (by have := hm.2.1; omega) w
        omega
      · intro fr tb' ok hb hx'
        rw [n5, n6, eL]
        have hty : tyOf tb' (cn c) = some (conType ((sPrt A c).map dat) (dat (sOwn A c))) := hx' _ _ (tbl_con n1)
        have hT : nf (sbs (qT G g0) (thS ((qC G g0).length - 1 - pl) ((sPrt A c).map dat).length (cn c))) = some (Tf c) := by rw [List.length_map]; exact h3
        have q := child_inv ok (a7 fr tb' ok hb hx') hch hT hd (isC_dat d) (isC_cn c) hty (dats_isC _) (isC_dat _)
        rw [List.length_map] at q
        exact q
  · intro g g' hg hg' hF hSn
    have hg2 : g < qN G + cntd A d (sCc A) := hg
    have hg2' : g' < qN G + cntd A d (sCc A) := hg'
    by_cases hgl : g < qN G
    · by_cases hgl' : g' < qN G
      · have e' : g' ≠ g0 := fun q => hSn (by rw [q]; exact hS0)
        rw [hSo g' hgl' e'] at hSn
        rw [(hs g hgl).1, (hs g' hgl').1] at hF
        rcases c5 g g' hgl hgl' hF hSn with q | q | ⟨q1, c, θ, q2, q3, q4⟩
        · exact Or.inl q
        · exact Or.inr (Or.inl (by rw [(hs g hgl).2.2.2, (hs g' hgl').2.2.2]; exact q))
        · have e : g ≠ g0 := fun q => by rw [q, hS] at q1; cases q1
          refine Or.inr (Or.inr ⟨by rw [hSo g hgl e]; exact q1, c, θ, q2, ?_, ?_⟩)
          · rw [hXo g hgl e, (hs g hgl).2.1]; exact q3
          · rw [hXo g hgl e, (hs g hgl).2.2.2, (hs g' hgl').2.2.2]; exact q4
      · obtain ⟨c', n1, n2, n3, n4, n5, n6, n7, n8⟩ := new g' (by omega) hg2'
        rw [(hs g hgl).1, n4] at hF
        by_cases e : g = g0
        · subst e
          refine Or.inr (Or.inr ⟨hS0, c', fun k => .index k, n1, ?_, ?_⟩)
          · rw [hX0, (hs g hgl).2.1, n2]; exact hd
          · rw [hX0, n7, (hs g hgl).2.2.2]
            rw [show (fun p => sbs p fun k => Jvm.Term.index k) = fun p => p from funext sbs_id, List.map_id']
        · rcases c5 g g0 hgl hg0 hF (by omega) with q | q | ⟨q1, c, θ, q2, q3, q4⟩
          · exact absurd q e
          · refine Or.inr (Or.inl ?_)
            rw [n7, (hs g hgl).2.2.2]
            exact NM_symm (NM_sbs _ (NM_symm q))
          · refine Or.inr (Or.inr ⟨by rw [hSo g hgl e]; exact q1, c, (fun k => sbs (θ k) (chS A ((qC G g0).length - 1 - pl) c')), q2, ?_, ?_⟩)
            · rw [hXo g hgl e, (hs g hgl).2.1]; exact q3
            · rw [hXo g hgl e, n7, (hs g hgl).2.2.2, q4, List.map_map, List.map_map, List.map_map]
              congr 1
              funext p
              show sbs (sbs (sbs p _) θ) _ = sbs (sbs p _) _
              rw [sbs_sbs]
    · obtain ⟨c, n1, n2, n3, n4, n5, n6, n7, n8⟩ := new g (by omega) hg2
      by_cases hgl' : g' < qN G
      · have e' : g' ≠ g0 := fun q => hSn (by rw [q]; exact hS0)
        rw [hSo g' hgl' e'] at hSn
        rw [n4, (hs g' hgl').1] at hF
        rcases c5 g0 g' hg0 hgl' hF hSn with q | q | ⟨q1, -⟩
        · exact absurd q.symm e'
        · refine Or.inr (Or.inl ?_)
          rw [n7, (hs g' hgl').2.2.2]
          exact NM_sbs _ q
        · rw [hS] at q1; cases q1
      · obtain ⟨c', m1, m2, m3, m4, m5, m6, m7, m8⟩ := new g' (by omega) hg2'
        by_cases e : g = g'
        · exact Or.inl e
        · refine Or.inr (Or.inl ?_)
          have hne : cn c ≠ cn c' := by
            intro q
            have q' : 8 * c + 3 = 8 * c' + 3 := by injection q
            have : c = c' := by omega
            subst this
            omega
          rw [n7, m7]
          exact NM_con (isC_cn c) (isC_cn c') hne ((b4 _).mpr (by omega))
  · intro f hf
    obtain ⟨k1, k2, k3⟩ := c6 f hf
    exact ⟨Nat.lt_of_lt_of_le k1 (Nat.le_add_right _ _), by rw [(hs _ k1).1]; exact k2, by rw [(hs _ k1).2.2.2]; exact k3⟩
