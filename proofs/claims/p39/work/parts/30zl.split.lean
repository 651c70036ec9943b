/-! a new function and a split, for the court as trees -/
theorem isC_dat (d : Nat) : isC (dat d) = true := rfl
theorem isC_cn (c : Nat) : isC (cn c) = true := rfl
theorem isC_fnn (f : Nat) : isC (fnn f) = true := rfl
theorem dats_isC (l : List Nat) : ∀ D ∈ l.map dat, isC D = true := by
  intro D hD
  obtain ⟨d, _, rfl⟩ := List.mem_map.mp hD
  rfl
theorem tbl_con {A : SG} {B : FG} {c : Nat} (h : c < sCc A) : tbl A B (8 * c + 3) = some (conT A c) := by
  unfold tbl
  rw [if_pos (by omega), show (8 * c + 3) / 8 = c by omega, if_pos h]
theorem tbl_fun {A : SG} {B : FG} {f : Nat} (h : f < fFc B) : tbl A B (8 * f + 4) = some (fTy B f) := by
  unfold tbl
  rw [if_neg (by omega), if_pos (by omega), show (8 * f + 4) / 8 = f by omega, if_pos h]
theorem freeT_conType : ∀ (l : List Nat) (d : Nat), freeT (conType (l.map dat) (dat d)) = 0
  | [], d => rfl
  | e :: l, d => by
    show max (freeT (dat e)) (freeT (conType (l.map dat) (dat d)) - 1) = 0
    rw [freeT_conType l d]; rfl
theorem tbl_ok {A : SG} {B : FG} (hB : FunOK B) : TBok (tbl A B) := by
  intro m T h
  unfold tbl at h
  split at h
  · split at h
    · rename_i h1 h2
      have e : conT A (m / 8) = T := by injection h
      refine ⟨Or.inl h1, fun σ => ?_⟩
      rw [← e]
      exact sbs_zero (freeT_conType _ _) σ
    · cases h
  · split at h
    · split at h
      · rename_i h1 h2 h3
        have e : fTy B (m / 8) = T := by injection h
        obtain ⟨l, R, g1, g2, g3, g4, g5, g6⟩ := hB.2 _ h3
        refine ⟨Or.inr h2, fun σ => ?_⟩
        rw [← e]
        exact sbs_zero g5 σ
      · cases h
    · cases h
theorem tbl_free {A : SG} {B : FG} (hB : FunOK B) : ∀ m T, tbl A B m = some T → freeT T = 0 := by
  intro m T h
  unfold tbl at h
  split at h
  · split at h
    · have e : conT A (m / 8) = T := by injection h
      rw [← e]; exact freeT_conType _ _
    · cases h
  · split at h
    · split at h
      · rename_i h1 h2 h3
        have e : fTy B (m / 8) = T := by injection h
        obtain ⟨l, R, g1, g2, g3, g4, g5, g6⟩ := hB.2 _ h3
        rw [← e]; exact g5
      · cases h
    · cases h
def decB (B : FG) (u : Tm) (r gn : Nat) : FG := (up1 (fTy B) (fFc B) u, up1 (fAr B) (fFc B) r, up1 (fFg B) (fFc B) gn, fFc B + 1)
def decG (G : GG) (fc : Nat) (l : List Tm) (R : Tm) : GG := (up1 (qF G) (qN G) fc, up1 (qC G) (qN G) l.reverse, up1 (qT G) (qN G) R, up1 (qP G) (qN G) (argv l.length 0), up1 (qS G) (qN G) 0, qR G, qPl G, qCh G, qN G + 1)
theorem dec_ex (A : SG) (B : FG) (u : Tm) (r gn : Nat) : Ex (tbl A B) (tbl A (decB B u r gn)) := by
  intro m T h
  unfold tbl at h ⊢
  split at h
  · rename_i h1
    rw [if_pos h1]; exact h
  · rename_i h1
    rw [if_neg h1]
    split at h
    · rename_i h2
      rw [if_pos h2]
      split at h
      · rename_i h3
        rw [if_pos (show m / 8 < fFc (decB B u r gn) from Nat.lt_succ_of_lt h3)]
        show some (up1 (fTy B) (fFc B) u (m / 8)) = _
        rw [up1_ne (by omega)]; exact h
      · cases h
    · cases h
theorem dec_same (G : GG) (fc : Nat) (l : List Tm) (R : Tm) : GSame G (decG G fc l R) (qN G) := fun g hg => ⟨up1_ne (by omega), up1_ne (by omega), up1_ne (by omega), up1_ne (by omega)⟩
theorem court_declare {A : SG} {B : FG} {G : GG} (h : CourtT A B G) {l : List Tm} {R : Tm} (h1 : 1 ≤ l.length) (h4 : l.length ≤ 4) (hf : freeT (conType l R) = 0) (hz : sizeT (conType l R) ≤ 80) (hl : looseT (conType l R) = false) (hg : qN G < 40) (hfc : fFc B < 8) :
    CourtT A (decB B (conType l R) l.length (qN G)) (decG G (fFc B) l R) := by
  obtain ⟨c1, c2, c3, c4, c5, c6⟩ := h
  obtain ⟨p1, p2, p3, p4⟩ := conType_parts l R
  have hs := dec_same G (fFc B) l R
  have hx := dec_ex A B (conType l R) l.length (qN G)
  refine ⟨c1, ⟨hfc, ?_⟩, hg, ?_, ?_, ?_⟩
  · intro f hf2
    have hf3 : f < fFc B + 1 := hf2
    by_cases e : f = fFc B
    · subst e
      refine ⟨l, R, up1_eq _ _ _, (up1_eq _ _ _).symm, ?_, ?_, ?_, ?_, ?_⟩
      · show 1 ≤ up1 (fAr B) (fFc B) l.length (fFc B); rw [up1_eq]; exact h1
      · show up1 (fAr B) (fFc B) l.length (fFc B) ≤ 4; rw [up1_eq]; exact h4
      · show freeT (up1 (fTy B) (fFc B) (conType l R) (fFc B)) = 0; rw [up1_eq]; exact hf
      · show sizeT (up1 (fTy B) (fFc B) (conType l R) (fFc B)) ≤ 80; rw [up1_eq]; exact hz
      · show looseT (up1 (fTy B) (fFc B) (conType l R) (fFc B)) = false; rw [up1_eq]; exact hl
    · obtain ⟨l', R', q1, q2, q3, q4, q5, q6, q7⟩ := c2.2 f (by omega)
      have e1 : fTy (decB B (conType l R) l.length (qN G)) f = fTy B f := up1_ne e
      have e2 : fAr (decB B (conType l R) l.length (qN G)) f = fAr B f := up1_ne e
      exact ⟨l', R', by rw [e1]; exact q1, by rw [e2]; exact q2, by rw [e2]; exact q3, by rw [e2]; exact q4, by rw [e1]; exact q5, by rw [e1]; exact q6, by rw [e1]; exact q7⟩
  · intro g hg2
    have hg3 : g < qN G + 1 := hg2
    by_cases e : g = qN G
    · subst e
      have eF : qF (decG G (fFc B) l R) (qN G) = fFc B := up1_eq _ _ _
      have eC : qC (decG G (fFc B) l R) (qN G) = l.reverse := up1_eq _ _ _
      have eT : qT (decG G (fFc B) l R) (qN G) = R := up1_eq _ _ _
      have eP : qP (decG G (fFc B) l R) (qN G) = argv l.length 0 := up1_eq _ _ _
      have eS : qS (decG G (fFc B) l R) (qN G) = 0 := up1_eq _ _ _
      have eL : qL (decG G (fFc B) l R) (qN G) = spine (fnn (fFc B)) (argv l.length 0) := by unfold qL; rw [eF, eP]
      refine ⟨by rw [eF]; exact Nat.lt_succ_self _, by rw [eC, List.length_reverse]; omega, ?_, ?_, ?_, ⟨?_, ?_, ?_, ?_, ?_⟩, ?_, fun q => absurd q (by rw [eS]; decide), fun q => absurd q (by rw [eS]; decide)⟩
      · intro T hT
        rw [eC, List.mem_reverse] at hT
        obtain ⟨g1, g2, g3⟩ := p1 T hT
        exact ⟨by omega, g2 hl, by omega⟩
      · rw [eT]; exact ⟨by omega, p3 hl, by omega⟩
      · rw [eC]
        have q := List.length_filter_le (fun T => freeT T != 0) l.reverse
        rw [List.length_reverse] at q
        exact Nat.le_trans q h4
      · rw [eP, eF, argv_length]; exact (up1_eq _ _ _).symm
      · rw [eP]
        have w : ∀ m x, ∀ p ∈ argv m x, patB conB p true := by
          intro m
          induction m with
          | zero => intro x p hp; exact absurd hp (List.not_mem_nil)
          | succ m ih =>
            intro x p hp
            rcases List.mem_cons.mp hp with rfl | hp
            · exact rfl
            · exact ih x p hp
        exact w _ _
      · rw [eL]; exact lin_spine_argv _ _ _ trivial (fun i hi => absurd hi (occ_c rfl i))
      · intro k
        rw [eL, eC, List.length_reverse, occ_spine_argv]
        exact ⟨fun q => q.elim (fun q => absurd q (occ_c rfl k)) (fun q => by omega), fun q => Or.inr ⟨Nat.zero_le _, by omega⟩⟩
      · rw [eL, sizeT_spine_argv]
        show 1 + 2 * l.length ≤ _
        omega
      · intro fr tb' ok hb hx'
        rw [eC, eT, eL]
        refine root_inv ok ?_ hf
        have q : tbl A (decB B (conType l R) l.length (qN G)) (8 * fFc B + 4) = some (conType l R) := by
          rw [tbl_fun (show fFc B < fFc B + 1 by omega)]
          exact congrArg some (up1_eq _ _ _)
        exact hx' _ _ q
    · have hgl : g < qN G := by omega
      obtain ⟨a1, a2, a3, a4, a5, a6, a7, a8, a9⟩ := c4 g hgl
      have eS : qS (decG G (fFc B) l R) g = qS G g := up1_ne (by omega)
      refine GoalOK_same hs (Nat.le_succ _) hgl hx (Nat.le_succ _) (fun f hf => up1_ne (by omega)) (c4 g hgl) ?_ ?_
      · intro q
        rw [eS] at q
        obtain ⟨b1, b2, b3⟩ := a8 q
        refine ⟨?_, b2, b3⟩
        rw [(hs g hgl).2.1, (hs g hgl).2.2.1]
        exact fill_mono hx b1
      · intro q
        rw [eS] at q
        exact SplitOK_same hs (Nat.le_succ _) hgl rfl rfl (a9 q)
  · intro g g' hg2 hg2' hF hS
    have hg3 : g < qN G + 1 := hg2
    have hg3' : g' < qN G + 1 := hg2'
    have old : ∀ x, x < qN G → qF (decG G (fFc B) l R) x < fFc B := fun x hx => by rw [(hs x hx).1]; exact (c4 x hx).1
    have new : qF (decG G (fFc B) l R) (qN G) = fFc B := up1_eq _ _ _
    by_cases e : g = qN G
    · by_cases e' : g' = qN G
      · exact Or.inl (e.trans e'.symm)
      · have := old g' (by omega); rw [e, new] at hF; omega
    · by_cases e' : g' = qN G
      · have := old g (by omega); rw [e', new] at hF; omega
      · have hgl : g < qN G := by omega
        have hgl' : g' < qN G := by omega
        have eS : qS (decG G (fFc B) l R) g' = qS G g' := up1_ne e'
        have eS2 : qS (decG G (fFc B) l R) g = qS G g := up1_ne e
        rw [(hs g hgl).1, (hs g' hgl').1] at hF
        rw [eS] at hS
        rcases c5 g g' hgl hgl' hF hS with q | q | ⟨q1, c, θ, q2, q3, q4⟩
        · exact Or.inl q
        · exact Or.inr (Or.inl (by rw [(hs g hgl).2.2.2, (hs g' hgl').2.2.2]; exact q))
        · refine Or.inr (Or.inr ⟨by rw [eS2]; exact q1, c, θ, q2, ?_, ?_⟩)
          · have hX : qX (decG G (fFc B) l R) g = qX G g := by unfold qX; rw [(hs g hgl).2.1]; rfl
            rw [hX, (hs g hgl).2.1]; exact q3
          · have hX : qX (decG G (fFc B) l R) g = qX G g := by unfold qX; rw [(hs g hgl).2.1]; rfl
            rw [hX, (hs g hgl).2.2.2, (hs g' hgl').2.2.2]; exact q4
  · intro f hf2
    have hf3 : f < fFc B + 1 := hf2
    by_cases e : f = fFc B
    · subst e
      have e1 : fFg (decB B (conType l R) l.length (qN G)) (fFc B) = qN G := up1_eq _ _ _
      have e2 : fAr (decB B (conType l R) l.length (qN G)) (fFc B) = l.length := up1_eq _ _ _
      rw [e1, e2]
      exact ⟨Nat.lt_succ_self _, up1_eq _ _ _, up1_eq _ _ _⟩
    · have e1 : fFg (decB B (conType l R) l.length (qN G)) f = fFg B f := up1_ne e
      have e2 : fAr (decB B (conType l R) l.length (qN G)) f = fAr B f := up1_ne e
      obtain ⟨b1, b2, b3⟩ := c6 f (by omega)
      rw [e1, e2]
      exact ⟨Nat.lt_succ_of_lt b1, by rw [(hs _ b1).1]; exact b2, by rw [(hs _ b1).2.2.2]; exact b3⟩
