/-! what a value comes to with one more argument -/
noncomputable def appT (A : SG) (B : FG) (G : GG) (v a : Tm) (tk : Nat) : Option (Tm × Bool × Nat) :=
  if isL v = true then (if 40 < tk + 1 then none else if sizeT (inst (bodyT v) a) ≤ 200 then some (inst (bodyT v) a, true, tk + 1) else none)
  else if 200 ≤ sizeT v + sizeT a then none
  else if kdT (headc v) = 3 then (if prT (headc v) < sCc A ∧ nargs v + 1 ≤ (sPrt A (prT (headc v))).length then some (.mul v a, false, tk) else none)
  else if kdT (headc v) = 4 then (if prT (headc v) < fFc B then (if nargs v + 1 < fAr B (prT (headc v)) then some (.mul v a, false, tk) else if nargs v + 1 = fAr B (prT (headc v)) then (if 40 < tk + 1 then none else (frOf (Cls G) (.mul v a)).bind (fun r => if sizeT r ≤ 200 then some (r, true, tk + 1) else none)) else none) else none)
  else none
def setWs (M : MS) (w : Int32) : MS := (M.1, M.2.1, M.2.2.1, M.2.2.2.1, M.2.2.2.2.1, M.2.2.2.2.2.1, M.2.2.2.2.2.2.1, w, M.2.2.2.2.2.2.2.2)
def setTk (M : MS) (t : Int32) : MS := (M.1, M.2.1, M.2.2.1, M.2.2.2.1, M.2.2.2.2.1, M.2.2.2.2.2.1, t, M.2.2.2.2.2.2.2.1, M.2.2.2.2.2.2.2.2)
def MKeep (M M' : MS) : Prop := M'.1 = M.1 ∧ M'.2.1 = M.2.1 ∧ M'.2.2.2.2.2.1 = M.2.2.2.2.2.1 ∧ M'.2.2.2.2.2.2.2.2 = M.2.2.2.2.2.2.2.2
theorem take_ok {M : MS} {tk : Nat} (h : M.2.2.2.2.2.2.1 = nz tk) (htk : tk < 1000) : g_X5_takeStep M = some ((if 40 < tk + 1 then 0 else 1), setTk M (nz (tk + 1))) := by
  unfold g_X5_takeStep f_X5_takeStep
  rw [h, show nz tk + 1 = nz (tk + 1) from nz_add tk 1]
  by_cases q : 40 < tk + 1
  · rw [if_pos q, if_pos (show (40 : Int32) < nz (tk + 1) from (nz_lt (i := 40) (by decide) (by omega)).mpr q)]
    rfl
  · rw [if_neg q, if_neg (show ¬ (40 : Int32) < nz (tk + 1) from fun hq => q ((nz_lt (i := 40) (by decide) (by omega)).mp hq))]
    rfl
/-- the steps taken, if it fails -/
noncomputable def appK (A : SG) (B : FG) (v a : Tm) (tk : Nat) : Nat :=
  if isL v = true then tk + 1 else if 200 ≤ sizeT v + sizeT a then tk else if kdT (headc v) = 4 ∧ prT (headc v) < fFc B ∧ nargs v + 1 = fAr B (prT (headc v)) then tk + 1 else tk
/-- what it answers -/
def AppR (o : Option (Int32 × TS × MS)) (K : Rows) (n : Nat) (M : MS) (R : Option (Tm × Bool × Nat)) (tf : Nat) : Prop :=
  ∃ K' n' M' x, o = some (x, K', M') ∧ WF K' n' ∧ n ≤ n' ∧ Ext K K' n ∧ MKeep M M' ∧ ((R = none ∧ x = -1 ∧ M'.2.2.2.2.2.2.1 = nz tf) ∨ (∃ w st tk' m, R = some (w, st, tk') ∧ x = nz m ∧ Rep K' n' w m ∧ M'.2.2.2.2.2.2.1 = nz tk' ∧ M'.2.2.2.2.2.2.2.1 = (if st = true then 1 else 0) ∧ n' ≤ n + (if st = true then 201 else 1)))
theorem head_none (K : Rows) : rHead K (-1) = some (-1) := by
  unfold rHead f_X9_headOf
  rw [show (100000 : Nat) = 99999 + 1 from rfl]
  unfold f_X9_headOf_L4
  rw [if_neg (by decide), if_pos (by decide)]
theorem args_none (K : Rows) : rArgs K (-1) = some 0 := by
  unfold rArgs f_X9_argumentsOf
  rw [show (100000 : Nat) = 99999 + 1 from rfl]
  unfold f_X9_argumentsOf_L4
  rw [if_neg (by decide), if_pos (by decide)]
theorem partsOf_no {K : Rows} {n c : Nat} {S : SS} {A : SG} (h : SigC K n S A) (h16 : sCc A ≤ 16) (hc : sCc A ≤ c) (hc2 : c < 1000000) : g_X7_partsOf S (nz c) = some (-1) := by
  obtain ⟨a1, a2, a3, a4⟩ := h
  unfold g_X7_partsOf f_X7_partsOf f_X7_hasConstructor
  rw [map_same, a2, if_neg (nz_neg (by omega)), if_pos ((nz_le (by omega) (by omega)).mpr hc), Option.bind_some, if_pos rfl]
theorem app_ok {K : Rows} {n i j tk : Nat} {S : SS} {D : DS} {P : PS} {A : SG} {B : FG} {G : GG} {M : MS} {v a T : Tm} (hC : CourtC K n S D P A B G) (ht : CourtT A B G) (hv : Rep K n v i) (ha : Rep K n a j) (hty : Typ (frOf (Cls G)) (tyOf (tbX A B)) (.mul v a) [] T) (hvf : freeT v = 0) (haf : freeT a = 0) (hM : M.2.2.2.2.2.2.1 = nz tk) (htk : tk < 1000) (hroom : n + 1 ≤ 32768) (hroom2 : tk < 40 → n + 300 ≤ 32768) :
    AppR (f_X5_applied K S D M P (nz i) (nz j)) K n M (appT A B G v a tk) (appK A B v a tk) := by
  have hw := hC.1
  have hi := Rep_lt hv
  have hj := Rep_lt ha
  have hn := hw.2.1
  have h8 := ht.2.1.1
  have h16 := ht.1.1
  have hk8 : kdT v < 8 := by rcases (Rep_view hv).2 with w | w <;> omega
  by_cases hL : isL v = true
  · have e6 : K.2.1 i = 6 := (Rep_isL hv).mpr hL
    obtain ⟨X, c, rfl⟩ := isL_ex hL
    obtain ⟨h1, h2, h3, jx, jc, a4, a5, a6, a7, a8, a9⟩ := hv
    have st : f_X5_applied K S D M P (nz i) (nz j) = (if 40 < tk + 1 then some ((-1), K, setTk (setWs M 1) (nz (tk + 1))) else (rPut 200 K (nz jc) (nz j) (nz 0)).bind (fun q => some (q.1, q.2, setTk (setWs M 1) (nz (tk + 1))))) := by
      unfold f_X5_applied
      rw [g_kind, rKind_at hw h1, Option.bind_some, if_pos e6, take_ok (M := (M.1, M.2.1, M.2.2.1, M.2.2.2.1, M.2.2.2.2.1, M.2.2.2.2.2.1, M.2.2.2.2.2.2.1, 1, M.2.2.2.2.2.2.2.2)) (tk := tk) hM htk, Option.bind_some]
      by_cases q : 40 < tk + 1
      · rw [if_pos q, if_pos rfl, if_pos q]
        rfl
      · rw [if_neg q, if_neg (show ¬ (1 : Int32) = 0 by decide), if_neg q, g_second, rSecond_at hw h1, Option.bind_some, a7, g_put]
        rfl
    have eR : appT A B G (.sub X c) a tk = (if 40 < tk + 1 then none else if sizeT (inst c a) ≤ 200 then some (inst c a, true, tk + 1) else none) := if_pos rfl
    have eK : appK A B (.sub X c) a tk = tk + 1 := if_pos rfl
    rw [st, eR, eK]
    by_cases q : 40 < tk + 1
    · rw [if_pos q, if_pos q]
      exact ⟨K, n, _, -1, rfl, hw, Nat.le_refl _, Ext_refl K n, ⟨rfl, rfl, rfl, rfl⟩, Or.inl ⟨rfl, rfl, rfl⟩⟩
    · rw [if_neg q, if_neg q]
      have hzc := Rep_size c jc a9
      have hfc : freeT c ≤ 1 := by
        have e : freeT (.sub X c : Tm) = max (freeT X) (freeT c - 1) := rfl
        rw [e] at hvf
        omega
      have tr := cPut_made a j haf c 200 K n jc 0 hw a9 ha hzc (by omega) (by omega)
      rw [pt_zero] at tr
      obtain ⟨K', n', w1, w2, w3, w4, w5⟩ := tr
      rcases w5 with ⟨s1, m, s2, s3⟩ | ⟨s1, s2⟩
      · rw [s2, Option.bind_some, if_pos s1]
        exact ⟨K', n', _, nz m, rfl, w1, w2, w4, ⟨rfl, rfl, rfl, rfl⟩, Or.inr ⟨inst c a, true, tk + 1, m, rfl, rfl, s3, rfl, rfl, by rw [if_pos rfl]; omega⟩⟩
      · rw [s2, Option.bind_some, if_neg (by omega)]
        exact ⟨K', n', _, -1, rfl, w1, w2, w4, ⟨rfl, rfl, rfl, rfl⟩, Or.inl ⟨rfl, rfl, rfl⟩⟩
  · have e6 : ¬ K.2.1 i = 6 := fun q => hL ((Rep_isL hv).mp q)
    have eR : appT A B G v a tk = (if 200 ≤ sizeT v + sizeT a then none else if kdT (headc v) = 3 then (if prT (headc v) < sCc A ∧ nargs v + 1 ≤ (sPrt A (prT (headc v))).length then some (.mul v a, false, tk) else none)
        else if kdT (headc v) = 4 then (if prT (headc v) < fFc B then (if nargs v + 1 < fAr B (prT (headc v)) then some (.mul v a, false, tk) else if nargs v + 1 = fAr B (prT (headc v)) then (if 40 < tk + 1 then none else (frOf (Cls G) (.mul v a)).bind (fun r => if sizeT r ≤ 200 then some (r, true, tk + 1) else none)) else none) else none) else none) := if_neg hL
    have eK : appK A B v a tk = (if 200 ≤ sizeT v + sizeT a then tk else if kdT (headc v) = 4 ∧ prT (headc v) < fFc B ∧ nargs v + 1 = fAr B (prT (headc v)) then tk + 1 else tk) := if_neg hL
    rw [eR, eK]
    by_cases hs : 200 ≤ sizeT v + sizeT a
    · rw [if_pos hs, if_pos hs]
      have hp : rPair K 7 (nz i) (nz j) = some (-1, K) := pair_big (k := 7) hw (by decide) (by decide) hv ha hs
      refine ⟨K, n, setWs M 0, -1, ?_, hw, Nat.le_refl _, Ext_refl K n, ⟨rfl, rfl, rfl, rfl⟩, Or.inl ⟨rfl, rfl, hM⟩⟩
      unfold f_X5_applied
      rw [g_kind, rKind_at hw hi, Option.bind_some, if_neg e6, g_pair, hp, Option.bind_some]
      show (g_X9_headOf K (-1)).bind _ = _
      rw [g_head, head_none, Option.bind_some]
      show (g_X9_argumentsOf K (-1)).bind _ = _
      rw [g_args, args_none, Option.bind_some]
      show (g_X9_kindOf K (-1)).bind _ = _
      rw [g_kind, kind_none, Option.bind_some, if_neg (by decide), Option.bind_some, if_neg (by decide)]
      rfl
    · rw [if_neg hs, if_neg hs]
      obtain ⟨K1, p1, p2, p3, p4⟩ := pair_tree (k := 7) hw (by omega) (by decide) (by decide) hv ha (by omega)
      have p1' : rPair K 7 (nz i) (nz j) = some (nz n, K1) := p1
      have p4' : Rep K1 (n + 1) (.mul v a) n := p4
      have hC1 := CourtC_ext hC p2 p3 (Nat.le_succ _)
      obtain ⟨jh, d1, d2⟩ := rHead_at p2 p4'
      have d3 := rArgs_at p2 p4'
      have d2' : Rep K1 (n + 1) (headc v) jh := d2
      have d3' : rArgs K1 (nz n) = some (nz (nargs v + 1)) := d3
      have hh8 : kdT (headc v) < 8 := by rcases (Rep_view d2').2 with w | w <;> omega
      have hna := nargs_size v
      have hzv := Rep_size v i hv
      have start : f_X5_applied K S D M P (nz i) (nz j) = (if nz (kdT (headc v)) = 3 then (Option.bind (g_X9_firstOf K1 (nz jh)) (fun q_20 => (Option.bind (g_X7_partsOf S q_20) (fun q_21 => (if q_21 < nz (nargs v + 1) then some ((-1), K1, setWs M 0) else some (nz n, K1, setWs M 0)))))) else (if nz (kdT (headc v)) = 4 then (Option.bind (g_X9_firstOf K1 (nz jh)) (fun q_10 => (Option.bind (f_X0_function D q_10) (fun q_11 => (if q_11 < 0 then some ((-1), K1, setWs M 0) else (if fix D q_11 = true then (if nz (nargs v + 1) ≤ (P.2.1 (Int32.toNatClampNeg q_11)) then (if (P.2.1 (Int32.toNatClampNeg q_11)) ≤ nz (nargs v + 1) then (Option.bind (g_X5_takeStep (setWs M 1)) (fun q_16 => (if q_16.1 = 0 then some ((-1), K1, q_16.2) else (Option.bind (g_X9_firstOf K1 (nz jh)) (fun q_18 => (Option.bind (f_X5_rightSideFor K1 S D q_16.2 P q_11 q_18 (nz n)) (fun q_19 => some (q_19.1, q_19.2.1, q_19.2.2)))))))) else some (nz n, K1, setWs M 0)) else some ((-1), K1, setWs M 0)) else none)))))) else some ((-1), K1, setWs M 0))) := by
        unfold f_X5_applied
        rw [g_kind, rKind_at hw hi, Option.bind_some, if_neg e6, g_pair, p1', Option.bind_some]
        show (g_X9_headOf K1 (nz n)).bind _ = _
        rw [g_head, d1, Option.bind_some]
        show (g_X9_argumentsOf K1 (nz n)).bind _ = _
        rw [g_args, d3', Option.bind_some]
        show (g_X9_kindOf K1 (nz jh)).bind _ = _
        rw [g_kind, rKind_at p2 (Rep_lt d2'), Option.bind_some, (Rep_view d2').1, Option.bind_some]
        rfl
      rw [start]
      have keep0 : MKeep M (setWs M 0) := ⟨rfl, rfl, rfl, rfl⟩
      have fail : ∀ (tf : Nat) (M' : MS), MKeep M M' → M'.2.2.2.2.2.2.1 = nz tf → AppR (some ((-1 : Int32), K1, M')) K n M none tf := fun tf M' hk hf => ⟨K1, n + 1, M', -1, rfl, p2, Nat.le_succ _, p3, hk, Or.inl ⟨rfl, rfl, hf⟩⟩
      have whole : ∀ tf, AppR (some (nz n, K1, setWs M 0)) K n M (some (.mul v a, false, tk)) tf := fun tf => ⟨K1, n + 1, setWs M 0, nz n, rfl, p2, Nat.le_succ _, p3, keep0, Or.inr ⟨.mul v a, false, tk, n, rfl, rfl, p4', hM, rfl, by rw [if_neg (by decide)]; omega⟩⟩
      by_cases h3 : kdT (headc v) = 3
      · obtain ⟨f1, f2⟩ : K1.2.2.1 jh = nz (prT (headc v)) ∧ prT (headc v) < 1000000 := by
          rcases (Rep_view d2').2 with w | w
          · exact ⟨w.2.2.1, w.2.1⟩
          · omega
        rw [if_pos h3, if_pos (show nz (kdT (headc v)) = 3 by rw [h3]; rfl), g_first, rFirst_at p2 (Rep_lt d2'), Option.bind_some, f1]
        by_cases hc : prT (headc v) < sCc A
        · have hm2 := (ht.1.2.2 _ hc).2.1
          rw [partsOf_ok hC1.2.1 h16 hc, Option.bind_some]
          by_cases hq : nargs v + 1 ≤ (sPrt A (prT (headc v))).length
          · rw [if_neg (show ¬ nz (sPrt A (prT (headc v))).length < nz (nargs v + 1) from fun w => absurd ((nz_lt (by omega) (by omega)).mp w) (by omega)), if_pos ⟨hc, hq⟩]
            exact whole _
          · rw [if_pos (show nz (sPrt A (prT (headc v))).length < nz (nargs v + 1) from (nz_lt (by omega) (by omega)).mpr (by omega)), if_neg (fun w => hq w.2)]
            rw [if_neg (fun (w : kdT (headc v) = 4 ∧ prT (headc v) < fFc B ∧ nargs v + 1 = fAr B (prT (headc v))) => absurd w.1 (by omega))]
            exact fail _ _ keep0 hM
        · rw [partsOf_no hC1.2.1 h16 (by omega) f2, Option.bind_some]
          have hlt : (-1 : Int32) < nz (nargs v + 1) := by
            rw [Int32.lt_iff_toInt_lt, nz_toInt (by omega)]
            have e : (-1 : Int32).toInt = -1 := by decide
            omega
          rw [if_pos hlt, if_neg (fun w => hc w.1)]
          rw [if_neg (fun (w : kdT (headc v) = 4 ∧ prT (headc v) < fFc B ∧ nargs v + 1 = fAr B (prT (headc v))) => absurd w.1 (by omega))]
          exact fail _ _ keep0 hM
      · rw [if_neg h3, if_neg (show ¬ nz (kdT (headc v)) = (3 : Int32) from nz_ne (c := 3) (by omega) (by decide) h3)]
        by_cases h4 : kdT (headc v) = 4
        · obtain ⟨f1, f2, f3⟩ : K1.2.2.1 jh = nz (prT (headc v)) ∧ prT (headc v) < 1000000 ∧ headc v = fnn (prT (headc v)) := by
            rcases (Rep_view d2').2 with w | w
            · refine ⟨w.2.2.1, w.2.1, ?_⟩
              have w4 := w.2.2.2
              rw [h4, if_neg (by decide)] at w4
              exact w4
            · omega
          rw [if_pos h4, if_pos (show nz (kdT (headc v)) = 4 by rw [h4]; rfl), g_first, rFirst_at p2 (Rep_lt d2'), Option.bind_some, f1, function_at hC1.2.2.1.1 h8 f2, Option.bind_some]
          by_cases hf : prT (headc v) < fFc B
          · obtain ⟨-, u1, u2⟩ := hC1.2.2.1.2 _ hf
            have hr4 : fAr B (prT (headc v)) ≤ 4 := by
              obtain ⟨l, R, q1, q2, q3, q4, -⟩ := ht.2.1.2 _ hf
              omega
            rw [if_pos hf, if_pos hf, if_neg (nz_neg (by omega)), if_pos (fix_at hC1.2.2.1.1 h8 hf), nz_nat (show prT (headc v) < 2147483648 by omega), u1]
            by_cases c1 : nargs v + 1 < fAr B (prT (headc v))
            · rw [if_pos c1, if_pos ((nz_le (by omega) (by omega)).mpr (by omega)), if_neg (fun w => absurd ((nz_le (by omega) (by omega)).mp w) (by omega))]
              exact whole _
            · rw [if_neg c1]
              by_cases c2 : nargs v + 1 = fAr B (prT (headc v))
              · rw [if_pos c2, if_pos ((nz_le (by omega) (by omega)).mpr (by omega)), if_pos ((nz_le (by omega) (by omega)).mpr (by omega)), take_ok (M := setWs M 1) (tk := tk) hM htk, Option.bind_some]
                by_cases q : 40 < tk + 1
                · rw [if_pos q, if_pos q, if_pos rfl]
                  rw [if_pos (show kdT (headc v) = 4 ∧ prT (headc v) < fFc B ∧ nargs v + 1 = fAr B (prT (headc v)) from ⟨h4, hf, c2⟩)]
                  exact fail _ _ ⟨rfl, rfl, rfl, rfl⟩ rfl
                · rw [if_neg q, if_neg q, if_neg (show ¬ (1 : Int32) = 0 by decide), Option.bind_some]
                  obtain ⟨l, l1, l2⟩ := spine_of (.mul v a)
                  have lh : headc (.mul v a : Tm) = fnn (prT (headc v)) := f3
                  have ln : nargs (.mul v a : Tm) = nargs v + 1 := rfl
                  rw [lh] at l1
                  rw [ln] at l2
                  have hcl : ∀ x ∈ l, freeT x = 0 := by
                    have e : freeT (.mul v a : Tm) = max (freeT v) (freeT a) := rfl
                    have e0 : freeT (.mul v a : Tm) = 0 := by rw [e]; omega
                    rw [l1] at e0
                    exact (freeT_spine l _ e0).2
                  rw [l1] at p4' hty
                  obtain ⟨K2, n2, gv, va, vc, x, w1, w2, w3, w4, w5, w6⟩ := call_ok (M := setTk (setWs M 1) (nz (tk + 1))) hC1 ht hf p4' hty (by omega) hcl (by omega)
                  have hx := Ext_trans p3 w5 (Nat.le_succ _)
                  rw [l1]
                  rw [if_pos (show kdT (headc v) = 4 ∧ prT (headc v) < fFc B ∧ nargs v + 1 = fAr B (prT (headc v)) from ⟨h4, hf, c2⟩)]
                  show AppR (Option.bind (f_X5_rightSideFor K1 S D (setTk (setWs M 1) (nz (tk + 1))) P (nz (prT (headc v))) (nz (prT (headc v))) (nz n)) _) K n M _ _
                  rw [w1, Option.bind_some]
                  rcases w6 with ⟨r, m, r1, r2, r3, r4⟩ | ⟨r1, r2⟩
                  · rw [r1, Option.bind_some, if_pos r2]
                    exact ⟨K2, n2, mkV (setTk (setWs M 1) (nz (tk + 1))) gv va vc, x, rfl, w2, by omega, hx, ⟨rfl, rfl, rfl, rfl⟩, Or.inr ⟨r, true, tk + 1, m, rfl, r3, r4, rfl, rfl, by rw [if_pos rfl]; omega⟩⟩
                  · have en : (frOf (Cls G) (spine (fnn (prT (headc v))) l)).bind (fun r => if sizeT r ≤ 200 then some (r, true, tk + 1) else none) = none := by
                      cases hq : frOf (Cls G) (spine (fnn (prT (headc v))) l) with
                      | none => rfl
                      | some r =>
                        have := r1 r hq
                        rw [Option.bind_some, if_neg (by omega)]
                    rw [en]
                    exact ⟨K2, n2, mkV (setTk (setWs M 1) (nz (tk + 1))) gv va vc, x, rfl, w2, by omega, hx, ⟨rfl, rfl, rfl, rfl⟩, Or.inl ⟨rfl, r2, rfl⟩⟩
              · rw [if_neg c2, if_neg (fun w => absurd ((nz_le (by omega) (by omega)).mp w) (by omega))]
                rw [if_neg (fun (w : kdT (headc v) = 4 ∧ prT (headc v) < fFc B ∧ nargs v + 1 = fAr B (prT (headc v))) => c2 w.2.2)]
                exact fail _ _ keep0 hM
          · rw [if_neg hf, if_neg hf, if_pos (by decide)]
            rw [if_neg (fun (w : kdT (headc v) = 4 ∧ prT (headc v) < fFc B ∧ nargs v + 1 = fAr B (prT (headc v))) => hf w.2.1)]
            exact fail _ _ keep0 hM
        · rw [if_neg h4, if_neg (show ¬ nz (kdT (headc v)) = (4 : Int32) from nz_ne (c := 4) (by omega) (by decide) h4)]
          rw [if_neg (fun (w : kdT (headc v) = 4 ∧ prT (headc v) < fFc B ∧ nargs v + 1 = fAr B (prT (headc v))) => h4 w.1)]
          exact fail _ _ keep0 hM
