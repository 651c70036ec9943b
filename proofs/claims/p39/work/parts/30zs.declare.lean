theorem nz_lt_iff {x c : Nat} (hx : x < 1000000) (hc : c < 1000000) : (nz x < nz c) = (x < c) := propext (nz_lt (by omega) (by omega))
theorem L_declare {K : Rows} {n m k : Nat} {S : SS} {D : DS} {P : PS} {A : SG} {B : FG} {G : GG} {N : NS} {nt : Nat → Tm} (h : CourtC K n S D P A B G) (ht : CourtT A B G) (hN : NodeC K n N nt m) (hk : k < m) (hn : n + 8200 ≤ 32768) (F : FS) (U : US) :
    ∃ K' F' U' D' P' r, f_L_declare K F U S D N P (nz k) = some (r, K', F', U', D', P') ∧
      (((r = -1500000 ∨ r = -1000000) ∧ D' = D ∧ P' = P ∧ WF K' n ∧ Ext K K' n) ∨
       (∃ l R n', r = nz (fFc B) ∧ fFc B < 8 ∧ qN G < 40 ∧ nf (nt k) = some (conType l R) ∧ isUn ((tyT (tbl A B) (nt k) []).bind nf) ≠ none ∧ 1 ≤ l.length ∧ l.length ≤ 4 ∧ freeT (conType l R) = 0 ∧ n ≤ n' ∧ n' ≤ n + 84 ∧ WF K' n' ∧ Ext K K' n ∧
          D' = (nz (fFc B + 1), nz (qN G + 1), D.2.2) ∧ CourtC K' n' S D' P' A (decB B (conType l R) l.length (qN G)) (decG G (fFc B) l R))) := by
  have hw := h.1
  obtain ⟨j, q1, q2⟩ := (termAt_ok hN (show k < 1000000 by have := hN.2.1; omega)).1 hk
  have hz := hN.2.2 k hk
  have ask := ask_node h ht q2 hz.2.1 (show freeT (nt k) ≤ 1000 by omega) (by omega)
  obtain ⟨K1, F1, U1, e1, e2, e3⟩ := level_ok ask F U
  have h8 := ht.2.1.1
  have h40 := ht.2.2.1
  have hD1 := h.2.2.1.1
  have hD2 := h.2.2.2.1
  cases hl : isUn ((tyT (tbl A B) (nt k) []).bind nf) with
  | none =>
    rw [hl] at e1
    have e1' : f_X10_levelOf K F U S D P (nz j) = some (-1, K1, F1, U1) := e1
    refine ⟨setM K1 n, F1, U1, D, P, -1500000, ?_, Or.inl ⟨Or.inl rfl, rfl, rfl, WF_cut e2 (Nat.le_refl _), Ext_trans e3 (Ext_setM K1 n n) (Nat.le_refl _)⟩⟩
    unfold f_L_declare f_X11_declare
    rw [q1, Option.bind_some, if_pos (show ((0 : Int32), nz j).1 = 0 from rfl), g_mark, Option.bind_some, hw.1]
    show Option.bind (Option.bind (f_X10_levelOf K F U S D P (nz j)) _) _ = _
    rw [e1', Option.bind_some, if_pos (show ((-1 : Int32), K1, F1, U1).1 = -1 from rfl)]
    show Option.bind (Option.bind (f_X0_domainsOf K1 (-1)) _) _ = _
    rw [dom_none, Option.bind_some, if_pos (by decide : (0 : Int32) < 1)]
    show Option.bind (Option.bind (g_X9_release K1 (nz n)) _) _ = _
    rw [g_release e2 (Nat.le_refl _)]
    rfl
  | some lv =>
    rw [hl] at e1
    have e1' : f_X10_levelOf K F U S D P (nz j) = some (nz lv, K1, F1, U1) := e1
    have hlv := level_small ask hl
    have q2' := Rep_ext e3 (Nat.le_refl _) _ j q2
    obtain ⟨f1, f2⟩ := form_ok e2 q2' (by omega) (by omega) F1
    have st : ∀ (x : Int32) (K2 : Rows) (F2 : FS) (M dm : Nat), g_X1_formOf K1 F1 (nz j) = some (x, K2, F2) → WF K2 M → n ≤ M → dm < 1000 → f_X0_domainsOf K2 x = some (nz dm) → f_L_declare K F U S D N P (nz k) =
        (if dm < 1 then some (-1500000, setM K2 n, F2, U1, D, P) else if dm ≤ 4 then (if 8 ≤ fFc B then some (-1000000, setM K2 n, F2, U1, D, P) else (if qN G < 40 then (f_X0_enterFunction K2 D P x (nz dm)).bind (fun q => some (q.1, q.2.1, F2, U1, q.2.2.1, q.2.2.2)) else some (-1000000, setM K2 n, F2, U1, D, P))) else some (-1500000, setM K2 n, F2, U1, D, P)) := by
      intro x K2 F2 M dm hx w1 w2 hdm hd
      have c1 : (nz dm < (1 : Int32)) ↔ dm < 1 := nz_lt (j := 1) (by omega) (by omega)
      have c2 : (nz dm ≤ (4 : Int32)) ↔ dm ≤ 4 := nz_le (j := 4) (by omega) (by decide)
      have c3 : ((8 : Int32) ≤ nz (fFc B)) ↔ 8 ≤ fFc B := nz_le (i := 8) (by decide) (by omega)
      have c4 : (nz (qN G) < (40 : Int32)) ↔ qN G < 40 := nz_lt (j := 40) (by omega) (by omega)
      unfold f_L_declare f_X11_declare
      rw [q1, Option.bind_some, if_pos (show ((0 : Int32), nz j).1 = 0 from rfl), g_mark, Option.bind_some, hw.1]
      show Option.bind (Option.bind (f_X10_levelOf K F U S D P (nz j)) _) _ = _
      rw [e1', Option.bind_some, if_neg (show ¬ (nz lv, K1, F1, U1).1 = -1 from nz_no (by omega))]
      show Option.bind (Option.bind (g_X1_formOf K1 F1 (nz j)) _) _ = _
      rw [hx, Option.bind_some]
      show Option.bind (Option.bind (f_X0_domainsOf K2 x) _) _ = _
      rw [hd, Option.bind_some, hD1, hD2]
      by_cases d1 : dm < 1
      · rw [if_pos (c1.mpr d1), if_pos d1]
        show Option.bind (Option.bind (g_X9_release K2 (nz n)) _) _ = _
        rw [g_release w1 w2]; rfl
      · rw [if_neg (fun q => d1 (c1.mp q)), if_neg d1]
        by_cases d2 : dm ≤ 4
        · rw [if_pos (c2.mpr d2), if_pos d2]
          by_cases d3 : 8 ≤ fFc B
          · rw [if_pos (c3.mpr d3), if_pos d3]
            show Option.bind (Option.bind (g_X9_release K2 (nz n)) _) _ = _
            rw [g_release w1 w2]; rfl
          · rw [if_neg (fun q => d3 (c3.mp q)), if_neg d3]
            by_cases d4 : qN G < 40
            · rw [if_pos (c4.mpr d4), if_pos d4]
              show Option.bind (Option.bind (f_X0_enterFunction K2 D P x (nz dm)) _) _ = _
              cases f_X0_enterFunction K2 D P x (nz dm) with
              | none => rfl
              | some q => rfl
            · rw [if_neg (fun q => d4 (c4.mp q)), if_neg d4]
              show Option.bind (Option.bind (g_X9_release K2 (nz n)) _) _ = _
              rw [g_release w1 w2]; rfl
        · rw [if_neg (fun q => d2 (c2.mp q)), if_neg d2]
          show Option.bind (Option.bind (g_X9_release K2 (nz n)) _) _ = _
          rw [g_release w1 w2]; rfl
    cases hf : nf (nt k) with
    | none =>
      obtain ⟨K2, F2, w1, w2, w3⟩ := f2 hf
      have w4 := st (-1) K2 F2 n 0 w1 w2 (Nat.le_refl _) (by omega) (dom_none K2)
      rw [if_pos (by omega : 0 < 1)] at w4
      exact ⟨setM K2 n, F2, U1, D, P, -1500000, w4, Or.inl ⟨Or.inl rfl, rfl, rfl, WF_cut w2 (Nat.le_refl _), Ext_trans e3 (Ext_trans w3 (Ext_setM K2 n n) (Nat.le_refl _)) (Nat.le_refl _)⟩⟩
    | some u =>
      obtain ⟨K2, M, F2, jj, w1, w2, w3, w4, w5, w6, -⟩ := f1 u hf
      obtain ⟨z1, z2, z3⟩ := nfT_some 21 _ u hf
      have z4 : freeT u = 0 := by
        have hsc : freeT (nt k) ≤ 0 := by
          cases hq : tyT (tbl A B) (nt k) [] with
          | none => rw [hq] at hl; cases hl
          | some X => exact tyT_scope _ _ _ hq
        omega
      have xx := Ext_trans e3 (Ext_trans w5 (Ext_setM K2 n n) (Nat.le_refl _)) (Nat.le_refl _)
      have w7 := st (nz jj) K2 F2 M (min (doms u) 5) w1 w2 w3 (by omega) (dom_ok w2 w6)
      by_cases d1 : min (doms u) 5 < 1
      · rw [if_pos d1] at w7
        exact ⟨setM K2 n, F2, U1, D, P, -1500000, w7, Or.inl ⟨Or.inl rfl, rfl, rfl, WF_cut w2 w3, xx⟩⟩
      · rw [if_neg d1] at w7
        by_cases d2 : min (doms u) 5 ≤ 4
        · rw [if_pos d2] at w7
          by_cases d3 : 8 ≤ fFc B
          · rw [if_pos d3] at w7
            exact ⟨setM K2 n, F2, U1, D, P, -1000000, w7, Or.inl ⟨Or.inr rfl, rfl, rfl, WF_cut w2 w3, xx⟩⟩
          · rw [if_neg d3] at w7
            by_cases d4 : qN G < 40
            · rw [if_pos d4] at w7
              obtain ⟨l, R, hu, hlen⟩ := conType_of u
              have hmin : min (doms u) 5 = l.length := by omega
              rw [hmin] at w7
              have hx2 := CourtC_ext h w2 (Ext_trans e3 w5 (Nat.le_refl _)) w3
              rw [hu] at w6
              obtain ⟨K3, P3, v1, v2, v3, v4⟩ := enter_ok hx2 w6 (by omega) (by omega) (by omega) d4 (by omega)
              refine ⟨K3, F2, U1, _, P3, nz (fFc B), ?_, Or.inr ⟨l, R, M + l.length, rfl, by omega, d4, by rw [hu], by simp, by omega, by omega, by rw [← hu]; exact z4, by omega, by omega, v2, Ext_trans e3 (Ext_trans w5 (Ext_le v3 w3) (Nat.le_refl _)) (Nat.le_refl _), rfl, v4⟩⟩
              rw [w7, v1, Option.bind_some]
            · rw [if_neg d4] at w7
              exact ⟨setM K2 n, F2, U1, D, P, -1000000, w7, Or.inl ⟨Or.inr rfl, rfl, rfl, WF_cut w2 w3, xx⟩⟩
        · rw [if_neg d2] at w7
          exact ⟨setM K2 n, F2, U1, D, P, -1500000, w7, Or.inl ⟨Or.inl rfl, rfl, rfl, WF_cut w2 w3, xx⟩⟩
