/-! what is refused -/
theorem refuses_ok {K : TS} {n : Nat} {S : SS} {D : DS} {P : PS} {A : SG} {B : FG} {G : GG} {N : NS} {nt : Nat → Tm} {m : Nat} {f1 f2 f3 : IA} {v2 : Nat} (h : MainI K n S D P A B G N nt m f1 f2 f3 v2) (hm : 1 ≤ m) (F : FS) (U : US) (R : RS) (M : MS) : f_L_refuses K F U S D R M N P (nz m) (nz (qN G)) (nz (fFc B)) = some (1, K, F, U, S, D, R, M, N, P) := by
  have h8 := h.2.1.2.1.1
  have h40 := h.2.1.2.2.1
  have h6 := h.2.1.1.2.1
  have hm2 := h.2.2.1.2.1
  have tm := (termAt_ok h.2.2.1 (show m < 1000000 by omega)).2 (Nat.le_refl m)
  obtain ⟨j0, t0, -⟩ := (termAt_ok h.2.2.1 (show 0 < 1000000 by omega)).1 hm
  have tn : f_X11_termAt N (-1) = some (3, 0) := by
    unfold f_X11_termAt
    rw [if_pos (by decide)]
  have hga := goalAt_ok h.1.2.2.2.1 h40 (show qN G < 1000000 by omega)
  rw [if_neg (Nat.lt_irrefl _)] at hga
  have hfa := functionAt_ok h.1.2.2.1.1 h8 (show fFc B < 1000000 by omega)
  rw [if_neg (Nat.lt_irrefl _)] at hfa
  have e1 : f_L_universe K N (-1) = some (-2000000, K, N) := by
    unfold f_L_universe f_X11_universe
    rw [if_pos (by decide)]
    rfl
  have e2 : f_L_variable K N 16 = some (-2000000, K, N) := by
    unfold f_L_variable f_X11_variable
    rw [if_neg (by decide), if_neg (by decide)]
    rfl
  have e3 : f_L_apply K N (nz m) 0 = some (-2500000, K, N) := by
    unfold f_L_apply f_X11_apply f_X11_layPair
    rw [tm]
    rfl
  have e4 : f_L_lambda K N 0 (-1) = some (-2500000, K, N) := by
    unfold f_L_lambda f_X11_lambda f_X11_layPair
    rw [show f_X11_termAt N 0 = some (0, nz j0) from t0, Option.bind_some, if_pos (show ((0 : Int32), nz j0).1 = 0 from rfl), tn]
    rfl
  have e5 : f_L_functions K N (nz m) (nz m) = some (-2500000, K, N) := by
    unfold f_L_functions f_X11_functions f_X11_layPair
    rw [tm]
    rfl
  have e6 : f_L_dataNode K S N 6 = some (-3000000, K, N) := by
    have e : g_X7_hasData S 6 = some 0 := by
      unfold g_X7_hasData f_X7_hasData
      rw [h.1.2.1.1, if_neg (by decide), if_pos (show nz (sDc A) ≤ 6 from (nz_le (j := 6) (by omega) (by decide)).mpr h6)]
      rfl
    unfold f_L_dataNode f_X11_dataNode
    rw [e, Option.bind_some, if_pos rfl]
    rfl
  have e7 : f_L_functionNode K D N (nz (fFc B)) = some (-3000000, K, N) := by
    unfold f_L_functionNode f_X11_functionNode
    rw [hfa]
    rfl
  have e8 : f_L_addConstructor K S D 0 4 0 0 0 = some (-2000000, K, S) := by
    unfold f_L_addConstructor f_X11_addConstructor
    rw [if_neg (by decide), if_neg (by decide)]
    rfl
  have e9 : f_L_size K N (nz m) = some (-2500000) := (L_size h.1.1 h.2.2.1 (show m < 1000000 by omega)).2 (Nat.le_refl m)
  have e10 : f_L_normal K F N (-1) = some (-2500000, K, F) := by
    unfold f_L_normal f_X11_normal
    rw [tn]
    rfl
  have e11 : f_L_declare K F U S D N P (nz m) = some (-2500000, K, F, U, D, P) := by
    unfold f_L_declare f_X11_declare
    rw [tm]
    rfl
  have e12 : f_L_split K F S D P (nz (qN G)) 0 = some (-3000000, K, F, S, D, P) := by
    unfold f_L_split f_X11_split
    rw [hga]
    rfl
  have e13 : f_L_fill K F U S D N P (nz (qN G)) 0 = some (-3000000, K, F, U, P) := by
    unfold f_L_fill f_X11_fill
    rw [hga]
    rfl
  have e14 : f_L_auto K D P (nz (qN G)) = some (-3000000, K, P) := by
    unfold f_L_auto f_X11_auto
    rw [hga]
    rfl
  have e15 : f_L_reopen K D P (nz (qN G)) = some (-3000000, P) := by
    unfold f_L_reopen f_X11_reopen
    rw [hga]
    rfl
  have e16 : f_L_accept K D R P (nz (fFc B)) = some (-3000000, D, R) := by
    unfold f_L_accept f_X11_accept
    rw [hfa]
    rfl
  have e17 : f_L_run K F U S D M N P (nz m) = some (-2500000, K, F, U, M, N) := by
    unfold f_L_run f_X11_run
    rw [tm]
    rfl
  unfold f_L_refuses
  rw [e1, Option.bind_some, if_pos rfl]
  show Option.bind (f_L_variable K N 16) _ = _
  rw [e2, Option.bind_some, if_pos rfl]
  show Option.bind (f_L_apply K N (nz m) 0) _ = _
  rw [e3, Option.bind_some, if_pos rfl]
  show Option.bind (f_L_lambda K N 0 (-1)) _ = _
  rw [e4, Option.bind_some, if_pos rfl]
  show Option.bind (f_L_functions K N (nz m) (nz m)) _ = _
  rw [e5, Option.bind_some, if_pos rfl]
  show Option.bind (f_L_dataNode K S N 6) _ = _
  rw [e6, Option.bind_some, if_pos rfl]
  show Option.bind (f_L_functionNode K D N (nz (fFc B))) _ = _
  rw [e7, Option.bind_some, if_pos rfl]
  show Option.bind (f_L_addConstructor K S D 0 4 0 0 0) _ = _
  rw [e8, Option.bind_some, if_pos rfl]
  show Option.bind (f_L_size K N (nz m)) _ = _
  rw [e9, Option.bind_some, if_pos rfl]
  show Option.bind (f_L_normal K F N (-1)) _ = _
  rw [e10, Option.bind_some, if_pos rfl]
  show Option.bind (f_L_declare K F U S D N P (nz m)) _ = _
  rw [e11, Option.bind_some, if_pos rfl]
  show Option.bind (f_L_split K F S D P (nz (qN G)) 0) _ = _
  rw [e12, Option.bind_some, if_pos rfl]
  show Option.bind (f_L_fill K F U S D N P (nz (qN G)) 0) _ = _
  rw [e13, Option.bind_some, if_pos rfl]
  show Option.bind (f_L_auto K D P (nz (qN G))) _ = _
  rw [e14, Option.bind_some, if_pos rfl]
  show Option.bind (f_L_reopen K D P (nz (qN G))) _ = _
  rw [e15, Option.bind_some, if_pos rfl]
  show Option.bind (f_L_accept K D R P (nz (fFc B))) _ = _
  rw [e16, Option.bind_some, if_pos rfl]
  show Option.bind (f_L_run K F U S D M N P (nz m)) _ = _
  rw [e17, Option.bind_some, if_pos rfl]
