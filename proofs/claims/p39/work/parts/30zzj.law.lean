/-! runs, as the law asks them -/
theorem g_calls_at {K : Rows} {n i : Nat} {t : Tm} (hw : WF K n) (hr : Rep K n t i) : g_X9_callsOf K (nz i) = some (callsT t) := by
  have hi := Rep_lt hr
  have hn := hw.2.1
  have e : f_X9_callsOf K.1 K.2.2.2.2.2.2.2.1 (nz i) = some (callsT t) := by
    unfold f_X9_callsOf
    rw [hw.1, if_neg (nz_neg (by omega)), if_neg (fun q => absurd ((nz_le (by omega) (by omega)).mp q) (by omega)), if_pos (nz_inb (by omega) (by decide)), nz_nat (by omega), (Rep_calls_loose hr).2.2.2.1]
  show (f_X9_callsOf K.1 K.2.2.2.2.2.2.2.1 (nz i)).map (fun z => z) = _
  rw [e]
  rfl
def endR : Option Tm × Nat → Option (Tm × Nat)
  | (some u, tk) => some (u, tk)
  | (none, _) => none
/-- what a run comes to -/
noncomputable def runS (A : SG) (B : FG) (G : GG) (acc : Int32) (t : Tm) : Option (Tm × Nat) :=
  if isDa ((tyT (tbl A B) t []).bind nf) = true then (if (callsT t &&& (acc ^^^ ((-1) : Int32))) = 0 then endR (runT A B G 100000 t false [] 0) else none) else none
def VAL (o : Option (Int32 × TS × MS)) (K : Rows) (n : Nat) (R : Option (Tm × Nat)) : Prop :=
  ∃ K2 n2 M2 x, o = some (x, K2, M2) ∧ WF K2 n2 ∧ n ≤ n2 ∧ Ext K K2 n ∧ ((R = none ∧ x = -1) ∨ ∃ u tk m, R = some (u, tk) ∧ x = nz m ∧ Rep K2 n2 u m ∧ M2.2.2.2.2.2.2.1 = nz tk ∧ tk ≤ 40)
theorem RunR_VAL {A : SG} {B : FG} {G : GG} {T : Tm} {o : Option (Int32 × TS × MS)} {K : Rows} {n : Nat} {Q : Option Tm × Nat} (h : RunR A B G T o K n Q) : VAL o K n (endR Q) := by
  obtain ⟨K', n', M', x, h1, h2, h3, h4, h5, h6, h7⟩ := h
  obtain ⟨q1, q2⟩ := Q
  rcases h7 with ⟨r1, r2⟩ | ⟨u, m, r1, r2, r3, r4, r5, r6⟩
  · have r1' : q1 = none := r1
    subst r1'
    exact ⟨K', n', M', x, h1, h2, h3, h4, Or.inl ⟨rfl, r2⟩⟩
  · have r1' : q1 = some u := r1
    subst r1'
    exact ⟨K', n', M', x, h1, h2, h3, h4, Or.inr ⟨u, q2, m, rfl, r2, r3, h5, r6⟩⟩
theorem core_ok {K : Rows} {n j : Nat} {S : SS} {D : DS} {P : PS} {A : SG} {B : FG} {G : GG} {t : Tm} (h : CourtC K n S D P A B G) (ht : CourtT A B G) (hr : Rep K n t j) (hz : sizeT t ≤ 30) (hf : freeT t ≤ 1000) (hn : n + 12014 ≤ 32768) (F : FS) (U : US) :
    ∃ K1 F1 U1, WF K1 n ∧ Ext K K1 n ∧ ((f_X10_isOfData K F U S D P (nz j) = some (0, K1, F1, U1) ∧ runS A B G D.2.2 t = none) ∨
      (f_X10_isOfData K F U S D P (nz j) = some (1, K1, F1, U1) ∧ ∀ M, VAL (f_X5_valueOf1 K1 S D M P (nz j)) K1 n (runS A B G D.2.2 t) ∧ VAL (f_X5_valueOf0 K1 S D M P (nz j)) K1 n (runS A B G D.2.2 t))) := by
  obtain ⟨K1, F1, U1, e1, e2, e3⟩ := isOfData_ok (ask_node h ht hr hz hf (by omega)) F U
  refine ⟨K1, F1, U1, e2, e3, ?_⟩
  by_cases hd : isDa ((tyT (tbl A B) t []).bind nf) = true
  · rw [if_pos hd] at e1
    refine Or.inr ⟨e1, fun M => ?_⟩
    obtain ⟨u, hu⟩ : ∃ u, (tyT (tbl A B) t []).bind nf = some u := by
      cases hq : (tyT (tbl A B) t []).bind nf with
      | none => rw [hq] at hd; cases hd
      | some u => exact ⟨u, rfl⟩
    have hcl : freeT t = 0 := by
      cases hq : tyT (tbl A B) t [] with
      | none => rw [hq] at hu; cases hu
      | some T0 =>
        have := tyT_scope t [] T0 hq
        have e : ([] : List Tm).length = 0 := rfl
        omega
    have hty := fit_Typ (court_FOK ht) (tbX_ok ht.2.1) (tbX_ex A B) hu
    have hr1 := Rep_ext e3 (Nat.le_refl _) t j hr
    have hC1 := CourtC_ext h e2 e3 (Nat.le_refl _)
    have hap := apT_size t
    have key : ∀ M' : MS, M'.2.2.2.2.2.1 = 0 → M'.2.2.2.2.2.2.1 = 0 → RunR A B G u (f_X5_valueOf1_L46 100000 K1 S D M' P (nz j) 0 0) K1 n (runT A B G 100000 t false [] 0) := by
      intro M' m1 m2
      refine run_ok ht 100000 K1 n j 0 0 M' t false [] hC1 hr1 hcl trivial m1 (by decide) (fun p hp => absurd hp (List.not_mem_nil)) hty m2 (by omega) ?_ ?_ (by omega)
      · rw [if_neg (by decide)]
        show n + 0 + apT t + _ ≤ _
        omega
      · rw [if_neg (by decide)]
        show 0 + 3 * sizeT t + _ < _
        omega
    by_cases hc : (callsT t &&& (D.2.2 ^^^ ((-1) : Int32))) = 0
    · have eS : runS A B G D.2.2 t = endR (runT A B G 100000 t false [] 0) := by
        unfold runS
        rw [if_pos hd, if_pos hc]
      rw [eS]
      constructor
      · unfold f_X5_valueOf1
        rw [g_calls_at e2 hr1, Option.bind_some, if_pos hc]
        exact RunR_VAL (key (M.1, M.2.1, M.2.2.1, M.2.2.2.1, M.2.2.2.2.1, 0, 0, M.2.2.2.2.2.2.2.1, 1) rfl rfl)
      · unfold f_X5_valueOf0
        rw [g_calls_at e2 hr1, Option.bind_some, if_pos hc, l46_eq]
        exact RunR_VAL (key (M.1, M.2.1, M.2.2.1, M.2.2.2.1, M.2.2.2.2.1, 0, 0, M.2.2.2.2.2.2.2.1, 0) rfl rfl)
    · have eS : runS A B G D.2.2 t = none := by
        unfold runS
        rw [if_pos hd, if_neg hc]
      rw [eS]
      constructor
      · unfold f_X5_valueOf1
        rw [g_calls_at e2 hr1, Option.bind_some, if_neg hc]
        exact ⟨K1, n, M, -1, rfl, e2, Nat.le_refl _, Ext_refl K1 n, Or.inl ⟨rfl, rfl⟩⟩
      · unfold f_X5_valueOf0
        rw [g_calls_at e2 hr1, Option.bind_some, if_neg hc]
        exact ⟨K1, n, M, -1, rfl, e2, Nat.le_refl _, Ext_refl K1 n, Or.inl ⟨rfl, rfl⟩⟩
  · rw [if_neg hd] at e1
    refine Or.inl ⟨e1, ?_⟩
    unfold runS
    rw [if_neg hd]
/-- the number, the steps and the size of what a run comes to -/
def runV : Option (Tm × Nat) → Int32
  | some (u, _) => numT u
  | none => -1500000
def runK : Option (Tm × Nat) → Int32
  | some (_, tk) => nz tk
  | none => -1500000
def runZ : Option (Tm × Nat) → Int32
  | some (u, _) => (nz (sizeT u) + 1) / 2
  | none => -1500000
def runN (N : NS) : Option (Tm × Nat) → NS
  | some (_, tk) => (N.1, N.2.1, N.2.2 + (nz tk).toInt64)
  | none => N
theorem size_none (K : Rows) : rSize K (-1) = some (-1) := by
  unfold rSize f_X9_sizeOf
  rw [if_pos (by decide)]
theorem L_run {K : Rows} {n m k : Nat} {S : SS} {D : DS} {P : PS} {A : SG} {B : FG} {G : GG} {N : NS} {nt : Nat → Tm} (h : CourtC K n S D P A B G) (ht : CourtT A B G) (hN : NodeC K n N nt m) (hk : k < m) (hn : n + 12014 ≤ 32768) (F : FS) (U : US) (M : MS) :
    ∃ K' F' U' M', f_L_run K F U S D M N P (nz k) = some (runV (runS A B G D.2.2 (nt k)), K', F', U', M', runN N (runS A B G D.2.2 (nt k))) ∧ WF K' n ∧ Ext K K' n := by
  have hw := h.1
  obtain ⟨j, q1, q2⟩ := (termAt_ok hN (show k < 1000000 by have := hN.2.1; omega)).1 hk
  have hz := hN.2.2 k hk
  obtain ⟨K1, F1, U1, c1, c2, c3⟩ := core_ok h ht q2 hz.2.1 (show freeT (nt k) ≤ 1000 by omega) hn F U
  have st : f_X11_run K F U S D M N P (nz k) = (Option.bind (f_X10_isOfData K F U S D P (nz j)) (fun q_4 => (if q_4.1 = 0 then (Option.bind (f_X11_numberOfScratch q_4.2.1 (nz n) (-1)) (fun q_6 => (if q_6.1 = 0 then some (0, q_6.2.1, q_6.2.2, q_4.2.2.1, q_4.2.2.2, M, (N.1, N.2.1, (N.2.2 + (M.2.2.2.2.2.2.1).toInt64))) else some (q_6.1, 0, q_6.2.2, q_4.2.2.1, q_4.2.2.2, M, N)))) else (Option.bind (f_X5_valueOf1 q_4.2.1 S D M P (nz j)) (fun q_8 => (Option.bind (f_X11_numberOfScratch q_8.2.1 (nz n) q_8.1) (fun q_9 => (if q_9.1 = 0 then some (0, q_9.2.1, q_9.2.2, q_4.2.2.1, q_4.2.2.2, q_8.2.2, (N.1, N.2.1, (N.2.2 + (q_8.2.2.2.2.2.2.2.2.1).toInt64))) else some (q_9.1, 0, q_9.2.2, q_4.2.2.1, q_4.2.2.2, q_8.2.2, N))))))))) := by
    unfold f_X11_run
    rw [q1, Option.bind_some, if_pos (show ((0 : Int32), nz j).1 = 0 from rfl), g_mark, Option.bind_some, hw.1]
  unfold f_L_run
  rw [st]
  rcases c3 with ⟨d1, d2⟩ | ⟨d1, d2⟩
  · refine ⟨setM K1 n, F1, U1, M, ?_, WF_cut c1 (Nat.le_refl _), Ext_trans c2 (Ext_setM K1 n n) (Nat.le_refl _)⟩
    rw [d1, d2, Option.bind_some, if_pos (show ((0, K1, F1, U1) : Int32 × TS × FS × US).1 = 0 from rfl)]
    show ((f_X11_numberOfScratch K1 (nz n) (-1)).bind _).bind _ = _
    rw [scratch_no c1 (Nat.le_refl _)]
    rfl
  · obtain ⟨K2, n2, M2, x, w0, w1, w2, w3, w4⟩ := (d2 M).1
    refine ⟨setM K2 n, F1, U1, M2, ?_, WF_cut w1 w2, Ext_trans c2 (Ext_trans w3 (Ext_setM K2 n n) (Nat.le_refl _)) (Nat.le_refl _)⟩
    rw [d1, Option.bind_some, if_neg (show ¬ ((1, K1, F1, U1) : Int32 × TS × FS × US).1 = 0 from (by decide : ¬ (1 : Int32) = 0))]
    show ((f_X5_valueOf1 K1 S D M P (nz j)).bind _).bind _ = _
    rw [w0, Option.bind_some]
    rcases w4 with ⟨r1, r2⟩ | ⟨u, tk, m', r1, r2, r3, r4, r5⟩
    · rw [r1, r2]
      show ((f_X11_numberOfScratch K2 (nz n) (-1)).bind _).bind _ = _
      rw [scratch_no w1 w2]
      rfl
    · rw [r1, r2]
      show ((f_X11_numberOfScratch K2 (nz n) (nz m')).bind _).bind _ = _
      rw [scratch_ok w1 w2 r3]
      show some (numT u, setM K2 n, F1, U1, M2, (N.1, N.2.1, N.2.2 + (M2.2.2.2.2.2.2.1).toInt64)) = _
      rw [r4]
      rfl
theorem L_runByClauses {K : Rows} {n m k : Nat} {S : SS} {D : DS} {P : PS} {A : SG} {B : FG} {G : GG} {N : NS} {nt : Nat → Tm} (h : CourtC K n S D P A B G) (ht : CourtT A B G) (hN : NodeC K n N nt m) (hk : k < m) (hn : n + 12014 ≤ 32768) (F : FS) (U : US) (M : MS) :
    ∃ K' F' U' M', f_L_runByClauses K F U S D M N P (nz k) = some (runV (runS A B G D.2.2 (nt k)), K', F', U', M') ∧ WF K' n ∧ Ext K K' n := by
  have hw := h.1
  obtain ⟨j, q1, q2⟩ := (termAt_ok hN (show k < 1000000 by have := hN.2.1; omega)).1 hk
  have hz := hN.2.2 k hk
  obtain ⟨K1, F1, U1, c1, c2, c3⟩ := core_ok h ht q2 hz.2.1 (show freeT (nt k) ≤ 1000 by omega) hn F U
  have st : f_X11_runByClauses K F U S D M N P (nz k) = (Option.bind (f_X10_isOfData K F U S D P (nz j)) (fun q_4 => (if q_4.1 = 0 then (Option.bind (f_X11_numberOfScratch q_4.2.1 (nz n) (-1)) (fun q_6 => (if q_6.1 = 0 then some (0, q_6.2.1, q_6.2.2, q_4.2.2.1, q_4.2.2.2, M) else some (q_6.1, 0, q_6.2.2, q_4.2.2.1, q_4.2.2.2, M)))) else (Option.bind (f_X5_valueOf0 q_4.2.1 S D M P (nz j)) (fun q_8 => (Option.bind (f_X11_numberOfScratch q_8.2.1 (nz n) q_8.1) (fun q_9 => (if q_9.1 = 0 then some (0, q_9.2.1, q_9.2.2, q_4.2.2.1, q_4.2.2.2, q_8.2.2) else some (q_9.1, 0, q_9.2.2, q_4.2.2.1, q_4.2.2.2, q_8.2.2))))))))) := by
    unfold f_X11_runByClauses
    rw [q1, Option.bind_some, if_pos (show ((0 : Int32), nz j).1 = 0 from rfl), g_mark, Option.bind_some, hw.1]
  unfold f_L_runByClauses
  rw [st]
  rcases c3 with ⟨d1, d2⟩ | ⟨d1, d2⟩
  · refine ⟨setM K1 n, F1, U1, M, ?_, WF_cut c1 (Nat.le_refl _), Ext_trans c2 (Ext_setM K1 n n) (Nat.le_refl _)⟩
    rw [d1, d2, Option.bind_some, if_pos (show ((0, K1, F1, U1) : Int32 × TS × FS × US).1 = 0 from rfl)]
    show ((f_X11_numberOfScratch K1 (nz n) (-1)).bind _).bind _ = _
    rw [scratch_no c1 (Nat.le_refl _)]
    rfl
  · obtain ⟨K2, n2, M2, x, w0, w1, w2, w3, w4⟩ := (d2 M).2
    refine ⟨setM K2 n, F1, U1, M2, ?_, WF_cut w1 w2, Ext_trans c2 (Ext_trans w3 (Ext_setM K2 n n) (Nat.le_refl _)) (Nat.le_refl _)⟩
    rw [d1, Option.bind_some, if_neg (show ¬ ((1, K1, F1, U1) : Int32 × TS × FS × US).1 = 0 from (by decide : ¬ (1 : Int32) = 0))]
    show ((f_X5_valueOf0 K1 S D M P (nz j)).bind _).bind _ = _
    rw [w0, Option.bind_some]
    rcases w4 with ⟨r1, r2⟩ | ⟨u, tk, m', r1, r2, r3, r4, r5⟩
    · rw [r1, r2]
      show ((f_X11_numberOfScratch K2 (nz n) (-1)).bind _).bind _ = _
      rw [scratch_no w1 w2]
      rfl
    · rw [r1, r2]
      show ((f_X11_numberOfScratch K2 (nz n) (nz m')).bind _).bind _ = _
      rw [scratch_ok w1 w2 r3]
      rfl
theorem L_steps {K : Rows} {n m k : Nat} {S : SS} {D : DS} {P : PS} {A : SG} {B : FG} {G : GG} {N : NS} {nt : Nat → Tm} (h : CourtC K n S D P A B G) (ht : CourtT A B G) (hN : NodeC K n N nt m) (hk : k < m) (hn : n + 12014 ≤ 32768) (F : FS) (U : US) (M : MS) :
    ∃ K' F' U' M', f_L_steps K F U S D M N P (nz k) = some (runK (runS A B G D.2.2 (nt k)), K', F', U', M') ∧ WF K' n ∧ Ext K K' n := by
  have hw := h.1
  obtain ⟨j, q1, q2⟩ := (termAt_ok hN (show k < 1000000 by have := hN.2.1; omega)).1 hk
  have hz := hN.2.2 k hk
  obtain ⟨K1, F1, U1, c1, c2, c3⟩ := core_ok h ht q2 hz.2.1 (show freeT (nt k) ≤ 1000 by omega) hn F U
  have st : f_X11_steps K F U S D M N P (nz k) = (Option.bind (f_X10_isOfData K F U S D P (nz j)) (fun q_4 => (if q_4.1 = 0 then (Option.bind (f_X11_numberOfScratch q_4.2.1 (nz n) (-1)) (fun q_6 => (if q_6.1 = 0 then some (0, M.2.2.2.2.2.2.1, q_6.2.2, q_4.2.2.1, q_4.2.2.2, M) else some (q_6.1, 0, q_6.2.2, q_4.2.2.1, q_4.2.2.2, M)))) else (Option.bind (f_X5_valueOf1 q_4.2.1 S D M P (nz j)) (fun q_8 => (Option.bind (f_X11_numberOfScratch q_8.2.1 (nz n) q_8.1) (fun q_9 => (if q_9.1 = 0 then some (0, q_8.2.2.2.2.2.2.2.2.1, q_9.2.2, q_4.2.2.1, q_4.2.2.2, q_8.2.2) else some (q_9.1, 0, q_9.2.2, q_4.2.2.1, q_4.2.2.2, q_8.2.2))))))))) := by
    unfold f_X11_steps
    rw [q1, Option.bind_some, if_pos (show ((0 : Int32), nz j).1 = 0 from rfl), g_mark, Option.bind_some, hw.1]
  unfold f_L_steps
  rw [st]
  rcases c3 with ⟨d1, d2⟩ | ⟨d1, d2⟩
  · refine ⟨setM K1 n, F1, U1, M, ?_, WF_cut c1 (Nat.le_refl _), Ext_trans c2 (Ext_setM K1 n n) (Nat.le_refl _)⟩
    rw [d1, d2, Option.bind_some, if_pos (show ((0, K1, F1, U1) : Int32 × TS × FS × US).1 = 0 from rfl)]
    show ((f_X11_numberOfScratch K1 (nz n) (-1)).bind _).bind _ = _
    rw [scratch_no c1 (Nat.le_refl _)]
    rfl
  · obtain ⟨K2, n2, M2, x, w0, w1, w2, w3, w4⟩ := (d2 M).1
    refine ⟨setM K2 n, F1, U1, M2, ?_, WF_cut w1 w2, Ext_trans c2 (Ext_trans w3 (Ext_setM K2 n n) (Nat.le_refl _)) (Nat.le_refl _)⟩
    rw [d1, Option.bind_some, if_neg (show ¬ ((1, K1, F1, U1) : Int32 × TS × FS × US).1 = 0 from (by decide : ¬ (1 : Int32) = 0))]
    show ((f_X5_valueOf1 K1 S D M P (nz j)).bind _).bind _ = _
    rw [w0, Option.bind_some]
    rcases w4 with ⟨r1, r2⟩ | ⟨u, tk, m', r1, r2, r3, r4, r5⟩
    · rw [r1, r2]
      show ((f_X11_numberOfScratch K2 (nz n) (-1)).bind _).bind _ = _
      rw [scratch_no w1 w2]
      rfl
    · rw [r1, r2]
      show ((f_X11_numberOfScratch K2 (nz n) (nz m')).bind _).bind _ = _
      rw [scratch_ok w1 w2 r3]
      show some (M2.2.2.2.2.2.2.1, setM K2 n, F1, U1, M2) = _
      rw [r4]
      rfl
theorem L_valueSize {K : Rows} {n m k : Nat} {S : SS} {D : DS} {P : PS} {A : SG} {B : FG} {G : GG} {N : NS} {nt : Nat → Tm} (h : CourtC K n S D P A B G) (ht : CourtT A B G) (hN : NodeC K n N nt m) (hk : k < m) (hn : n + 12014 ≤ 32768) (F : FS) (U : US) (M : MS) :
    ∃ K' F' U' M', f_L_valueSize K F U S D M N P (nz k) = some (runZ (runS A B G D.2.2 (nt k)), K', F', U', M') ∧ WF K' n ∧ Ext K K' n := by
  have hw := h.1
  obtain ⟨j, q1, q2⟩ := (termAt_ok hN (show k < 1000000 by have := hN.2.1; omega)).1 hk
  have hz := hN.2.2 k hk
  obtain ⟨K1, F1, U1, c1, c2, c3⟩ := core_ok h ht q2 hz.2.1 (show freeT (nt k) ≤ 1000 by omega) hn F U
  have st : f_X11_valueSize K F U S D M N P (nz k) = (Option.bind (f_X10_isOfData K F U S D P (nz j)) (fun q_4 => (if q_4.1 = 0 then (Option.bind (g_X9_sizeOf q_4.2.1 (-1)) (fun q_6 => (Option.bind (f_X11_numberOfScratch q_4.2.1 (nz n) (-1)) (fun q_7 => (if q_7.1 = 0 then some (0, ((q_6 + (1 : Int32)) / 2), q_7.2.2, q_4.2.2.1, q_4.2.2.2, M) else some (q_7.1, 0, q_7.2.2, q_4.2.2.1, q_4.2.2.2, M)))))) else (Option.bind (f_X5_valueOf1 q_4.2.1 S D M P (nz j)) (fun q_9 => (Option.bind (g_X9_sizeOf q_9.2.1 q_9.1) (fun q_10 => (Option.bind (f_X11_numberOfScratch q_9.2.1 (nz n) q_9.1) (fun q_11 => (if q_11.1 = 0 then some (0, ((q_10 + (1 : Int32)) / 2), q_11.2.2, q_4.2.2.1, q_4.2.2.2, q_9.2.2) else some (q_11.1, 0, q_11.2.2, q_4.2.2.1, q_4.2.2.2, q_9.2.2))))))))))) := by
    unfold f_X11_valueSize
    rw [q1, Option.bind_some, if_pos (show ((0 : Int32), nz j).1 = 0 from rfl), g_mark, Option.bind_some, hw.1]
  unfold f_L_valueSize
  rw [st]
  rcases c3 with ⟨d1, d2⟩ | ⟨d1, d2⟩
  · refine ⟨setM K1 n, F1, U1, M, ?_, WF_cut c1 (Nat.le_refl _), Ext_trans c2 (Ext_setM K1 n n) (Nat.le_refl _)⟩
    rw [d1, d2, Option.bind_some, if_pos (show ((0, K1, F1, U1) : Int32 × TS × FS × US).1 = 0 from rfl)]
    show ((g_X9_sizeOf K1 (-1)).bind _).bind _ = _
    rw [g_size, size_none, Option.bind_some]
    show ((f_X11_numberOfScratch K1 (nz n) (-1)).bind _).bind _ = _
    rw [scratch_no c1 (Nat.le_refl _)]
    rfl
  · obtain ⟨K2, n2, M2, x, w0, w1, w2, w3, w4⟩ := (d2 M).1
    refine ⟨setM K2 n, F1, U1, M2, ?_, WF_cut w1 w2, Ext_trans c2 (Ext_trans w3 (Ext_setM K2 n n) (Nat.le_refl _)) (Nat.le_refl _)⟩
    rw [d1, Option.bind_some, if_neg (show ¬ ((1, K1, F1, U1) : Int32 × TS × FS × US).1 = 0 from (by decide : ¬ (1 : Int32) = 0))]
    show ((f_X5_valueOf1 K1 S D M P (nz j)).bind _).bind _ = _
    rw [w0, Option.bind_some]
    rcases w4 with ⟨r1, r2⟩ | ⟨u, tk, m', r1, r2, r3, r4, r5⟩
    · rw [r1, r2]
      show ((g_X9_sizeOf K2 (-1)).bind _).bind _ = _
      rw [g_size, size_none, Option.bind_some]
      show ((f_X11_numberOfScratch K2 (nz n) (-1)).bind _).bind _ = _
      rw [scratch_no w1 w2]
      rfl
    · rw [r1, r2]
      show ((g_X9_sizeOf K2 (nz m')).bind _).bind _ = _
      rw [g_size, rSize_at w1 (Rep_lt r3), (Rep_calls_loose r3).1, Option.bind_some]
      show ((f_X11_numberOfScratch K2 (nz n) (nz m')).bind _).bind _ = _
      rw [scratch_ok w1 w2 r3]
      rfl
