/-! the law's cuts: the first nodes -/
/-- data constants are below v -/
def DtB (v : Nat) : Tm → Prop
  | .arg m => m % 8 = 2 → m / 8 < v
  | .add a b => DtB v a ∧ DtB v b
  | .sub a b => DtB v a ∧ DtB v b
  | .mul a b => DtB v a ∧ DtB v b
  | _ => True
def NodeL (K : TS) (n : Nat) (S : SS) (A : SG) (f1 f2 : IA) (v2 : Nat) (N : NS) (nt : Nat → Tm) (m : Nat) : Prop := SigL K n S A f1 f2 v2 ∧ NodeC K n N nt m ∧ (∀ k, k < m → DtB v2 (nt k)) ∧ N.2.2 = 0 ∧ n ≤ 30 + m
theorem SigC_ext {K K' : Rows} {n n' : Nat} {S : SS} {A : SG} (h : SigC K n S A) (hx : Ext K K' n) (hn : n ≤ n') : SigC K' n' S A := by
  obtain ⟨s1, s2, s3, s4⟩ := h
  exact ⟨s1, s2, fun c hc => by
    obtain ⟨a, b, c', d, j, e, f⟩ := s3 c hc
    exact ⟨a, b, c', d, j, e, Rep_ext hx hn _ j f⟩, s4⟩
theorem lay_next {K : TS} {n : Nat} {S : SS} {A : SG} {f1 f2 : IA} {v2 : Nat} {N : NS} {nt : Nat → Tm} {m : Nat} {o : Option (Int32 × TS × NS)} {t : Tm} (h : NodeL K n S A f1 f2 v2 N nt m) (hl : Laid o K n N nt m t) (ht : DtB v2 t) : ∃ K' N', o = some (nz m, K', N') ∧ NodeL K' (n + 1) S A f1 f2 v2 N' (up1 nt m t) (m + 1) := by
  obtain ⟨⟨w1, w2, w3, w4, w5, w6, w7⟩, h2, h3, h4, h5⟩ := h
  obtain ⟨K', N', e1, e2, e3, e4, e5⟩ := hl
  refine ⟨K', N', e1, ⟨e2, SigC_ext w2 e3 (Nat.le_succ n), w3, w4, w5, w6, w7⟩, e4, ?_, e5.trans h4, by omega⟩
  intro k hk
  unfold up1
  by_cases q : k = m
  · rw [if_pos q]; exact ht
  · rw [if_neg q]; exact h3 k (by omega)
theorem laid_ok {m : Nat} (hm : m < 1000000) : f_L_laid (nz m) (nz m) = some (nz (m + 1)) := by
  unfold f_L_laid
  rw [if_pos (show (0 : Int32) ≤ nz m from (nz_le (i := 0) (by decide) (by omega)).mpr (Nat.zero_le m)), show nz m + 1 = nz (m + 1) from nz_add m 1, if_pos ((nz_lt (by omega) (by omega)).mpr (Nat.lt_succ_self m))]
def Tag4 (t : Nat) (xs : IA) (L : Nat) (F : FS) (U : US) (D : DS) (R : RS) (M : MS) (P : PS) (fl cl sl : Nat) (v2 : Nat) (v3 : Int32) (c m0 sk : Nat) : Prop := ∀ (fu kc ks : Nat) (K : TS) (n : Nat) (S : SS) (A : SG) (f1 f2 : IA) (N : NS) (nt : Nat → Tm) (m : Nat), fl ≤ fu → cl ≤ kc → sl ≤ ks → NodeL K n S A f1 f2 v2 N nt m → sCc A = c → m0 ≤ m → m ≤ m0 + sk → (∀ d, d < v2 → nt d = dat d) → LW xs L fu t kc ks K F U S D R M N P f1 f2 (nz v2) v3 (nz m) 0 0 0 = some 1
theorem cut167 {xs : IA} {L : Nat} {F : FS} {U : US} {D : DS} {R : RS} {M : MS} {P : PS} {fl cl sl v2 c : Nat} (hv : v2 ≤ 3) (h2 : Tag4 4 xs L F U D R M P fl cl sl v2 (nz c) c v2 0) : ∀ (k fu kc ks i : Nat) (K : TS) (n : Nat) (S : SS) (A : SG) (f1 f2 : IA) (N : NS) (nt : Nat → Tm), i + k = v2 → fl + k + 1 ≤ fu → cl + k + 1 ≤ kc → sl + 6 * (k + 1) ≤ ks → NodeL K n S A f1 f2 v2 N nt i → sCc A = c → (∀ d, d < i → nt d = dat d) → LW xs L fu 3 kc ks K F U S D R M N P f1 f2 (nz v2) (nz c) (nz i) 0 0 (nz i) = some 1 := by
  intro k
  induction k with
  | zero =>
    intro fu kc ks i K n S A f1 f2 N nt hi hf hc hs h hcc hnt
    obtain ⟨fu, rfl⟩ : ∃ e, fu = e + 1 := ⟨fu - 1, by omega⟩
    show (if 1 ≤ kc ∧ 6 ≤ ks then _ else none) = _
    rw [if_pos ⟨by omega, by omega⟩, if_pos ((nz_le (by omega) (by omega)).mpr (by omega))]
    exact h2 fu _ _ K n S A f1 f2 N nt i (by omega) (by omega) (by omega) h hcc (by omega) (by omega) (fun d hd => hnt d (by omega))
  | succ k ih =>
    intro fu kc ks i K n S A f1 f2 N nt hi hf hc hs h hcc hnt
    obtain ⟨fu, rfl⟩ : ∃ e, fu = e + 1 := ⟨fu - 1, by omega⟩
    have hL := h
    obtain ⟨⟨w1, w2, w3, w4, w5, w6, w7⟩, g2, g3, g4, g5⟩ := h
    obtain ⟨K', N', e1, e2⟩ := lay_next hL (L_dataNode (d := i) w1 w2 g2 (by omega) (by omega) (by omega) w3.2.1) (show (8 * i + 2) % 8 = 2 → (8 * i + 2) / 8 < v2 by omega)
    show (if 1 ≤ kc ∧ 6 ≤ ks then _ else none) = _
    rw [if_pos ⟨by omega, by omega⟩, if_neg (fun w => absurd ((nz_le (by omega) (by omega)).mp w) (by omega)), e1, Option.bind_some]
    show (f_L_laid (nz i) (nz i)).bind _ = _
    rw [laid_ok (by omega), Option.bind_some, show nz i + 1 = nz (i + 1) from nz_add i 1]
    refine ih fu _ _ (i + 1) K' (n + 1) S A f1 f2 N' _ (by omega) (by omega) (by omega) (by omega) e2 hcc ?_
    intro d hd
    unfold up1
    by_cases q : d = i
    · rw [if_pos q, q]
    · rw [if_neg q]; exact hnt d (by omega)
theorem cut195 {xs : IA} {L : Nat} {F : FS} {U : US} {D : DS} {R : RS} {M : MS} {P : PS} {fl cl sl v2 c : Nat} (hv : v2 ≤ 3) (hc6 : c ≤ 6) (h2 : Tag4 5 xs L F U D R M P fl cl sl v2 0 c (v2 + c) 0) : ∀ (k fu kc ks i : Nat) (K : TS) (n : Nat) (S : SS) (A : SG) (f1 f2 : IA) (N : NS) (nt : Nat → Tm), i + k = c → fl + k + 1 ≤ fu → cl + k + 1 ≤ kc → sl + 6 * (k + 1) ≤ ks → NodeL K n S A f1 f2 v2 N nt (v2 + i) → sCc A = c → (∀ d, d < v2 → nt d = dat d) → LW xs L fu 4 kc ks K F U S D R M N P f1 f2 (nz v2) (nz c) (nz (v2 + i)) 0 0 (nz i) = some 1 := by
  intro k
  induction k with
  | zero =>
    intro fu kc ks i K n S A f1 f2 N nt hi hf hc hs h hcc hnt
    obtain ⟨fu, rfl⟩ : ∃ e, fu = e + 1 := ⟨fu - 1, by omega⟩
    show (if 1 ≤ kc ∧ 6 ≤ ks then _ else none) = _
    rw [if_pos ⟨by omega, by omega⟩, if_pos ((nz_le (by omega) (by omega)).mpr (by omega))]
    exact h2 fu _ _ K n S A f1 f2 N nt (v2 + i) (by omega) (by omega) (by omega) h hcc (by omega) (by omega) hnt
  | succ k ih =>
    intro fu kc ks i K n S A f1 f2 N nt hi hf hc hs h hcc hnt
    obtain ⟨fu, rfl⟩ : ∃ e, fu = e + 1 := ⟨fu - 1, by omega⟩
    have hL := h
    obtain ⟨⟨w1, w2, w3, w4, w5, w6, w7⟩, g2, g3, g4, g5⟩ := h
    obtain ⟨K', N', e1, e2⟩ := lay_next hL (L_constructorNode (c := i) w1 w2 g2 (by omega) (by omega) (by omega) w3.1) (show (8 * i + 3) % 8 = 2 → (8 * i + 3) / 8 < v2 by omega)
    show (if 1 ≤ kc ∧ 6 ≤ ks then _ else none) = _
    rw [if_pos ⟨by omega, by omega⟩, if_neg (fun w => absurd ((nz_le (by omega) (by omega)).mp w) (by omega)), e1, Option.bind_some]
    show (f_L_laid (nz (v2 + i)) (nz (v2 + i))).bind _ = _
    rw [laid_ok (by omega), Option.bind_some, show nz i + 1 = nz (i + 1) from nz_add i 1]
    refine ih fu _ _ (i + 1) K' (n + 1) S A f1 f2 N' _ (by omega) (by omega) (by omega) (by omega) e2 hcc ?_
    intro d hd
    unfold up1
    rw [if_neg (by omega)]
    exact hnt d hd
theorem cut223 {xs : IA} {L : Nat} {F : FS} {U : US} {D : DS} {R : RS} {M : MS} {P : PS} {fl cl sl v2 c m0 : Nat} (hm0 : m0 ≤ 20) (h2 : Tag4 6 xs L F U D R M P fl cl sl v2 0 c (m0 + 4) 0) (hv : v2 ≤ m0) : ∀ (k fu kc ks i : Nat) (K : TS) (n : Nat) (S : SS) (A : SG) (f1 f2 : IA) (N : NS) (nt : Nat → Tm), i + k = 3 → fl + k + 1 ≤ fu → cl + k + 1 ≤ kc → sl + 6 * (k + 1) ≤ ks → NodeL K n S A f1 f2 v2 N nt (m0 + i) → sCc A = c → (∀ d, d < v2 → nt d = dat d) → LW xs L fu 5 kc ks K F U S D R M N P f1 f2 (nz v2) 0 (nz (m0 + i)) 0 0 (nz i) = some 1 := by
  intro k
  induction k with
  | zero =>
    intro fu kc ks i K n S A f1 f2 N nt hi hf hc hs h hcc hnt
    obtain ⟨fu, rfl⟩ : ∃ e, fu = e + 1 := ⟨fu - 1, by omega⟩
    obtain rfl : i = 3 := by omega
    have hL := h
    obtain ⟨⟨w1, w2, w3, w4, w5, w6, w7⟩, g2, g3, g4, g5⟩ := h
    obtain ⟨K', N', e1, e2⟩ := lay_next hL (L_universe (l := 0) w1 g2 (by omega) (by omega) (by omega)) (show (8 * 0 + 0) % 8 = 2 → (8 * 0 + 0) / 8 < v2 by omega)
    show (if 1 ≤ kc ∧ 6 ≤ ks then _ else none) = _
    rw [if_pos ⟨by omega, by omega⟩, if_pos (show (3 : Int32) ≤ nz 3 by decide), show f_L_universe K N 0 = some (nz (m0 + 3), K', N') from e1, Option.bind_some]
    show (f_L_laid (nz (m0 + 3)) (nz (m0 + 3))).bind _ = _
    rw [laid_ok (by omega), Option.bind_some]
    refine h2 fu _ _ K' (n + 1) S A f1 f2 N' _ (m0 + 3 + 1) (by omega) (by omega) (by omega) e2 hcc (by omega) (by omega) ?_
    intro d hd
    unfold up1
    rw [if_neg (by omega)]
    exact hnt d hd
  | succ k ih =>
    intro fu kc ks i K n S A f1 f2 N nt hi hf hc hs h hcc hnt
    obtain ⟨fu, rfl⟩ : ∃ e, fu = e + 1 := ⟨fu - 1, by omega⟩
    have hL := h
    obtain ⟨⟨w1, w2, w3, w4, w5, w6, w7⟩, g2, g3, g4, g5⟩ := h
    obtain ⟨K', N', e1, e2⟩ := lay_next hL (L_variable (l := i) w1 g2 (by omega) (by omega) (by omega)) trivial
    show (if 1 ≤ kc ∧ 6 ≤ ks then _ else none) = _
    rw [if_pos ⟨by omega, by omega⟩, if_neg (show ¬ (3 : Int32) ≤ nz i from fun w => absurd ((nz_le (i := 3) (by decide) (by omega)).mp w) (by omega)), e1, Option.bind_some]
    show (f_L_laid (nz (m0 + i)) (nz (m0 + i))).bind _ = _
    rw [laid_ok (by omega), Option.bind_some, show nz i + 1 = nz (i + 1) from nz_add i 1]
    refine ih fu _ _ (i + 1) K' (n + 1) S A f1 f2 N' _ (by omega) (by omega) (by omega) (by omega) e2 hcc ?_
    intro d hd
    unfold up1
    rw [if_neg (by omega)]
    exact hnt d hd
theorem laid_no {m : Nat} : f_L_laid (-1000000) (nz m) = some (nz m) := by
  unfold f_L_laid
  rw [if_neg (by decide)]
/-- a type of functions, laid or refused -/
theorem functions_next {K : TS} {n : Nat} {S : SS} {A : SG} {f1 f2 : IA} {v2 : Nat} {N : NS} {nt : Nat → Tm} {m i j : Nat} (h : NodeL K n S A f1 f2 v2 N nt m) (hm : m < 250) (hi : i < m) (hj : j < m) (hv : v2 ≤ m) (hnt : ∀ d, d < v2 → nt d = dat d) : ∃ x K' N' n' nt' m', f_L_functions K N (nz i) (nz j) = some (x, K', N') ∧ f_L_laid x (nz m) = some (nz m') ∧ NodeL K' n' S A f1 f2 v2 N' nt' m' ∧ m ≤ m' ∧ m' ≤ m + 1 ∧ (∀ d, d < v2 → nt' d = dat d) := by
  have hL := h
  obtain ⟨⟨w1, w2, w3, w4, w5, w6, w7⟩, g2, g3, g4, g5⟩ := h
  obtain ⟨l1, l2⟩ := L_functions w1 g2 hm (by omega) hi hj
  by_cases q : 1 + sizeT (nt i) + sizeT (nt j) ≤ 30
  · obtain ⟨K', N', e1, e2⟩ := lay_next hL (l1 q) ⟨g3 i hi, g3 j hj⟩
    refine ⟨_, K', N', n + 1, _, m + 1, e1, laid_ok (by omega), e2, by omega, by omega, ?_⟩
    intro d hd
    unfold up1
    rw [if_neg (by omega)]
    exact hnt d hd
  · exact ⟨_, K, N, n, nt, m, l2 (by omega), laid_no, hL, by omega, by omega, hnt⟩
