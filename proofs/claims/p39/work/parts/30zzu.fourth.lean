/-! the law's cuts: types of functions; from the start to the main loop -/
theorem cut263 {xs : IA} {L : Nat} {F : FS} {U : US} {D : DS} {R : RS} {M : MS} {P : PS} {fl cl sl v2 c m0 : Nat} (hL : L < 1000000) (hv1 : 1 ≤ v2) (hm0 : m0 ≤ 30) (hm2 : 2 ≤ m0) (hv : v2 ≤ m0) (h2 : Tag4 7 xs L F U D R M P fl cl sl v2 0 c m0 5) : ∀ (k fu kc ks i : Nat) (K : TS) (n : Nat) (S : SS) (A : SG) (f1 f2 : IA) (N : NS) (nt : Nat → Tm) (m : Nat), i + k = 5 → fl + k + 1 ≤ fu → cl + 3 * (k + 1) ≤ kc → sl + 60 * (k + 1) ≤ ks → NodeL K n S A f1 f2 v2 N nt m → sCc A = c → m0 ≤ m → m ≤ m0 + i → (∀ d, d < v2 → nt d = dat d) → LW xs L fu 6 kc ks K F U S D R M N P f1 f2 (nz v2) 0 (nz m) 0 0 (nz i) = some 1 := by
  intro k
  induction k with
  | zero =>
    intro fu kc ks i K n S A f1 f2 N nt m hi hf hc hs h hcc h5 h6 hnt
    obtain ⟨fu, rfl⟩ : ∃ e, fu = e + 1 := ⟨fu - 1, by omega⟩
    obtain rfl : i = 5 := by omega
    show (if 3 ≤ kc ∧ 60 ≤ ks then _ else none) = _
    rw [if_pos ⟨by omega, by omega⟩, if_pos (show (5 : Int32) ≤ nz 5 by decide)]
    exact h2 fu _ _ K n S A f1 f2 N nt m (by omega) (by omega) (by omega) h hcc h5 h6 hnt
  | succ k ih =>
    intro fu kc ks i K n S A f1 f2 N nt m hi hf hc hs h hcc h5 h6 hnt
    obtain ⟨fu, rfl⟩ : ∃ e, fu = e + 1 := ⟨fu - 1, by omega⟩
    obtain ⟨a, a1, a2⟩ := L_some xs L (k := 26 + i) (m := v2) hL (by omega) (by omega) (by omega)
    show (if 3 ≤ kc ∧ 60 ≤ ks then _ else none) = _
    rw [if_pos ⟨by omega, by omega⟩, if_neg (show ¬ (5 : Int32) ≤ nz i from fun w => absurd ((nz_le (i := 5) (by decide) (by omega)).mp w) (by omega)), show (26 : Int32) + nz i = nz (26 + i) from nz_add 26 i, a2, Option.bind_some]
    by_cases q : 2 ≤ i
    · obtain ⟨b, b1, b2⟩ := L_some xs L (k := 36 + i) (m := 2) hL (by omega) (by omega) (by omega)
      obtain ⟨x, K', N', n', nt', m', e1, e2, e3, e4, e5, e6⟩ := functions_next (i := a) (j := m - 1 - b) h (by omega) (by omega) (by omega) (by omega) hnt
      have es : nz m - (1 : Int32) - nz b = nz (m - 1 - b) := by
        rw [show nz m - (1 : Int32) = nz (m - 1) from nz_sub (i := m) (j := 1) (by omega)]
        exact nz_sub (by omega)
      rw [if_pos (show (2 : Int32) ≤ nz i from (nz_le (i := 2) (by decide) (by omega)).mpr q), show (36 : Int32) + nz i = nz (36 + i) from nz_add 36 i, show f_L_some xs L (nz (36 + i)) 2 = some (nz b) from b2, Option.bind_some, es, e1, Option.bind_some]
      show (f_L_laid x (nz m)).bind _ = _
      rw [e2, Option.bind_some, show nz i + 1 = nz (i + 1) from nz_add i 1]
      exact ih fu _ _ (i + 1) K' n' S A f1 f2 N' nt' m' (by omega) (by omega) (by omega) (by omega) e3 hcc (by omega) (by omega) e6
    · obtain ⟨b, b1, b2⟩ := L_some xs L (k := 31 + i) (m := v2) hL (by omega) (by omega) (by omega)
      obtain ⟨x, K', N', n', nt', m', e1, e2, e3, e4, e5, e6⟩ := functions_next (i := a) (j := b) h (by omega) (by omega) (by omega) (by omega) hnt
      rw [if_neg (show ¬ (2 : Int32) ≤ nz i from fun w => q ((nz_le (i := 2) (by decide) (by omega)).mp w)), show (31 : Int32) + nz i = nz (31 + i) from nz_add 31 i, b2, Option.bind_some, e1, Option.bind_some]
      show (f_L_laid x (nz m)).bind _ = _
      rw [e2, Option.bind_some, show nz i + 1 = nz (i + 1) from nz_add i 1]
      exact ih fu _ _ (i + 1) K' n' S A f1 f2 N' nt' m' (by omega) (by omega) (by omega) (by omega) e3 hcc (by omega) (by omega) e6
abbrev S0 : SS := (0, 0, Z, Z, Z, Z, Z, Z, Z)
abbrev K0 : TS := (0, Z, Z, Z, Z, Z, Z, Z, Z)
abbrev N0 : NS := (Z, 0, 0)
/-- what the main loop starts from -/
def Main0 (xs : IA) (L : Nat) (F : FS) (U : US) (D : DS) (R : RS) (M : MS) (P : PS) (fl cl sl : Nat) : Prop := ∀ (v2 c m0 : Nat), 1 ≤ v2 → v2 ≤ 3 → 1 ≤ c → c ≤ 5 → m0 = v2 + c + 4 → Tag4 7 xs L F U D R M P fl cl sl v2 0 c m0 5
theorem setup_ok {xs : IA} {L : Nat} {F : FS} {U : US} {D : DS} {R : RS} {M : MS} {P : PS} {fl cl sl fu kc ks : Nat} (hL : L < 1000000) (hD : D.2.2 = 0) (h : Main0 xs L F U D R M P fl cl sl) (hf : fl + 40 ≤ fu) (hc : cl + 60 ≤ kc) (hs : sl + 700 ≤ ks) : LW xs L fu 0 kc ks K0 F U S0 D R M N0 P Z Z 0 0 0 0 0 0 = some 1 := by
  obtain ⟨fu, rfl⟩ : ∃ e, fu = e + 1 := ⟨fu - 1, by omega⟩
  obtain ⟨a, a1, a2⟩ := L_some xs L (k := 0) (m := 3) hL (by omega) (by omega) (by omega)
  obtain ⟨b, b1, b2⟩ := L_some xs L (k := 1) (m := 5) hL (by omega) (by omega) (by omega)
  have hw0 : WF K0 0 := ⟨rfl, by omega, fun i hi => absurd hi (by omega)⟩
  have hs0 : SigC K0 0 S0 ((fun _ => 0, fun _ => [], 0, 0) : SG) := ⟨rfl, rfl, fun c hc => absurd hc (Nat.not_lt_zero c), fun d hd => absurd hd (Nat.not_lt_zero d)⟩
  have hk0 : SigOK ((fun _ => 0, fun _ => [], 0, 0) : SG) := ⟨Nat.zero_le _, Nat.zero_le _, fun c hc => absurd hc (Nat.not_lt_zero c)⟩
  show (if 2 ≤ kc ∧ 9 ≤ ks then _ else none) = _
  rw [if_pos ⟨by omega, by omega⟩, show f_L_some xs L 0 3 = some (nz a) from a2, Option.bind_some, show f_L_some xs L 1 5 = some (nz b) from b2, Option.bind_some, show (1 : Int32) + nz a = nz (1 + a) from nz_add 1 a, show (1 : Int32) + nz b = nz (1 + b) from nz_add 1 b]
  have m7 := h (1 + a) (1 + b) (1 + a + (1 + b) + 4) (by omega) (by omega) (by omega) (by omega) rfl
  have t6 : Tag4 6 xs L F U D R M P (fl + 6) (cl + 18) (sl + 360) (1 + a) 0 (1 + b) (1 + a + (1 + b) + 4) 0 := by
    intro fu' kc' ks' K n S A f1 f2 N nt m g1 g2 g3 g4 g5 g6 g7 g8
    exact cut263 hL (by omega) (by omega) (by omega) (by omega) m7 5 fu' kc' ks' 0 K n S A f1 f2 N nt m (by omega) (by omega) (by omega) (by omega) g4 g5 g6 (by omega) g8
  have t5 : Tag4 5 xs L F U D R M P (fl + 10) (cl + 22) (sl + 384) (1 + a) 0 (1 + b) (1 + a + (1 + b)) 0 := by
    intro fu' kc' ks' K n S A f1 f2 N nt m g1 g2 g3 g4 g5 g6 g7 g8
    obtain rfl : m = 1 + a + (1 + b) := by omega
    exact cut223 (m0 := 1 + a + (1 + b)) (by omega) t6 (by omega) 3 fu' kc' ks' 0 K n S A f1 f2 N nt (by omega) (by omega) (by omega) (by omega) g4 g5 g8
  have t4 : Tag4 4 xs L F U D R M P (fl + 16) (cl + 28) (sl + 420) (1 + a) (nz (1 + b)) (1 + b) (1 + a) 0 := by
    intro fu' kc' ks' K n S A f1 f2 N nt m g1 g2 g3 g4 g5 g6 g7 g8
    obtain rfl : m = 1 + a := by omega
    exact cut195 (by omega) (by omega) t5 (1 + b) fu' kc' ks' 0 K n S A f1 f2 N nt (by omega) (by omega) (by omega) (by omega) g4 g5 g8
  have t3 : Tag3 xs L F U D R M N0 P (fl + 20) (cl + 32) (sl + 444) (1 + a) (1 + b) := by
    intro fu' kc' ks' K n S A f1 f2 g1 g2 g3 g4 g5 g6
    exact cut167 (by omega) t4 (1 + a) fu' kc' ks' 0 K n S A f1 f2 N0 (fun _ => dat 0) (by omega) (by omega) (by omega) (by omega) ⟨g5, ⟨rfl, by omega, fun k hk => absurd hk (Nat.not_lt_zero k)⟩, fun k hk => absurd hk (Nat.not_lt_zero k), rfl, by omega⟩ g6 (fun d hd => absurd hd (Nat.not_lt_zero d))
  have t2 : Tag2 xs L K0 0 F U D R M N0 P (fl + 27) (cl + 39) (sl + 486) (1 + a) (1 + b) := by
    intro fu' kc' ks' S A g1 g2 g3 g4 g5 g6 g7 g8
    exact cut78 hL hD (by omega) (by omega) (by omega) t3 (1 + b) fu' kc' ks' 0 K0 0 S A Z Z (by omega) (by omega) (by omega) (by omega) (by omega) ⟨hw0, g4, g5, g6, g8, fun c hc => absurd hc (by omega), fun d hd => by rw [g7]; rfl⟩ g7
  exact cut52 (by omega) t2 (1 + a) fu _ _ 0 S0 (fun _ => 0, fun _ => [], 0, 0) (by omega) (by omega) (by omega) (by omega) hs0 hk0 rfl rfl (fun d => rfl) (fun d => rfl)
