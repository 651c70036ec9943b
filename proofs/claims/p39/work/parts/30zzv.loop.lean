/-! the law's cuts: what is of a type -/
def MainI (K : TS) (n : Nat) (S : SS) (D : DS) (P : PS) (A : SG) (B : FG) (G : GG) (N : NS) (nt : Nat → Tm) (m : Nat) (f1 f2 f3 : IA) (v2 : Nat) : Prop :=
  CourtC K n S D P A B G ∧ CourtT A B G ∧ NodeC K n N nt m ∧ (∀ k, k < m → DtB v2 (nt k)) ∧ (∀ f, f < fFc B → DtB v2 (fTy B f)) ∧ AccOK D.2.2 B G ∧ sDc A = v2 ∧ (∀ c, c < sCc A → f1 c = nz (sOwn A c)) ∧ (∀ d, d < v2 → f2 d = nz (cntd A d (sCc A))) ∧ (∀ g, g < qN G → f3 g = nz (qF G g)) ∧ ∀ g, g < qN G → ∀ T ∈ qC G g, DtB v2 T
theorem MainI_ext {K K' : TS} {n : Nat} {S : SS} {D : DS} {P : PS} {A : SG} {B : FG} {G : GG} {N : NS} {nt : Nat → Tm} {m : Nat} {f1 f2 f3 : IA} {v2 : Nat} (h : MainI K n S D P A B G N nt m f1 f2 f3 v2) (hw : WF K' n) (hx : Ext K K' n) : MainI K' n S D P A B G N nt m f1 f2 f3 v2 := by
  obtain ⟨h1, h2, h3, h4⟩ := h
  exact ⟨CourtC_ext h1 hw hx (Nat.le_refl n), h2, NodeC_ext h3 hx (Nat.le_refl n), h4⟩
/-- the law's words in the main loop -/
abbrev LM (xs : IA) (L : Nat) (fu k kc ks : Nat) (K : TS) (F : FS) (U : US) (S : SS) (D : DS) (R : RS) (M : MS) (N : NS) (P : PS) (f1 f2 f3 : IA) (v2 v4 v5 v6 v13 v14 v20 v21 v22 v23 v24 v25 : Int32) (w : Int64) : Option Int32 := f_law_L xs L fu k kc ks K F U S D R M N P f1 f2 f3 v2 0 v4 v5 v6 0 0 0 0 0 0 v13 v14 0 0 0 0 0 v20 v21 v22 v23 v24 v25 w
/-- the loop goes on from this turn -/
def Tag7 (xs : IA) (L : Nat) (S : SS) (D : DS) (P : PS) (A : SG) (B : FG) (G : GG) (N : NS) (nt : Nat → Tm) (m n : Nat) (f1 f2 f3 : IA) (v2 v13 fl cl sl : Nat) : Prop := ∀ (fu kc ks : Nat) (K : TS) (F : FS) (U : US) (R : RS) (M : MS), fl ≤ fu → cl ≤ kc → sl ≤ ks → MainI K n S D P A B G N nt m f1 f2 f3 v2 → LM xs L fu 7 kc ks K F U S D R M N P f1 f2 f3 (nz v2) (nz m) (nz (qN G)) (nz (fFc B)) (nz v13) 0 0 0 0 0 0 0 N.2.2 = some 1
theorem cut1469 {xs : IA} {L : Nat} {S : SS} {D : DS} {P : PS} {A : SG} {B : FG} {G : GG} {N : NS} {nt : Nat → Tm} {m n : Nat} {f1 f2 f3 : IA} {v2 v13 fl cl sl k : Nat} (h7 : Tag7 xs L S D P A B G N nt m n f1 f2 f3 v2 (v13 + 1) fl cl sl) (hk : k < m) (hn : n + 8100 ≤ 32768) : ∀ (r fu kc ks y : Nat) (K : TS) (F : FS) (U : US) (R : RS) (M : MS), m ≤ y + r → y < 1000 → fl + 2 * r + 1 ≤ fu → cl + 6 * (r + 1) ≤ kc → sl + 36 * (r + 1) ≤ ks → MainI K n S D P A B G N nt m f1 f2 f3 v2 → LM xs L fu 15 kc ks K F U S D R M N P f1 f2 f3 (nz v2) (nz m) (nz (qN G)) (nz (fFc B)) (nz v13) 0 (nz k) 0 (ansN ((tyT (tbl A B) (nt k) []).bind nf)) 0 0 (nz y) N.2.2 = some 1 := by
  intro r
  induction r with
  | zero =>
    intro fu kc ks y K F U R M hy hy2 hf hc hs h
    have hm := h.2.2.1.2.1
    obtain ⟨fu, rfl⟩ : ∃ e, fu = e + 1 := ⟨fu - 1, by omega⟩
    show (if 6 ≤ kc ∧ 36 ≤ ks then _ else none) = _
    rw [if_pos ⟨by omega, by omega⟩, if_pos ((nz_le (by omega) (by omega)).mpr (by omega)), show nz v13 + 1 = nz (v13 + 1) from nz_add v13 1]
    exact h7 fu _ _ K F U R M (by omega) (by omega) (by omega) h
  | succ r ih =>
    intro fu kc ks y K F U R M hy hy2 hf hc hs h
    have hm := h.2.2.1.2.1
    obtain ⟨fu, rfl⟩ : ∃ e, fu = e + 1 := ⟨fu - 1, by omega⟩
    show (if 6 ≤ kc ∧ 36 ≤ ks then _ else none) = _
    by_cases q : m ≤ y
    · rw [if_pos ⟨by omega, by omega⟩, if_pos ((nz_le (by omega) (by omega)).mpr q), show nz v13 + 1 = nz (v13 + 1) from nz_add v13 1]
      exact h7 fu _ _ K F U R M (by omega) (by omega) (by omega) h
    · obtain ⟨fu, rfl⟩ : ∃ e, fu = e + 1 := ⟨fu - 1, by omega⟩
      have next : ∀ (K2 : TS) (F2 : FS) (U2 : US), WF K2 n → Ext K K2 n → LM xs L (fu + 1) 16 (kc - 6) (ks - 36) K2 F2 U2 S D R M N P f1 f2 f3 (nz v2) (nz m) (nz (qN G)) (nz (fFc B)) (nz v13) 0 (nz k) 0 (ansN ((tyT (tbl A B) (nt k) []).bind nf)) 0 0 (nz y) N.2.2 = some 1 := by
        intro K2 F2 U2 w1 w2
        have e : nz y + ((1 : Int32) + nz m / 9) = nz (y + (1 + m / 9)) := by
          rw [show nz m / 9 = nz (m / 9) from nz_div (m := 9) (by omega) (by decide) (by decide), show (1 : Int32) + nz (m / 9) = nz (1 + m / 9) from nz_add 1 _, nz_add]
        show f_law_1516 (f_law_L xs L fu) xs L (kc - 6) (ks - 36) K2 F2 U2 S D R M N P f1 f2 f3 (nz v2) 0 (nz m) (nz (qN G)) (nz (fFc B)) 0 0 0 0 0 0 (nz v13) 0 0 0 0 0 0 (nz k) 0 (ansN ((tyT (tbl A B) (nt k) []).bind nf)) 0 0 (nz y) N.2.2 = _
        unfold f_law_1516
        rw [if_pos ⟨Nat.zero_le _, Nat.zero_le _⟩, e]
        exact ih fu _ _ (y + (1 + m / 9)) K2 F2 U2 R M (by omega) (by omega) (by omega) (by omega) (by omega) (MainI_ext h w1 w2)
      obtain ⟨K1, F1, U1, b, c1, c2, c3, c4, c5⟩ := X_isOf h.1 h.2.1 h.2.2.1 hk (show y < m by omega) hn F U
      have h1 := MainI_ext h c2 c3
      rw [if_pos ⟨by omega, by omega⟩, if_neg (fun w => q ((nz_le (by omega) (by omega)).mp w)), c1, Option.bind_some, if_pos (show ((0, b, K1, F1, U1) : Int32 × Int32 × TS × FS × US).1 = 0 from rfl)]
      show (if b = 0 then _ else _) = _
      by_cases hb : b = 0
      · rw [if_pos hb]
        by_cases hv : 0 ≤ ansN ((tyT (tbl A B) (nt k) []).bind nf)
        · rw [if_pos hv]
          exact next K1 F1 U1 c2 c3
        · rw [if_neg hv]
          obtain ⟨K2, F2, U2, b2, d1, d2, d3, d4, d5⟩ := X_isOf h1.1 h1.2.1 h1.2.2.1 hk (show y < m by omega) hn F1 U1
          show Option.bind (f_X11_isOf K1 F1 U1 S D N P (nz k) (nz y)) _ = _
          rw [d1, Option.bind_some, if_pos (show ((0, b2, K2, F2, U2) : Int32 × Int32 × TS × FS × US).1 = 0 from rfl)]
          show (if b2 = 0 then _ else _) = _
          have hb2 : b2 = 0 := by
            rcases d4 with d4 | d4
            · exact d4
            · exact absurd hb (c5.mpr (d5.mp (by rw [d4]; decide)))
          rw [if_pos hb2]
          exact next K2 F2 U2 d2 (Ext_trans c3 d3 (Nat.le_refl n))
      · obtain ⟨u, u1, u2⟩ := c5.mp hb
        rw [if_neg hb]
        obtain ⟨K2, F2, d1, d2, d3⟩ := L_normal h1.1.1 h1.2.2.1 (show y < m by omega) (by omega) F1
        show Option.bind (f_L_normal K1 F1 N (nz y)) _ = _
        have e1 : ansN (nf (nt y)) = ansN ((tyT (tbl A B) (nt k) []).bind nf) := by rw [u1, u2]
        have hpos : 0 ≤ ansN ((tyT (tbl A B) (nt k) []).bind nf) := by
          obtain ⟨j, q1, q2⟩ := (termAt_ok h1.2.2.1 (show y < 1000000 by omega)).1 (show y < m by omega)
          have hz := h1.2.2.1.2.2 y (by omega)
          obtain ⟨K3, n3, F3, j3, x1, x2, x3, x4, x5, x6, -⟩ := (form_ok h1.1.1 q2 (by omega) (by omega) F1).1 u u2
          obtain ⟨c, cc1, cc2⟩ := numT_nat u j3 x6
          rw [u1]
          show (0 : Int32) ≤ numT u
          rw [cc2]
          exact (nz_le (i := 0) (by decide) (by omega)).mpr (Nat.zero_le c)
        rw [d1, Option.bind_some, if_pos (show ((ansN (nf (nt y)), K2, F2) : Int32 × TS × FS).1 = _ from e1), if_pos hpos]
        exact next K2 F2 U1 d2 (Ext_trans c3 d3 (Nat.le_refl n))
