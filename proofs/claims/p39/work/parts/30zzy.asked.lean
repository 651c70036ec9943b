/-! the law's cuts: what is asked of a node before it is run -/
theorem ansN_form {K : Rows} {n m k : Nat} {N : NS} {nt : Nat → Tm} (hw : WF K n) (hN : NodeC K n N nt m) (hk : k < m) (hn : n + 2500 ≤ 32768) : 0 ≤ ansN (nf (nt k)) ∨ ansN (nf (nt k)) = -1500000 := by
  obtain ⟨j, q1, q2⟩ := (termAt_ok hN (show k < 1000000 by have := hN.2.1; omega)).1 hk
  have hz := hN.2.2 k hk
  cases hu : nf (nt k) with
  | none => exact Or.inr rfl
  | some u =>
    obtain ⟨K3, n3, F3, j3, x1, x2, x3, x4, x5, x6, -⟩ := (form_ok hw q2 hn (by omega) (0, Z, Z)).1 u hu
    obtain ⟨c, cc1, cc2⟩ := numT_nat u j3 x6
    left
    show (0 : Int32) ≤ numT u
    rw [cc2]
    exact (nz_le (i := 0) (by decide) (by omega)).mpr (Nat.zero_le c)
theorem runN_node (N : NS) (R : Option (Tm × Nat)) : (runN N R).1 = N.1 ∧ (runN N R).2.1 = N.2.1 := by
  cases R with
  | none => exact ⟨rfl, rfl⟩
  | some p => exact ⟨rfl, rfl⟩
theorem MainI_node {K : TS} {n : Nat} {S : SS} {D : DS} {P : PS} {A : SG} {B : FG} {G : GG} {N N' : NS} {nt : Nat → Tm} {m : Nat} {f1 f2 f3 : IA} {v2 : Nat} (h : MainI K n S D P A B G N nt m f1 f2 f3 v2) (h1 : N'.1 = N.1) (h2 : N'.2.1 = N.2.1) : MainI K n S D P A B G N' nt m f1 f2 f3 v2 := by
  obtain ⟨a1, a2, a3, a4⟩ := h
  exact ⟨a1, a2, ⟨h2.trans a3.1, a3.2.1, fun k hk => by rw [h1]; exact a3.2.2 k hk⟩, a4⟩
theorem cut1315 {xs : IA} {L : Nat} {S : SS} {D : DS} {P : PS} {A : SG} {B : FG} {G : GG} {N : NS} {nt : Nat → Tm} {m n : Nat} {f1 f2 f3 : IA} {v2 v13 v14 fu kc ks : Nat} {K : TS} {F : FS} {U : US} {R : RS} {M : MS} (hL : L < 1000000) (hm : 1 ≤ m) (h14 : v14 < 900000) (hn : n + 12014 ≤ 32768) (h : MainI K n S D P A B G N nt m f1 f2 f3 v2) (hc : 8 ≤ kc) (hs : 48 ≤ ks)
    (go : ∀ (k : Nat) (K' : TS) (F' : FS) (U' : US) (M' : MS), k < m → (0 ≤ ansN (nf (nt k)) ∨ ansN (nf (nt k)) = -1500000) → MainI K' n S D P A B G (runN N (runS A B G D.2.2 (nt k))) nt m f1 f2 f3 v2 → LM xs L fu 14 (kc - 8) (ks - 48) K' F' U' S D R M' (runN N (runS A B G D.2.2 (nt k))) P f1 f2 f3 (nz v2) (nz m) (nz (qN G)) (nz (fFc B)) (nz v13) 0 (nz k) (ansN (nf (nt k))) (ansN ((tyT (tbl A B) (nt k) []).bind nf)) (runV (runS A B G D.2.2 (nt k))) (runK (runS A B G D.2.2 (nt k))) 0 (runN N (runS A B G D.2.2 (nt k))).2.2 = some 1) :
    LM xs L (fu + 1) 13 kc ks K F U S D R M N P f1 f2 f3 (nz v2) (nz m) (nz (qN G)) (nz (fFc B)) (nz v13) (nz v14) 0 0 0 0 0 0 N.2.2 = some 1 := by
  have hm2 := h.2.2.1.2.1
  obtain ⟨k, k1, k2⟩ := L_some xs L (k := v14 + 2) (m := m) hL (by omega) (by omega) (by omega)
  obtain ⟨K1, F1, c1, c2, c3⟩ := L_normal h.1.1 h.2.2.1 k1 (by omega) F
  have h1 := MainI_ext h c2 c3
  obtain ⟨K2, F2, U2, d1, d2, d3⟩ := L_typeOf h1.1 h1.2.1 h1.2.2.1 k1 (by omega) F1 U
  have h2 := MainI_ext h1 d2 d3
  obtain ⟨K3, F3, U3, M3, e1, e2, e3⟩ := L_run h2.1 h2.2.1 h2.2.2.1 k1 hn F2 U2 M
  have h3 := MainI_ext h2 e2 e3
  obtain ⟨rn1, rn2⟩ := runN_node N (runS A B G D.2.2 (nt k))
  have h3' := MainI_node h3 rn1 rn2
  obtain ⟨K4, F4, U4, M4, g1, g2, g3⟩ := L_steps h3'.1 h3'.2.1 h3'.2.2.1 k1 hn F3 U3 M3
  have h4 := MainI_ext h3' g2 g3
  have fin := go k K4 F4 U4 M4 k1 (ansN_form h.1.1 h.2.2.1 k1 (by omega)) h4
  show f_law_1315 (f_law_L xs L fu) xs L kc ks K F U S D R M N P f1 f2 f3 (nz v2) 0 (nz m) (nz (qN G)) (nz (fFc B)) 0 0 0 0 0 0 (nz v13) (nz v14) 0 0 0 0 0 0 0 0 0 0 0 N.2.2 = some 1
  unfold f_law_1315
  rw [if_pos ⟨hc, hs⟩, show nz v14 + 2 = nz (v14 + 2) from nz_add v14 2, k2, Option.bind_some, c1, Option.bind_some]
  show Option.bind (f_L_typeOf K1 F1 U S D N P (nz k)) _ = _
  rw [d1, Option.bind_some]
  show Option.bind (f_L_run K2 F2 U2 S D M N P (nz k)) _ = _
  rw [e1, Option.bind_some]
  show Option.bind (f_L_steps K3 F3 U3 S D M3 (runN N (runS A B G D.2.2 (nt k))) P (nz k)) _ = _
  rw [g1, Option.bind_some]
  show (if runK (runS A B G D.2.2 (nt k)) < 0 then _ else _) = _
  cases hR : runS A B G D.2.2 (nt k) with
  | none =>
    rw [hR] at fin
    rw [if_pos (show runK none < 0 by decide)]
    exact fin
  | some p =>
    obtain ⟨u, tk⟩ := p
    obtain ⟨t0, t1, t2, t3⟩ := runS_facts h.1 h.2.1 h.2.2.1 k1 hn hR
    rw [hR] at fin
    rw [if_neg (show ¬ runK (some (u, tk)) < 0 from nz_neg (by omega))]
    exact fin
