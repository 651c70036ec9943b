/-! the law's cuts: runs -/
theorem runS_facts {K : Rows} {n m k : Nat} {S : SS} {D : DS} {P : PS} {A : SG} {B : FG} {G : GG} {N : NS} {nt : Nat → Tm} {u : Tm} {tk : Nat} (h : CourtC K n S D P A B G) (ht : CourtT A B G) (hN : NodeC K n N nt m) (hk : k < m) (hn : n + 12014 ≤ 32768) (hR : runS A B G D.2.2 (nt k) = some (u, tk)) : (∃ c, c < 1000400 ∧ numT u = nz c) ∧ tk ≤ 40 ∧ sizeT u ≤ 200 ∧ isDa ((tyT (tbl A B) (nt k) []).bind nf) = true := by
  obtain ⟨j, q1, q2⟩ := (termAt_ok hN (show k < 1000000 by have := hN.2.1; omega)).1 hk
  have hz := hN.2.2 k hk
  obtain ⟨K1, F1, U1, c1, c2, c3⟩ := core_ok h ht q2 hz.2.1 (show freeT (nt k) ≤ 1000 by omega) hn (0, Z, Z) (0, Z)
  have hd : isDa ((tyT (tbl A B) (nt k) []).bind nf) = true := by
    by_cases q : isDa ((tyT (tbl A B) (nt k) []).bind nf) = true
    · exact q
    · unfold runS at hR
      rw [if_neg q] at hR
      cases hR
  rcases c3 with ⟨d1, d2⟩ | ⟨d1, d2⟩
  · rw [d2] at hR; cases hR
  · obtain ⟨K2, n2, M2, x, w0, w1, w2, w3, w4⟩ := (d2 (Z, Z, Z, Z, 0, 0, 0, 0, 0)).1
    rcases w4 with ⟨r1, r2⟩ | ⟨u', tk', m', r1, r2, r3, r4, r5⟩
    · rw [r1] at hR; cases hR
    · rw [r1] at hR
      have e : (u', tk') = (u, tk) := by injection hR
      obtain ⟨rfl, rfl⟩ : u' = u ∧ tk' = tk := by simpa using e
      exact ⟨numT_nat u' m' r3, r5, Rep_size _ _ r3, hd⟩
theorem cmp_self (N : NS) {α : Type} (a b : α) : Option.bind (f_X11_allSteps N) (fun q => if (lg_cmp q N.2.2) = 0 then some a else some b) = some a := by
  have e : lg_cmp N.2.2 N.2.2 = 0 := by
    unfold lg_cmp
    simp
  show (if lg_cmp N.2.2 N.2.2 = 0 then some a else some b) = some a
  rw [if_pos e]
theorem cmp_go (N : NS) (x : Option Int32) : Option.bind (f_X11_allSteps N) (fun q => if (lg_cmp q N.2.2) = 0 then x else some 0) = x := by
  have e : lg_cmp N.2.2 N.2.2 = 0 := by
    unfold lg_cmp
    simp
  show (if lg_cmp N.2.2 N.2.2 = 0 then x else some 0) = x
  rw [if_pos e]
theorem half_pos {s : Nat} (h : 1 ≤ s) (h2 : s ≤ 200) : ¬ (nz s + 1) / 2 < 1 := by
  rw [show nz s + 1 = nz (s + 1) from nz_add s 1, show nz (s + 1) / 2 = nz ((s + 1) / 2) from nz_div (m := 2) (by omega) (by decide) (by decide)]
  intro w
  exact absurd ((nz_lt (j := 1) (by omega) (by decide)).mp w) (by omega)
theorem cut1372 {xs : IA} {L : Nat} {S : SS} {D : DS} {P : PS} {A : SG} {B : FG} {G : GG} {N : NS} {nt : Nat → Tm} {m n : Nat} {f1 f2 f3 : IA} {v2 v13 k fu kc ks : Nat} {K : TS} {F : FS} {U : US} {R : RS} {M : MS} (hk : k < m) (hn : n + 12014 ≤ 32768) (h : MainI K n S D P A B G N nt m f1 f2 f3 v2) (hc : 4 ≤ kc) (hs : 24 ≤ ks) (hv21 : 0 ≤ ansN (nf (nt k)) ∨ ansN (nf (nt k)) = -1500000)
    (h15 : ∀ (K' : TS) (F' : FS) (U' : US) (M' : MS), MainI K' n S D P A B G N nt m f1 f2 f3 v2 → LM xs L fu 15 (kc - 4) (ks - 24) K' F' U' S D R M' N P f1 f2 f3 (nz v2) (nz m) (nz (qN G)) (nz (fFc B)) (nz v13) 0 (nz k) 0 (ansN ((tyT (tbl A B) (nt k) []).bind nf)) 0 0 0 N.2.2 = some 1) :
    LM xs L (fu + 1) 14 kc ks K F U S D R M N P f1 f2 f3 (nz v2) (nz m) (nz (qN G)) (nz (fFc B)) (nz v13) 0 (nz k) (ansN (nf (nt k))) (ansN ((tyT (tbl A B) (nt k) []).bind nf)) (runV (runS A B G D.2.2 (nt k))) (runK (runS A B G D.2.2 (nt k))) 0 N.2.2 = some 1 := by
  obtain ⟨K1, F1, U1, M1, c1, c2, c3⟩ := L_runByClauses h.1 h.2.1 h.2.2.1 hk hn F U M
  have h1 := MainI_ext h c2 c3
  obtain ⟨K2, F2, U2, M2, d1, d2, d3⟩ := L_valueSize h1.1 h1.2.1 h1.2.2.1 hk hn F1 U1 M1
  have h2 := MainI_ext h1 d2 d3
  have g1 := h15 K1 F1 U1 M1 h1
  have g2 := h15 K2 F2 U2 M2 h2
  show f_law_1372 (f_law_L xs L fu) xs L kc ks K F U S D R M N P f1 f2 f3 (nz v2) 0 (nz m) (nz (qN G)) (nz (fFc B)) 0 0 0 0 0 0 (nz v13) 0 0 0 0 0 0 (nz k) (ansN (nf (nt k))) (ansN ((tyT (tbl A B) (nt k) []).bind nf)) (runV (runS A B G D.2.2 (nt k))) (runK (runS A B G D.2.2 (nt k))) 0 N.2.2 = some 1
  unfold f_law_1372
  rw [if_pos ⟨hc, hs⟩]
  simp only [c1, Option.bind_some, if_true]
  cases hR : runS A B G D.2.2 (nt k) with
  | none =>
    rw [hR] at c1 d1
    have e1 : runV none < 0 := by decide
    have e2 : runK none < 0 := by decide
    simp only [e1, e2, if_true, cmp_go, g1]
    rcases hv21 with q | q
    · rw [if_pos q]
    · rw [if_neg (show ¬ 0 ≤ ansN (nf (nt k)) by rw [q]; decide), if_pos q]
  | some p =>
    obtain ⟨u, tk⟩ := p
    obtain ⟨⟨c, cc1, cc2⟩, t1, t2, t3⟩ := runS_facts h.1 h.2.1 h.2.2.1 hk hn hR
    obtain ⟨dd, dd1, dd2⟩ := data_number (v := v2) h.2.1.1 (Nat.le_of_eq h.2.2.2.2.2.2.1) h.2.2.2.2.1 (h.2.2.2.1 k hk) t3
    have h6 := h.2.1.1.2.1
    have hv2 := h.2.2.2.2.2.2.1
    rw [hR] at d1
    have e1 : ¬ runV (some (u, tk)) < 0 := by
      show ¬ numT u < 0
      rw [cc2]; exact nz_neg (by omega)
    have e2 : ¬ runK (some (u, tk)) < 0 := nz_neg (by omega)
    have e3 : ¬ (40 : Int32) < runK (some (u, tk)) := fun w => absurd ((nz_lt (i := 40) (by decide) (by omega)).mp w) (by omega)
    have e4 : ¬ ansN ((tyT (tbl A B) (nt k) []).bind nf) < 101 := by
      rw [dd2]
      exact fun w => absurd ((nz_lt (j := 101) (by omega) (by decide)).mp w) (by omega)
    have e5 : ¬ (106 : Int32) < ansN ((tyT (tbl A B) (nt k) []).bind nf) := by
      rw [dd2]
      exact fun w => absurd ((nz_lt (i := 106) (by decide) (by omega)).mp w) (by omega)
    have e6 : ¬ runZ (some (u, tk)) < 1 := half_pos (size_pos u) t2
    simp only [e1, e2, e3, e4, e5, if_false, d1, Option.bind_some, e6, cmp_go, g2]
    rcases hv21 with q | q
    · rw [if_pos q]
    · rw [if_neg (show ¬ 0 ≤ ansN (nf (nt k)) by rw [q]; decide), if_pos q]
