/-! the turns -/
def Start7 (xs : IA) (L t fl cl sl : Nat) : Prop := ∀ (fu kc ks : Nat) (K : TS) (n : Nat) (F : FS) (U : US) (S : SS) (D : DS) (R : RS) (M : MS) (N : NS) (P : PS) (A : SG) (B : FG) (G : GG) (nt : Nat → Tm) (m : Nat) (f1 f2 f3 : IA) (v2 : Nat), fl ≤ fu → cl ≤ kc → sl ≤ ks → v2 ≤ 3 → TurnI K n S D P A B G N nt m f1 f2 f3 v2 t → LM xs L fu 7 kc ks K F U S D R M N P f1 f2 f3 (nz v2) (nz m) (nz (qN G)) (nz (fFc B)) (nz t) 0 0 0 0 0 0 0 N.2.2 = some 1
theorem start7_last (xs : IA) (L : Nat) : Start7 xs L 36 1 204 6009 := by
  intro fu kc ks K n F U S D R M N P A B G nt m f1 f2 f3 v2 hf hc hs hv h
  obtain ⟨r1, r2, r3⟩ := TurnI_room h (Nat.le_refl 36)
  obtain ⟨hI, hm1, hm2, hn⟩ := h
  obtain ⟨fu, rfl⟩ : ∃ e, fu = e + 1 := ⟨fu - 1, by omega⟩
  obtain ⟨K', F', U', hS⟩ := X_isSound hI.1 hI.2.1 hI.2.2.2.2.2.1 (show n + 8100 ≤ 32768 by omega) F U
  show f_law_342 (f_law_L xs L fu) xs L kc ks K F U S D R M N P f1 f2 f3 (nz v2) 0 (nz m) (nz (qN G)) (nz (fFc B)) 0 0 0 0 0 0 (nz 36) 0 0 0 0 0 0 0 0 0 0 0 0 N.2.2 = some 1
  unfold f_law_342
  rw [if_pos ⟨hc, hs⟩, if_pos (show (36 : Int32) ≤ nz 36 by decide), refuses_ok hI hm1 F U R M, Option.bind_some, if_neg (show ¬ ((1, K, F, U, S, D, R, M, N, P) : Int32 × TS × FS × US × SS × DS × RS × MS × NS × PS).1 = 0 from (by decide : ¬ (1 : Int32) = 0))]
  show Option.bind (f_X11_isSound K F U S D P) _ = _
  rw [hS, Option.bind_some]
  rfl
theorem turn_342 {xs : IA} {L t fl cl sl : Nat} (hL : L < 1000000) (ht : t < 36) (E : End13 xs L t fl cl sl) : Start7 xs L t (fl + 19) (cl + 255) (sl + 6315) := by
  intro fu kc ks K n F U S D R M N P A B G nt m f1 f2 f3 v2 hf hc hs hv h
  have hT := h
  obtain ⟨r1, r2, r3⟩ := TurnI_room h (by omega)
  obtain ⟨hI, hm1, hm2, hn⟩ := h
  have h8 := hI.2.1.2.1.1
  have h40 := hI.2.1.2.2.1
  obtain ⟨fu, rfl⟩ : ∃ e, fu = e + 2 := ⟨fu - 2, by omega⟩
  obtain ⟨a, a1, a2⟩ := L_some xs L (k := 42 + 5 * t) (m := m) hL (by omega) (by omega) (by omega)
  obtain ⟨b, b1, b2⟩ := L_some xs L (k := 42 + 5 * t + 1) (m := m) hL (by omega) (by omega) (by omega)
  obtain ⟨g, g1, g2⟩ := L_some xs L (k := 42 + 5 * t + 2) (m := qN G + 1) hL (by omega) (by omega) (by omega)
  obtain ⟨wh, w1, w2⟩ := L_some xs L (k := 42 + 5 * t + 3) (m := 14) hL (by omega) (by omega) (by omega)
  have e14 : (42 : Int32) + (5 : Int32) * nz t = nz (42 + 5 * t) := by
    rw [show (5 : Int32) * nz t = nz (5 * t) from nz_mul 5 t]
    exact nz_add 42 (5 * t)
  have za := (L_size hI.1.1 hI.2.2.1 (show a < 1000000 by omega)).1 a1
  have zb := (L_size hI.1.1 hI.2.2.1 (show b < 1000000 by omega)).1 b1
  show f_law_342 (f_law_L xs L (fu + 1)) xs L kc ks K F U S D R M N P f1 f2 f3 (nz v2) 0 (nz m) (nz (qN G)) (nz (fFc B)) 0 0 0 0 0 0 (nz t) 0 0 0 0 0 0 0 0 0 0 0 0 N.2.2 = some 1
  unfold f_law_342
  rw [if_pos ⟨by omega, by omega⟩, if_neg (show ¬ (36 : Int32) ≤ nz t from fun w => absurd ((nz_le (i := 36) (by decide) (by omega)).mp w) (by omega)), e14, a2, Option.bind_some, show nz (42 + 5 * t) + (1 : Int32) = nz (42 + 5 * t + 1) from nz_add _ 1, b2, Option.bind_some, show nz (42 + 5 * t) + (2 : Int32) = nz (42 + 5 * t + 2) from nz_add _ 2, show nz (qN G) + (1 : Int32) = nz (qN G + 1) from nz_add _ 1, g2, Option.bind_some, show nz (42 + 5 * t) + (3 : Int32) = nz (42 + 5 * t + 3) from nz_add _ 3, show f_L_some xs L (nz (42 + 5 * t + 3)) 14 = some (nz wh) from w2, Option.bind_some, za, Option.bind_some, if_pos (show ((0 : Int32), nz (sizeT (nt a))).1 = 0 from rfl), zb, Option.bind_some, if_pos (show ((0 : Int32), nz (sizeT (nt b))).1 = 0 from rfl)]
  by_cases q6 : 6 ≤ wh
  · rw [if_pos (show (6 : Int32) ≤ nz wh from (nz_le (i := 6) (by decide) (by omega)).mpr q6)]
    by_cases q8 : 8 ≤ wh
    · rw [if_pos (show (8 : Int32) ≤ nz wh from (nz_le (i := 8) (by decide) (by omega)).mpr q8)]
      by_cases q10 : 10 ≤ wh
      · rw [if_pos (show (10 : Int32) ≤ nz wh from (nz_le (i := 10) (by decide) (by omega)).mpr q10)]
        by_cases q12 : 12 ≤ wh
        · rw [if_pos (show (12 : Int32) ≤ nz wh from (nz_le (i := 12) (by decide) (by omega)).mpr q12)]
          exact acc_ok (fu := fu + 1) hL ht E hv hT (by omega) (by omega) (by omega)
        · rw [if_neg (show ¬ (12 : Int32) ≤ nz wh from fun w => q12 ((nz_le (i := 12) (by decide) (by omega)).mp w))]
          exact fil_ok (fu := fu + 1) hL ht E hv hT a1 (show g ≤ qN G by omega) q10 (by omega) (by omega) (by omega) (by omega)
      · rw [if_neg (show ¬ (10 : Int32) ≤ nz wh from fun w => q10 ((nz_le (i := 10) (by decide) (by omega)).mp w))]
        exact spl_ok (fu := fu + 1) hL ht E hv hT (show g ≤ qN G by omega) (by omega) (by omega) (by omega)
    · rw [if_neg (show ¬ (8 : Int32) ≤ nz wh from fun w => q8 ((nz_le (i := 8) (by decide) (by omega)).mp w))]
      exact decl_ok (fu := fu + 1) ht E hv hT a1 (by omega) (by omega) (by omega)
  · rw [if_neg (show ¬ (6 : Int32) ≤ nz wh from fun w => q6 ((nz_le (i := 6) (by decide) (by omega)).mp w))]
    have pair : ∀ (o : Option (Int32 × TS × NS)) (tm : Tm), (1 + sizeT (nt a) + sizeT (nt b) ≤ 30 → Laid o K n N nt m tm) → (30 < 1 + sizeT (nt a) + sizeT (nt b) → o = some (-1000000, K, N)) → sizeT tm = 1 + sizeT (nt a) + sizeT (nt b) → DtB v2 tm →
        (numT tm = if 3 ≤ wh then (if 5 ≤ wh then numP 0 (numT (nt a)) (numT (nt b)) else numP 1 (numT (nt a)) (numT (nt b))) else numP 2 (numT (nt a)) (numT (nt b))) → (wh < 3 → tm = .mul (nt a) (nt b)) →
        br_pair (f_law_L xs L (fu + 1)) xs L kc ks K F U S D R M N P f1 f2 f3 (nz v2) (nz m) (nz (qN G)) (nz (fFc B)) (nz t) (nz (42 + 5 * t)) N.2.2 o (nz a) (nz b) (nz wh) (nz (sizeT (nt a))) (nz (sizeT (nt b))) = some 1 := by
      intro o tm o1 o2 hz hd hnum hmul
      refine pair_ok hI a1 b1 (by omega) (by omega) o1 o2 hz hd hnum ?_ ?_
      · intro K' N' e5 hI'
        refine cut609_yes (n := n + 1) (a := a) (b := b) (wh := wh) hI' (by omega) a1 b1 (by omega) ?_ (by omega) (by omega) ?_
        · intro w
          rw [up1_eq, up1_ne (show a ≠ m by omega), up1_ne (show b ≠ m by omega)]
          exact hmul w
        · intro K2 F2 U2 hI2
          rw [← e5]
          exact E fu _ _ K2 (n + 1) F2 U2 S D R M N' P A B G _ (m + 1) f1 f2 f3 v2 (by omega) (by omega) (by omega) hv ⟨hI2, by omega, by omega, by omega⟩
      · exact cut609_no (by omega) (by omega) (E fu _ _ K n F U S D R M N P A B G nt m f1 f2 f3 v2 (by omega) (by omega) (by omega) hv ⟨hI, hm1, by omega, by omega⟩)
    have hda := hI.2.2.2.1 a a1
    have hdb := hI.2.2.2.1 b b1
    by_cases q3 : 3 ≤ wh
    · rw [if_pos (show (3 : Int32) ≤ nz wh from (nz_le (i := 3) (by decide) (by omega)).mpr q3)]
      by_cases q5 : 5 ≤ wh
      · rw [if_pos (show (5 : Int32) ≤ nz wh from (nz_le (i := 5) (by decide) (by omega)).mpr q5)]
        obtain ⟨l1, l2⟩ := L_functions hI.1.1 hI.2.2.1 (show m < 250 by omega) (show n < 32768 by omega) a1 b1
        exact pair _ (.add (nt a) (nt b)) l1 l2 rfl ⟨hda, hdb⟩ (by rw [if_pos q3, if_pos q5]; rfl) (fun w => absurd w (by omega))
      · rw [if_neg (show ¬ (5 : Int32) ≤ nz wh from fun w => q5 ((nz_le (i := 5) (by decide) (by omega)).mp w))]
        obtain ⟨l1, l2⟩ := L_lambda hI.1.1 hI.2.2.1 (show m < 250 by omega) (show n < 32768 by omega) a1 b1
        exact pair _ (.sub (nt a) (nt b)) l1 l2 rfl ⟨hda, hdb⟩ (by rw [if_pos q3, if_neg q5]; rfl) (fun w => absurd w (by omega))
    · rw [if_neg (show ¬ (3 : Int32) ≤ nz wh from fun w => q3 ((nz_le (i := 3) (by decide) (by omega)).mp w))]
      obtain ⟨l1, l2⟩ := L_apply hI.1.1 hI.2.2.1 (show m < 250 by omega) (show n < 32768 by omega) a1 b1
      exact pair _ (.mul (nt a) (nt b)) l1 l2 rfl ⟨hda, hdb⟩ (by rw [if_neg q3]; rfl) (fun _ => rfl)
theorem start7_step {xs : IA} {L t fl cl sl : Nat} (hL : L < 1000000) (ht : t < 36) (h : Start7 xs L (t + 1) fl cl sl) : Start7 xs L t (fl + 128) (cl + 591) (sl + 8331) := by
  have E : End13 xs L t (fl + 109) (cl + 336) (sl + 2016) := by
    intro fu kc ks K n F U S D R M N P A B G nt m f1 f2 f3 v2 hf hc hs hv hT
    obtain ⟨r1, r2, r3⟩ := TurnI_room hT (by omega)
    obtain ⟨hI, hm1, hm2, hn⟩ := hT
    refine turn_end (fl := fl) (cl := cl) (sl := sl) (n := n) hL hm1 (by omega) (by omega) hI (by omega) (by omega) (by omega) ?_
    intro N' fu' kc' ks' K' F' U' R' M' q1 q2 q3 q4
    exact h fu' kc' ks' K' n F' U' S D R' M' N' P A B G nt m f1 f2 f3 v2 q1 q2 q3 hv ⟨q4, hm1, hm2, hn⟩
  exact turn_342 hL ht E
theorem start7_all {xs : IA} {L : Nat} (hL : L < 1000000) : ∀ k t, t + k = 36 → Start7 xs L t (1 + 128 * k) (204 + 591 * k) (6009 + 8331 * k) := by
  intro k
  induction k with
  | zero =>
    intro t ht
    obtain rfl : t = 36 := by omega
    exact start7_last xs L
  | succ k ih =>
    intro t ht
    rw [show 1 + 128 * (k + 1) = 1 + 128 * k + 128 by omega, show 204 + 591 * (k + 1) = 204 + 591 * k + 591 by omega, show 6009 + 8331 * (k + 1) = 6009 + 8331 * k + 8331 by omega]
    exact start7_step hL (by omega) (ih (t + 1) (by omega))
