/-! the law's cuts: constructors -/
/-- the signature as the law knows it -/
def SigL (K : TS) (n : Nat) (S : SS) (A : SG) (f1 f2 : IA) (v2 : Nat) : Prop := WF K n ∧ SigC K n S A ∧ SigOK A ∧ sDc A = v2 ∧ (∀ d, S.2.2.1 d = 0) ∧ (∀ c, c < sCc A → f1 c = nz (sOwn A c)) ∧ (∀ d, d < v2 → f2 d = nz (cntd A d (sCc A)))
def Tag3 (xs : IA) (L : Nat) (F : FS) (U : US) (D : DS) (R : RS) (M : MS) (N : NS) (P : PS) (fl cl sl v2 v3 : Nat) : Prop := ∀ (fu kc ks : Nat) (K : TS) (n : Nat) (S : SS) (A : SG) (f1 f2 : IA), fl ≤ fu → cl ≤ kc → sl ≤ ks → n ≤ 30 → SigL K n S A f1 f2 v2 → sCc A = v3 → LW xs L fu 3 kc ks K F U S D R M N P f1 f2 (nz v2) (nz v3) 0 0 0 0 = some 1
theorem cut78 {xs : IA} {L : Nat} {F : FS} {U : US} {D : DS} {R : RS} {M : MS} {N : NS} {P : PS} {fl cl sl v2 v3 : Nat} (hL : L < 1000000) (hD : D.2.2 = 0) (hv1 : 1 ≤ v2) (hv : v2 ≤ 3) (hv3 : v3 ≤ 6) (h2 : Tag3 xs L F U D R M N P fl cl sl v2 v3) : ∀ (k fu kc ks i : Nat) (K : TS) (n : Nat) (S : SS) (A : SG) (f1 f2 : IA), i + k = v3 → fl + k + 1 ≤ fu → cl + k + 1 ≤ kc → sl + 6 * (k + 1) ≤ ks → n ≤ 5 * i → SigL K n S A f1 f2 v2 → sCc A = i → LW xs L fu 2 kc ks K F U S D R M N P f1 f2 (nz v2) (nz v3) 0 0 0 (nz i) = some 1 := by
  intro k
  induction k with
  | zero =>
    intro fu kc ks i K n S A f1 f2 hi hf hc hs hn h hcc
    obtain ⟨fu, rfl⟩ : ∃ e, fu = e + 1 := ⟨fu - 1, by omega⟩
    show (if 1 ≤ kc ∧ 6 ≤ ks then _ else none) = _
    rw [if_pos ⟨by omega, by omega⟩, if_pos ((nz_le (by omega) (by omega)).mpr (by omega))]
    exact h2 fu _ _ K n S A f1 f2 (by omega) (by omega) (by omega) (by omega) h (by omega)
  | succ k ih =>
    intro fu kc ks i K n S A f1 f2 hi hf hc hs hn h hcc
    obtain ⟨fu, rfl⟩ : ∃ e, fu = e + 1 := ⟨fu - 1, by omega⟩
    obtain ⟨w1, w2, w3, w4, w5, w6, w7⟩ := h
    obtain ⟨d, d1, d2⟩ := L_some xs L (k := 2 + i) (m := v2) hL (by omega) (by omega) (by omega)
    obtain ⟨p, p1, p2⟩ := L_some xs L (k := 8 + i) (m := 3) hL (by omega) (by omega) (by omega)
    obtain ⟨a, a1, a2⟩ := L_some xs L (k := 14 + i) (m := v2) hL (by omega) (by omega) (by omega)
    obtain ⟨b, b1, b2⟩ := L_some xs L (k := 20 + i) (m := v2) hL (by omega) (by omega) (by omega)
    obtain ⟨K', S', r1, r2, r3, r4, r5⟩ := L_addConstructor (k := p) (d := d) (a := a) (b := b) w1 w2 w3 (by omega) (by omega) (by omega) (by omega) (by omega) (by omega) (w5 d) hD
    have eu : upd f1 i (nz d) i = nz d := if_pos rfl
    have i6 : inb (nz i) 6 = true := nz_inb (by omega) (by decide)
    have i3 : inb (nz d) 3 = true := nz_inb (by omega) (by decide)
    have hll : (lp p a b).length ≤ 2 := by unfold lp; split; exact Nat.zero_le _; split; exact (by decide : 1 ≤ 2); exact Nat.le_refl 2
    have hlm : ∀ e ∈ lp p a b, e < sDc A := by
      intro e he
      have hh : e = a ∨ e = b := by
        unfold lp at he
        split at he
        · exact absurd he (List.not_mem_nil)
        · split at he
          · exact Or.inl (by simpa using he)
          · simpa using he
      rcases hh with rfl | rfl <;> omega
    show (if 1 ≤ kc ∧ 6 ≤ ks then _ else none) = _
    rw [if_pos ⟨by omega, by omega⟩, if_neg (fun w => absurd ((nz_le (by omega) (by omega)).mp w) (by omega)), show (2 : Int32) + nz i = nz (2 + i) from nz_add 2 i, d2, Option.bind_some, if_pos i6, if_pos i6, nz_nat (show i < 2147483648 by omega), eu, if_pos i3, if_pos i3, if_pos i6, show (8 : Int32) + nz i = nz (8 + i) from nz_add 8 i, show f_L_some xs L (nz (8 + i)) 3 = some (nz p) from p2, Option.bind_some, show (14 : Int32) + nz i = nz (14 + i) from nz_add 14 i, a2, Option.bind_some, show (20 : Int32) + nz i = nz (20 + i) from nz_add 20 i, b2, Option.bind_some, r1, Option.bind_some, if_pos (show ((nz (sCc A), K', S') : Int32 × TS × SS).1 = nz i by rw [← hcc]), nz_nat (show d < 2147483648 by omega), show nz i + 1 = nz (i + 1) from nz_add i 1]
    refine ih fu _ _ (i + 1) K' (n + 1 + 2 * p) S' (addC A d (lp p a b)) _ _ (by omega) (by omega) (by omega) (by omega) (by omega) ⟨r2, r4, SigOK_addC w3 (by omega) (by omega) hll hlm, w4, fun e => by rw [r5]; exact w5 e, ?_, ?_⟩ (by show sCc A + 1 = i + 1; omega)
    · intro c hc'
      have hc2 : c < sCc A + 1 := hc'
      by_cases q : c = i
      · rw [q]
        refine (if_pos rfl).trans ?_
        have e : sOwn (addC A d (lp p a b)) i = d := if_pos hcc.symm
        rw [e]
      · have e : sOwn (addC A d (lp p a b)) c = sOwn A c := if_neg (by omega)
        rw [e]
        exact (if_neg q).trans (w6 c (by omega))
    · intro e he
      show upd f2 d (f2 d + 1) e = nz (cntd (addC A d (lp p a b)) e (sCc A) + (if sOwn (addC A d (lp p a b)) (sCc A) = e then 1 else 0))
      have e1 : sOwn (addC A d (lp p a b)) (sCc A) = d := if_pos rfl
      rw [cntd_addC A d _ e _ (Nat.le_refl _), e1]
      by_cases q : e = d
      · subst q
        rw [if_pos rfl]
        refine (if_pos rfl).trans ?_
        rw [w7 e he]
        exact nz_add _ 1
      · rw [if_neg (fun w => q w.symm), Nat.add_zero]
        exact (if_neg q).trans (w7 e he)
