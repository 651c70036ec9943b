/-! the law's first cuts: data types -/
abbrev Z : IA := fun _ => 0
abbrev LW (xs : IA) (L : Nat) (fu k kc ks : Nat) (K : TS) (F : FS) (U : US) (S : SS) (D : DS) (R : RS) (M : MS) (N : NS) (P : PS) (f1 f2 : IA) (v2 v3 v4 v5 v6 v10 : Int32) : Option Int32 := f_law_L xs L fu k kc ks K F U S D R M N P f1 f2 Z v2 v3 v4 v5 v6 0 0 0 v10 0 0 0 0 0 0 0 0 0 0 0 0 0 0 0 0
theorem step52 {xs : IA} {L fu kc ks : Nat} {K : TS} {F : FS} {U : US} {S : SS} {D : DS} {R : RS} {M : MS} {N : NS} {P : PS} {v2 v3 v10 : Int32} (h : 1 ≤ kc ∧ 6 ≤ ks) : LW xs L (fu + 1) 1 kc ks K F U S D R M N P Z Z v2 v3 0 0 0 v10 = (if v2 ≤ v10 then LW xs L fu 2 (kc - 1) (ks - 6) K F U S D R M N P Z Z v2 v3 0 0 0 0 else (f_L_addData S).bind (fun q => if q.1 = v10 then LW xs L fu 1 (kc - 1) (ks - 6) K F U q.2 D R M N P Z Z v2 v3 0 0 0 (v10 + 1) else some 0)) := by
  show (if 1 ≤ kc ∧ 6 ≤ ks then _ else none) = _
  rw [if_pos h]
def Tag2 (xs : IA) (L : Nat) (K : TS) (n : Nat) (F : FS) (U : US) (D : DS) (R : RS) (M : MS) (N : NS) (P : PS) (fl cl sl v2 v3 : Nat) : Prop := ∀ (fu kc ks : Nat) (S : SS) (A : SG), fl ≤ fu → cl ≤ kc → sl ≤ ks → SigC K n S A → SigOK A → sDc A = v2 → sCc A = 0 → (∀ d, S.2.2.1 d = 0) → LW xs L fu 2 kc ks K F U S D R M N P Z Z (nz v2) (nz v3) 0 0 0 0 = some 1
theorem cut52 {xs : IA} {L : Nat} {K : TS} {n : Nat} {F : FS} {U : US} {D : DS} {R : RS} {M : MS} {N : NS} {P : PS} {fl cl sl v2 v3 : Nat} (hv : v2 ≤ 5) (h2 : Tag2 xs L K n F U D R M N P fl cl sl v2 v3) : ∀ (k fu kc ks i : Nat) (S : SS) (A : SG), i + k = v2 → fl + k + 1 ≤ fu → cl + k + 1 ≤ kc → sl + 6 * (k + 1) ≤ ks → SigC K n S A → SigOK A → sDc A = i → sCc A = 0 → (∀ d, S.2.2.1 d = 0) → (∀ d, S.2.2.2.2.2.2.2.2 d = 0) → LW xs L fu 1 kc ks K F U S D R M N P Z Z (nz v2) (nz v3) 0 0 0 (nz i) = some 1 := by
  intro k
  induction k with
  | zero =>
    intro fu kc ks i S A hi hf hc hs h hok hd hcc hsp hcd
    obtain ⟨fu, rfl⟩ : ∃ e, fu = e + 1 := ⟨fu - 1, by omega⟩
    rw [step52 ⟨by omega, by omega⟩, if_pos ((nz_le (by omega) (by omega)).mpr (by omega))]
    exact h2 fu _ _ S A (by omega) (by omega) (by omega) h hok (by omega) hcc hsp
  | succ k ih =>
    intro fu kc ks i S A hi hf hc hs h hok hd hcc hsp hcd
    obtain ⟨fu, rfl⟩ : ∃ e, fu = e + 1 := ⟨fu - 1, by omega⟩
    have h0 : cntd A (sDc A) (sCc A) = 0 := by rw [hcc]; rfl
    obtain ⟨S', e1, e2, e3, e4⟩ := L_addData h (by omega) h0 (hcd _)
    rw [step52 ⟨by omega, by omega⟩, if_neg (fun w => absurd ((nz_le (by omega) (by omega)).mp w) (by omega)), e1, Option.bind_some, if_pos (show (((nz (sDc A)), S') : Int32 × SS).1 = nz i by rw [← hd]), show nz i + 1 = nz (i + 1) from nz_add i 1]
    exact ih fu _ _ (i + 1) S' (addD A) (by omega) (by omega) (by omega) (by omega) e2 (SigOK_addD hok (by omega)) (by show sDc A + 1 = i + 1; omega) hcc (fun d => by rw [e3]; exact hsp d) (fun d => by rw [e4]; exact hcd d)
