/-! the turn's start and end; accept -/
def TurnI (K : TS) (n : Nat) (S : SS) (D : DS) (P : PS) (A : SG) (B : FG) (G : GG) (N : NS) (nt : Nat → Tm) (m : Nat) (f1 f2 f3 : IA) (v2 t : Nat) : Prop := MainI K n S D P A B G N nt m f1 f2 f3 v2 ∧ 1 ≤ m ∧ m ≤ 17 + t ∧ n ≤ 30 + m + 2 * t + NB (qN G)
def End13 (xs : IA) (L t fl cl sl : Nat) : Prop := ∀ (fu kc ks : Nat) (K : TS) (n : Nat) (F : FS) (U : US) (S : SS) (D : DS) (R : RS) (M : MS) (N : NS) (P : PS) (A : SG) (B : FG) (G : GG) (nt : Nat → Tm) (m : Nat) (f1 f2 f3 : IA) (v2 : Nat), fl ≤ fu → cl ≤ kc → sl ≤ ks → v2 ≤ 3 → TurnI K n S D P A B G N nt m f1 f2 f3 v2 (t + 1) → LM xs L fu 13 kc ks K F U S D R M N P f1 f2 f3 (nz v2) (nz m) (nz (qN G)) (nz (fFc B)) (nz t) (nz (42 + 5 * t)) 0 0 0 0 0 0 N.2.2 = some 1
theorem TurnI_room {K : TS} {n : Nat} {S : SS} {D : DS} {P : PS} {A : SG} {B : FG} {G : GG} {N : NS} {nt : Nat → Tm} {m : Nat} {f1 f2 f3 : IA} {v2 t : Nat} (h : TurnI K n S D P A B G N nt m f1 f2 f3 v2 t) (ht : t ≤ 36) : n ≤ 155 + NB (qN G) ∧ n ≤ 19915 ∧ m ≤ 53 := by
  obtain ⟨h1, h2, h3, h4⟩ := h
  have e : NB 40 = 19760 := by decide
  have q := NB_mono h1.2.1.2.2.1
  omega
theorem acc_ok {xs : IA} {L t fl cl sl fu kc ks : Nat} {K : TS} {n : Nat} {F : FS} {U : US} {S : SS} {D : DS} {R : RS} {M : MS} {N : NS} {P : PS} {A : SG} {B : FG} {G : GG} {nt : Nat → Tm} {m : Nat} {f1 f2 f3 : IA} {v2 : Nat} (hL : L < 1000000) (ht : t < 36) (E : End13 xs L t fl cl sl) (hv : v2 ≤ 3) (h : TurnI K n S D P A B G N nt m f1 f2 f3 v2 t) (hf : fl ≤ fu) (hc : cl + 204 ≤ kc) (hs : sl + 6009 ≤ ks) :
    br_acc (f_law_L xs L fu) xs L kc ks K F U S D R M N P f1 f2 f3 (nz v2) (nz m) (nz (qN G)) (nz (fFc B)) (nz t) (nz (42 + 5 * t)) N.2.2 = some 1 := by
  obtain ⟨hI, hm1, hm2, hn⟩ := h
  have h8 := hI.2.1.2.1.1
  obtain ⟨f, f1', f2'⟩ := L_some xs L (k := 42 + 5 * t + 4) (m := fFc B + 1) hL (by omega) (by omega) (by omega)
  have fin : ∀ (D' : DS) (R' : RS), MainI K n S D' P A B G N nt m f1 f2 f3 v2 → LM xs L fu 13 (kc - 204) (ks - 6009) K F U S D' R' M N P f1 f2 f3 (nz v2) (nz m) (nz (qN G)) (nz (fFc B)) (nz t) (nz (42 + 5 * t)) 0 0 0 0 0 0 N.2.2 = some 1 :=
    fun D' R' hI' => E fu _ _ K n F U S D' R' M N P A B G nt m f1 f2 f3 v2 hf (by omega) (by omega) hv ⟨hI', hm1, by omega, by omega⟩
  unfold br_acc
  rw [show nz (42 + 5 * t) + (4 : Int32) = nz (42 + 5 * t + 4) from nz_add _ 4, show nz (fFc B) + (1 : Int32) = nz (fFc B + 1) from nz_add _ 1, f2', Option.bind_some]
  rcases L_accept hI.1 hI.2.1 (show f < 1000000 by omega) (R := R) with ⟨w1, w2⟩ | ⟨w1, w2, w3⟩ | ⟨w1, w2, w3, w4⟩
  · rw [w2, Option.bind_some]
    show (if (-3000000 : Int32) < 0 then (if (-3000000 : Int32) = -1500000 then _ else _) else _) = _
    rw [if_pos (by decide), if_neg (by decide)]
    exact fin D R hI
  · rw [w3, Option.bind_some]
    show (if (-1000000 : Int32) < 0 then (if (-1000000 : Int32) = -1500000 then _ else _) else _) = _
    rw [if_pos (by decide), if_neg (by decide)]
    exact fin D R hI
  · rcases w4 with ⟨R', e⟩ | ⟨mm, R', e1, e2⟩
    · rw [e, Option.bind_some]
      show (if (-1500000 : Int32) < 0 then (if (-1500000 : Int32) = -1500000 then Option.bind (f_X11_isAccepted D (nz f)) _ else _) else _) = _
      rw [if_pos (by decide), if_pos rfl, X_isAccepted hI.1 hI.2.1 w1, w2, Option.bind_some]
      show (if (0 : Int32) = 0 then (if (0 : Int32) = 0 then _ else _) else _) = _
      rw [if_pos rfl, if_pos rfl]
      exact fin D R' hI
    · have hI' := MainI_acc hI w1 w3
      have ha : accB (D.2.2 ||| ((1 : Int32) <<< (nz f &&& 31))) f = true := by
        rw [acc_or D.2.2 (show f < 8 by omega) (show f < 8 by omega)]
        simp
      rw [e2, Option.bind_some]
      show (if nz mm < 0 then _ else Option.bind (f_L_openGoals (D.1, D.2.1, D.2.2 ||| ((1 : Int32) <<< (nz f &&& 31))) P (nz f)) _) = _
      rw [if_neg (nz_neg (by omega)), L_openGoals hI'.1 hI'.2.1 (by omega), if_pos w1, w3, Option.bind_some]
      show (if (0 : Int32) = 0 then Option.bind (f_X11_isAccepted (D.1, D.2.1, D.2.2 ||| ((1 : Int32) <<< (nz f &&& 31))) (nz f)) _ else _) = _
      rw [if_pos rfl, X_isAccepted hI'.1 hI'.2.1 w1, if_pos ha, Option.bind_some]
      show (if (0 : Int32) = 0 then (if (1 : Int32) = 0 then _ else Option.bind (f_L_accept K (D.1, D.2.1, D.2.2 ||| ((1 : Int32) <<< (nz f &&& 31))) R' P (nz f)) _) else _) = _
      rw [if_pos rfl, if_neg (by decide)]
      rcases L_accept hI'.1 hI'.2.1 (show f < 1000000 by omega) (R := R') with ⟨x1, x2⟩ | ⟨x1, x2, x3⟩ | ⟨x1, x2, x3⟩
      · exact absurd x1 (by omega)
      · rw [x3, Option.bind_some]
        show (if (-1000000 : Int32) = -1000000 then (if 200 < nz mm then _ else (if nz mm = -1500000 then _ else _)) else _) = _
        rw [if_pos rfl, if_neg (show ¬ (200 : Int32) < nz mm from fun w => absurd ((nz_lt (i := 200) (by decide) (by omega)).mp w) (by omega)), if_neg (show ¬ nz mm = -1500000 from fun w => nz_neg (show mm < 2147483648 by omega) (by rw [w]; decide))]
        exact fin _ R' hI'
      · have x2' : accB (D.2.2 ||| ((1 : Int32) <<< (nz f &&& 31))) f = false := x2
        rw [ha] at x2'
        cases x2'
