/-! numbers as words; what a new row holds -/
def nz (n : Nat) : Int32 := Int32.ofNat n
theorem nz_toInt {n : Nat} (h : n < 2147483648) : (nz n).toInt = (n : Int) := Int32.toInt_ofNat_of_lt h
theorem nz_nat {n : Nat} (h : n < 2147483648) : (nz n).toNatClampNeg = n := by
  show (nz n).toInt.toNat = n
  rw [nz_toInt h]
  rfl
theorem nz_lt {i j : Nat} (hi : i < 2147483648) (hj : j < 2147483648) : nz i < nz j ↔ i < j := by
  rw [Int32.lt_iff_toInt_lt, nz_toInt hi, nz_toInt hj]
  omega
theorem nz_le {i j : Nat} (hi : i < 2147483648) (hj : j < 2147483648) : nz i ≤ nz j ↔ i ≤ j := by
  rw [Int32.le_iff_toInt_le, nz_toInt hi, nz_toInt hj]
  omega
theorem nz_inj {i j : Nat} (hi : i < 2147483648) (hj : j < 2147483648) : nz i = nz j ↔ i = j := by
  constructor
  · intro h
    have e := congrArg Int32.toInt h
    rw [nz_toInt hi, nz_toInt hj] at e
    omega
  · intro h; rw [h]
theorem nz_neg {i : Nat} (hi : i < 2147483648) : ¬ nz i < 0 := by
  have h := nz_lt hi (show 0 < 2147483648 by decide)
  intro h2
  exact Nat.not_lt_zero i (h.mp h2)
theorem nz_no {i : Nat} (hi : i < 2147483648) : ¬ nz i = -1 := by
  intro h
  have e := congrArg Int32.toInt h
  rw [nz_toInt hi] at e
  have e2 : (-1 : Int32).toInt = -1 := by decide
  omega
theorem nz_add (i j : Nat) : nz i + nz j = nz (i + j) := (Int32.ofNat_add i j).symm
theorem nz_inb {i n : Nat} (h : i < n) (hn : n < 2147483648) : inb (nz i) n = true := by
  unfold inb
  rw [nz_toInt (Nat.lt_trans h hn)]
  exact decide_eq_true (by omega)
def addRow (K : Rows) (n : Nat) (a b c d e f g h : Int32) : Rows := (nz (n + 1), upd K.2.1 n a, upd K.2.2.1 n b, upd K.2.2.2.1 n c, upd K.2.2.2.2.1 n d, upd K.2.2.2.2.2.1 n e, upd K.2.2.2.2.2.2.1 n f, upd K.2.2.2.2.2.2.2.1 n g, upd K.2.2.2.2.2.2.2.2 n h)
theorem rLeaf_no {K : Rows} {n : Nat} (hK : K.1 = nz n) (h1 : 32768 ≤ n) (h2 : n < 2147483648) (p1 p2 : Int32) : rLeaf K p1 p2 = some ((-1), K) := by
  have h : ¬ K.1 < 32768 := by
    rw [hK]
    exact fun hq => absurd ((nz_lt h2 (by decide)).mp (show nz n < nz 32768 from hq)) (by omega)
  unfold rLeaf f_X9_leaf
  by_cases c1 : p1 < 0
  · rw [if_pos c1]
  · rw [if_neg c1]
    by_cases c2 : 4 < p1
    · rw [if_pos c2]
    · rw [if_neg c2, if_neg h]
theorem rLeaf_yes {K : Rows} {n k : Nat} (hK : K.1 = nz n) (h1 : n < 32768) (hk : k < 5) (p2 : Int32) : rLeaf K (nz k) p2 = some (nz n, addRow K n (nz k) p2 (-1) 1 (sa_0 k + p2) (if k = 1 then p2 + 1 else 0) (if k = 4 then (1 : Int32) <<< (p2 &&& 31) else 0) 0) := by
  have hn : n < 2147483648 := by omega
  have hk2 : k < 2147483648 := by omega
  have a1 : ¬ nz k < 0 := nz_neg hk2
  have a2 : ¬ 4 < nz k := fun hq => absurd ((nz_lt (by decide) hk2).mp (show nz 4 < nz k from hq)) (by omega)
  have a3 : nz n < 32768 := (nz_lt hn (by decide)).mpr h1
  have a4 : inb (nz n) 32768 = true := nz_inb h1 (by decide)
  have a5 : inb (nz k) 5 = true := nz_inb hk (by decide)
  have a6 : nz n + 1 = nz (n + 1) := nz_add n 1
  have a7 : nz k = 1 ↔ k = 1 := nz_inj hk2 (by decide)
  have a8 : nz k = 4 ↔ k = 4 := nz_inj hk2 (by decide)
  have a9 : vp_nar .boolean 0 = 0 := by decide
  unfold rLeaf f_X9_leaf
  rw [hK]
  by_cases c1 : k = 1
  · have c1' := a7.mpr c1
    have c4 : ¬ k = 4 := by omega
    have c4' : ¬ nz k = 4 := fun h => c4 (a8.mp h)
    simp only [a1, a2, a3, a4, a5, c1', c4', c1, c4, if_true, if_false, nz_nat hn, nz_nat hk2, a6, a9]
    simp only [addRow]
    subst c1
    rfl
  · have c1' : ¬ nz k = 1 := fun h => c1 (a7.mp h)
    by_cases c4 : k = 4
    · have c4' := a8.mpr c4
      simp only [a1, a2, a3, a4, a5, c1', c4', c1, c4, if_true, if_false, nz_nat hn, nz_nat hk2, a6, a9]
      simp only [addRow]
      subst c4
      rfl
    · have c4' : ¬ nz k = 4 := fun h => c4 (a8.mp h)
      simp only [a1, a2, a3, a4, a5, c1', c4', c1, c4, if_true, if_false, nz_nat hn, nz_nat hk2, a6, a9]
      simp only [addRow]
