def numP (r : Nat) (x y : Int32) : Int32 := ((((sa_1 r) * x) + ((sa_2 r) * y)) + (sa_3 r)) - ((((sa_1 r) * x) + ((sa_2 r) * y)) + (sa_3 r)) / 1000003 * 1000003
def maxW (x y : Int32) : Int32 := if x < y then y else x
/-- the row of a new pair -/
def pairRow (K : Rows) (n k i j : Nat) : Rows := addRow K n (nz k) (nz i) (nz j) ((1 + K.2.2.2.2.1 i) + K.2.2.2.2.1 j) (numP (k - 5) (K.2.2.2.2.2.1 i) (K.2.2.2.2.2.1 j))
  (maxW (K.2.2.2.2.2.2.1 i) (if k = 7 then K.2.2.2.2.2.2.1 j else K.2.2.2.2.2.2.1 j - 1)) (K.2.2.2.2.2.2.2.1 i ||| K.2.2.2.2.2.2.2.1 j)
  (if K.2.2.2.2.2.2.2.2 i = 0 ∧ K.2.2.2.2.2.2.2.2 j = 0 ∧ (k = 7 → ¬ K.2.1 i = 6) then 0 else 1)
theorem rPair_yes {K : Rows} {n k i j : Nat} (hK : K.1 = nz n) (h1 : n < 32768) (hk5 : 5 ≤ k) (hk : k < 8) (hi : i < n) (hj : j < n) (hs : K.2.2.2.2.1 i + K.2.2.2.2.1 j < 200) :
    rPair K (nz k) (nz i) (nz j) = some (nz n, pairRow K n k i j) := by
  have hn : n < 2147483648 := by omega
  have hk2 : k < 2147483648 := by omega
  have hi2 : i < 2147483648 := by omega
  have hj2 : j < 2147483648 := by omega
  have a1 : ¬ nz k < 5 := fun hq => absurd ((nz_lt hk2 (by decide)).mp (show nz k < nz 5 from hq)) (by omega)
  have a2 : ¬ 7 < nz k := fun hq => absurd ((nz_lt (by decide) hk2).mp (show nz 7 < nz k from hq)) (by omega)
  have a3 : nz n < 32768 := (nz_lt hn (by decide)).mpr h1
  have a4 : inb (nz n) 32768 = true := nz_inb h1 (by decide)
  have a5 : ¬ nz i < 0 := nz_neg hi2
  have a6 : ¬ nz n ≤ nz i := fun hq => absurd ((nz_le hn hi2).mp hq) (by omega)
  have a7 : ¬ nz j < 0 := nz_neg hj2
  have a8 : ¬ nz n ≤ nz j := fun hq => absurd ((nz_le hn hj2).mp hq) (by omega)
  have a9 : inb (nz i) 32768 = true := nz_inb (by omega) (by decide)
  have a10 : inb (nz j) 32768 = true := nz_inb (by omega) (by decide)
  have a11 : nz k - 5 = nz (k - 5) := by
    have e : nz k = nz (k - 5) + 5 := by
      show nz k = nz (k - 5) + nz 5
      rw [nz_add]
      congr 1
      omega
    rw [e]
    exact Int32.add_sub_cancel _ _
  have a12 : inb (nz (k - 5)) 3 = true := nz_inb (by omega) (by decide)
  have a13 : nz n + 1 = nz (n + 1) := nz_add n 1
  have a14 : nz k = 7 ↔ k = 7 := nz_inj hk2 (by decide)
  have a15 : vp_nar .boolean 0 = 0 := by decide
  have a16 : vp_nar .boolean 1 = 1 := by decide
  have a17 : k - 5 < 2147483648 := by omega
  have a18 : ∀ x : Int32, upd K.2.1 n x i = K.2.1 i := fun x => if_neg (by omega)
  unfold rPair f_X9_pair
  rw [hK]
  by_cases c1 : k = 7
  · subst c1
    by_cases c2 : K.2.2.2.2.2.2.2.2 i = 0 <;> by_cases c3 : K.2.2.2.2.2.2.2.2 j = 0 <;> by_cases c4 : K.2.1 i = 6 <;>
      simp only [a1, a2, a3, a4, a5, a6, a7, a8, a9, a10, a11, a12, a13, a14, a15, a16, a18, c2, c3, c4, hs, if_true, if_false, nz_nat hn, nz_nat hi2, nz_nat hj2, nz_nat a17, pairRow, addRow, numP, maxW] <;> simp
  · by_cases c2 : K.2.2.2.2.2.2.2.2 i = 0 <;> by_cases c3 : K.2.2.2.2.2.2.2.2 j = 0 <;> by_cases c4 : K.2.1 i = 6 <;>
      simp only [a1, a2, a3, a4, a5, a6, a7, a8, a9, a10, a11, a12, a13, a14, a15, a16, a18, c1, c2, c3, c4, hs, if_true, if_false, nz_nat hn, nz_nat hi2, nz_nat hj2, nz_nat a17, pairRow, addRow, numP, maxW] <;> simp
