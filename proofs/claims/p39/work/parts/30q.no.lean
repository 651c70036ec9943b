/-- a pair that would be too large is not made -/
theorem pair_big {K : Rows} {n k i j : Nat} {a b : Tm} (hw : WF K n) (hk5 : 5 ≤ k) (hk : k < 8) (ha : Rep K n a i) (hb : Rep K n b j) (hs : 200 ≤ sizeT a + sizeT b) : rPair K (nz k) (nz i) (nz j) = some ((-1), K) := by
  obtain ⟨a1, -⟩ := Rep_calls_loose ha
  obtain ⟨b1, -⟩ := Rep_calls_loose hb
  have za := Rep_size a i ha
  have zb := Rep_size b j hb
  have hi := Rep_lt ha
  have hj := Rep_lt hb
  have hn := hw.2.1
  have c1 : ¬ nz k < 5 := fun hq => absurd ((nz_lt (by omega) (by decide)).mp (show nz k < nz 5 from hq)) (by omega)
  have c2 : ¬ 7 < nz k := fun hq => absurd ((nz_lt (by decide) (by omega)).mp (show nz 7 < nz k from hq)) (by omega)
  have c3 : ¬ nz i < 0 := nz_neg (by omega)
  have c4 : ¬ nz n ≤ nz i := fun hq => absurd ((nz_le (by omega) (by omega)).mp hq) (by omega)
  have c5 : ¬ nz j < 0 := nz_neg (by omega)
  have c6 : ¬ nz n ≤ nz j := fun hq => absurd ((nz_le (by omega) (by omega)).mp hq) (by omega)
  have c7 : inb (nz i) 32768 = true := nz_inb (by omega) (by decide)
  have c8 : inb (nz j) 32768 = true := nz_inb (by omega) (by decide)
  have c9 : ¬ (K.2.2.2.2.1 i + K.2.2.2.2.1 j) < 200 := by
    rw [a1, b1, nz_add]
    exact fun hq => absurd ((nz_lt (by omega) (by decide)).mp (show nz _ < nz 200 from hq)) (by omega)
  unfold rPair f_X9_pair
  rw [hw.1]
  by_cases h1 : nz n < 32768
  · rw [if_neg c1, if_neg c2, if_pos h1, if_neg c3, if_neg c4, if_neg c5, if_neg c6, if_pos c7, if_pos c8, nz_nat (by omega), nz_nat (by omega), if_neg c9, ← hw.1]
  · rw [if_neg c1, if_neg c2, if_neg h1, ← hw.1]
