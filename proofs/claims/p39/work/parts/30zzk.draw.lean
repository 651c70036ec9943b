/-! numbers; and what is drawn from the row -/
theorem nz_div {y m : Nat} (hy : y < 2147483648) (hm : 0 < m) (hm2 : m < 2147483648) : nz y / nz m = nz (y / m) := by
  apply Int32.toInt_inj.mp
  have h1 : y / m ≤ y := Nat.div_le_self y m
  have h3 : ((y : Int).tdiv (m : Int)) = ((y / m : Nat) : Int) := (Int.ofNat_tdiv y m).symm
  rw [Int32.toInt_div, nz_toInt hy, nz_toInt hm2, nz_toInt (by omega), h3]
  clear h3
  generalize y / m = z at h1 ⊢
  exact Int.bmod_eq_of_le (by omega) (by omega)
theorem nz_mod {y m : Nat} (hy : y < 2147483648) (hm : 0 < m) (hm2 : m < 2147483648) : nz y - nz y / nz m * nz m = nz (y % m) := by
  have h1 : y / m * m ≤ y := Nat.div_mul_le_self y m
  rw [nz_div hy hm hm2, nz_mul, nz_sub h1]
  congr 1
  have := Nat.div_add_mod y m
  have e : y / m * m = m * (y / m) := Nat.mul_comm _ _
  omega
theorem sa_nat : ∀ r, ∃ a b c, sa_1 r = nz a ∧ sa_2 r = nz b ∧ sa_3 r = nz c ∧ a < 40 ∧ b < 40 ∧ c < 40
  | 0 => ⟨7, 13, 17, rfl, rfl, rfl, by decide, by decide, by decide⟩
  | 1 => ⟨11, 19, 23, rfl, rfl, rfl, by decide, by decide, by decide⟩
  | _ + 2 => ⟨29, 31, 37, rfl, rfl, rfl, by decide, by decide, by decide⟩
theorem numP_nat (r x y : Nat) (hx : x < 1000400) (hy : y < 1000400) : ∃ k, k < 1000400 ∧ numP r (nz x) (nz y) = nz k := by
  obtain ⟨a, b, c, h1, h2, h3, h4, h5, h6⟩ := sa_nat r
  have e1 : a * x ≤ 40 * x := Nat.mul_le_mul_right x (by omega)
  have e2 : b * y ≤ 40 * y := Nat.mul_le_mul_right y (by omega)
  refine ⟨(a * x + b * y + c) % 1000003, by omega, ?_⟩
  unfold numP
  rw [h1, h2, h3, nz_mul, nz_mul, nz_add, nz_add]
  exact nz_mod (m := 1000003) (by omega) (by decide) (by decide)
theorem sa0_nat : ∀ k, ∃ c, sa_0 k = nz c ∧ c < 400
  | 0 => ⟨3, rfl, by decide⟩
  | 1 => ⟨11, rfl, by decide⟩
  | 2 => ⟨101, rfl, by decide⟩
  | 3 => ⟨201, rfl, by decide⟩
  | _ + 4 => ⟨301, rfl, by decide⟩
theorem numT_nat {K : Rows} {n : Nat} : ∀ (t : Tm) (i : Nat), Rep K n t i → ∃ k, k < 1000400 ∧ numT t = nz k := by
  intro t
  induction t with
  | index k =>
    intro i h
    have hk := h.2.1
    refine ⟨11 + k, by omega, ?_⟩
    show sa_0 1 + nz k = _
    exact nz_add 11 k
  | arg m =>
    intro i h
    have hm := h.2.1
    obtain ⟨c, h1, h2⟩ := sa0_nat (m % 8)
    refine ⟨c + m / 8, by omega, ?_⟩
    show sa_0 (m % 8) + nz (m / 8) = _
    rw [h1, nz_add]
  | add a b ia ib =>
    intro i h
    obtain ⟨h1, h2, h3, j, l, a4, a5, a6, a7, a8, a9⟩ := h
    obtain ⟨x, x1, x2⟩ := ia j a8
    obtain ⟨y, y1, y2⟩ := ib l a9
    show ∃ k, k < 1000400 ∧ numP 0 (numT a) (numT b) = nz k
    rw [x2, y2]
    exact numP_nat 0 x y x1 y1
  | sub a b ia ib =>
    intro i h
    obtain ⟨h1, h2, h3, j, l, a4, a5, a6, a7, a8, a9⟩ := h
    obtain ⟨x, x1, x2⟩ := ia j a8
    obtain ⟨y, y1, y2⟩ := ib l a9
    show ∃ k, k < 1000400 ∧ numP 1 (numT a) (numT b) = nz k
    rw [x2, y2]
    exact numP_nat 1 x y x1 y1
  | mul a b ia ib =>
    intro i h
    obtain ⟨h1, h2, h3, j, l, a4, a5, a6, a7, a8, a9⟩ := h
    obtain ⟨x, x1, x2⟩ := ia j a8
    obtain ⟨y, y1, y2⟩ := ib l a9
    show ∃ k, k < 1000400 ∧ numP 2 (numT a) (numT b) = nz k
    rw [x2, y2]
    exact numP_nat 2 x y x1 y1
  | _ => intro i h; exact h.elim
theorem numT_pos {K : Rows} {n i : Nat} {t : Tm} (h : Rep K n t i) : ¬ numT t < 0 := by
  obtain ⟨k, k1, k2⟩ := numT_nat t i h
  rw [k2]; exact nz_neg (by omega)
theorem toInt32_nz (u : UInt32) : u.toInt32 = nz u.toNat := by
  apply Int32.toBitVec_inj.mp
  show u.toBitVec = (Int32.ofNat u.toNat).toBitVec
  apply BitVec.eq_of_toNat_eq
  rw [Int32.toBitVec_ofNat']
  simp
theorem shr3_nz (q : Int32) : ∃ y, y < 536870912 ∧ (q.toUInt32 >>> (((3 : Int32)).toUInt32 &&& Int32.toUInt32 31)).toInt32 = nz y := by
  refine ⟨(q.toUInt32 >>> (((3 : Int32)).toUInt32 &&& Int32.toUInt32 31)).toNat, ?_, toInt32_nz _⟩
  have e : (((3 : Int32)).toUInt32 &&& Int32.toUInt32 31) = (3 : UInt32) := by decide
  rw [e, UInt32.toNat_shiftRight]
  have h1 := q.toUInt32.toNat_lt
  have e2 : (3 : UInt32).toNat % 32 = 3 := by decide
  rw [e2, Nat.shiftRight_eq_div_pow]
  omega
theorem L_cell (xs : IA) (L : Nat) {k : Nat} (hL : L < 1000000) (hk : k < 1000000) : ∃ c, f_L_cell xs L (nz k) = some c := by
  unfold f_L_cell
  by_cases q : Int32.ofNat L ≤ nz k
  · rw [if_pos q]; exact ⟨_, rfl⟩
  · have h : ¬ L ≤ k := fun w => q ((nz_le (i := L) (by omega) (by omega)).mpr w)
    rw [if_neg q, if_pos (nz_inb (by omega) (by omega))]; exact ⟨_, rfl⟩
theorem L_some (xs : IA) (L : Nat) {k m : Nat} (hL : L < 1000000) (hk : k < 1000000) (hm : 0 < m) (hm2 : m < 1000000) : ∃ r, r < m ∧ f_L_some xs L (nz k) (nz m) = some (nz r) := by
  obtain ⟨c, hc⟩ := L_cell xs L hL hk
  obtain ⟨y, y1, y2⟩ := shr3_nz c
  refine ⟨y % m, Nat.mod_lt y hm, ?_⟩
  unfold f_L_some
  rw [hc, Option.bind_some, if_neg (show ¬ nz m = (0 : Int32) from nz_ne (c := 0) (by omega) (by decide) (by omega)), y2, nz_mod (by omega) hm (by omega)]
