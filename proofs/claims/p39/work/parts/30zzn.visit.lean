/-! graphs: how calls are visited -/
def PatsC (K : Rows) (n : Nat) (P : PS) (g : Nat) (ps : List Tm) : Prop := ps.length ≤ 4 ∧ P.2.2.2.2.2.2.2.2.2.2.2.2.1 g = ps.length ∧ ∀ (k : Nat) (p : Tm), ps[k]? = some p → ∃ j, P.2.2.2.2.2.2.2.2.2.2.2.2.2 g k = nz j ∧ Rep K n p j
def GR (R : RS) (f a : Nat) : Prop := R.1 = nz f ∧ R.2.1 = nz a ∧ ∃ m, m ≤ 200 ∧ R.2.2.1 = nz m
theorem signs_ok {K : Rows} {n g a : Nat} {D : DS} {R : RS} {P : PS} {ps : List Tm} {v2 v3 : Int32} (hw : WF K n) (hp : PatsC K n P g ps) (hg : g < 1000000) (hR : R.2.1 = nz a) (ha : a ≤ 4) (h2 : v2 < 0 ∨ ∃ y, y < 1000000 ∧ v2 = nz y) : ∀ (k fu i : Nat) (v4 : Int32), i + k = a → k < fu → ∃ r, f_X4_signsOfG_L6 fu K D R P (nz g) v2 v3 v4 (nz i) = some r := by
  obtain ⟨hp0, hp1, hp2⟩ := hp
  intro k
  induction k with
  | zero =>
    intro fu i v4 hi hf
    obtain ⟨fu, rfl⟩ : ∃ e, fu = e + 1 := ⟨fu - 1, by omega⟩
    unfold f_X4_signsOfG_L6
    rw [hR, if_pos ((nz_le (by omega) (by omega)).mpr (by omega))]
    exact ⟨_, rfl⟩
  | succ k ih =>
    intro fu i v4 hi hf
    obtain ⟨fu, rfl⟩ : ∃ e, fu = e + 1 := ⟨fu - 1, by omega⟩
    unfold f_X4_signsOfG_L6
    rw [hR, if_neg (fun w => absurd ((nz_le (by omega) (by omega)).mp w) (by omega)), nz_nat (show g < 2147483648 by omega), hp1, show nz i + 1 = nz (i + 1) from nz_add i 1]
    by_cases q : Int32.ofNat ps.length ≤ nz i
    · rw [if_pos q]; exact ⟨_, rfl⟩
    · rw [if_neg q]
      by_cases q2 : v2 < 0
      · rw [if_pos q2]
        exact ih fu (i + 1) v4 (by omega) (by omega)
      · obtain ⟨y, y1, rfl⟩ := h2.resolve_left q2
        have hil : i < ps.length := by
          rcases Nat.lt_or_ge i ps.length with w | w
          · exact w
          · exact absurd ((nz_le (i := ps.length) (by omega) (by omega)).mpr w) q
        have hin : inb (nz i) ps.length = true := nz_inb hil (by omega)
        obtain ⟨j, j1, j2⟩ := hp2 i ps[i] (List.getElem?_eq_getElem hil)
        have hz := Rep_size _ _ j2
        obtain ⟨u1, u2⟩ := rHolds_yes hw y1 200 ps[i] j hz j2
        have hh : ∃ b, rHolds 200 K (nz j) (nz y) = some b := by
          by_cases o : occ ps[i] y
          · exact ⟨1, u1 o⟩
          · exact ⟨0, u2 o⟩
        obtain ⟨b, hb⟩ := hh
        rw [if_neg q2, if_pos hin, nz_nat (show i < 2147483648 by omega), j1, g_holds, hb, Option.bind_some]
        split
        · exact ih fu (i + 1) v4 (by omega) (by omega)
        · rw [g_kind, rKind_at hw (Rep_lt j2), Option.bind_some]
          split
          · rw [Option.bind_some]
            exact ih fu (i + 1) _ (by omega) (by omega)
          · rw [Option.bind_some]
            exact ih fu (i + 1) _ (by omega) (by omega)
theorem signsOf_ok {K : Rows} {n g a : Nat} {D : DS} {R : RS} {P : PS} {ps : List Tm} {v2 v3 : Int32} (hw : WF K n) (hp : PatsC K n P g ps) (hg : g < 1000000) (hR : R.2.1 = nz a) (ha : a ≤ 4) (h2 : v2 < 0 ∨ ∃ y, y < 1000000 ∧ v2 = nz y) : ∃ r, f_X4_signsOfG K D R P (nz g) v2 v3 = some r :=
  signs_ok hw hp hg hR ha h2 a 100000 0 0 (by omega) (by omega)
theorem sub_cases {x dp : Nat} (hx : x < 1000000) (hd : dp < 1000000) : nz x - nz dp < 0 ∨ ∃ y, y < 1000000 ∧ nz x - nz dp = nz y := by
  by_cases q : dp ≤ x
  · exact Or.inr ⟨x - dp, by omega, nz_sub q⟩
  · left
    rw [Int32.lt_iff_toInt_lt, nz_sub_toInt (by omega) (by omega)]
    have e : (0 : Int32).toInt = 0 := by decide
    omega
theorem graph_loop {K : Rows} {n g a dp : Nat} {D : DS} {R : RS} {P : PS} {ps : List Tm} (hw : WF K n) (hp : PatsC K n P g ps) (hg : g < 1000000) (hR : R.2.1 = nz a) (ha : a ≤ 4) (hdp : dp < 1000000) : ∀ (k fu i : Nat) (t : Tm) (v4 : Int32), nargs t = k → k < 100000 → k < fu → Rep K n t i → ∃ r, f_X4_graphOfG_L18 fu K D R P (nz g) (nz dp) v4 (nz i) (nz k + (-1)) = some r := by
  intro k
  induction k with
  | zero =>
    intro fu i t v4 _ _ hf _
    obtain ⟨fu, rfl⟩ : ∃ e, fu = e + 1 := ⟨fu - 1, by omega⟩
    unfold f_X4_graphOfG_L18
    rw [if_pos (by decide)]
    exact ⟨_, rfl⟩
  | succ k ih =>
    intro fu i t v4 hk hk2 hf hr
    obtain ⟨fu, rfl⟩ : ∃ e, fu = e + 1 := ⟨fu - 1, by omega⟩
    obtain ⟨x, y, rfl⟩ : ∃ x y, t = .mul x y := by
      cases t <;> first | (cases hk; done) | exact ⟨_, _, rfl⟩
    obtain ⟨h1, h2, h3, j, l, a4, a5, a6, a7, a8, a9⟩ := hr
    have hx : nargs x = k := by
      have e : nargs (.mul x y : Tm) = nargs x + 1 := rfl
      omega
    rw [nz_m1]
    unfold f_X4_graphOfG_L18
    rw [if_neg (nz_neg (by omega)), g_second, rSecond_at hw h1, Option.bind_some, a7, hR, g_first, rFirst_at hw h1, a6]
    split
    · rw [Option.bind_some]
      exact ih fu j x v4 hx (by omega) (by omega) a8
    · rw [g_kind, rKind_at hw (Rep_lt a9), Option.bind_some]
      split
      · rename_i hk1
        rw [g_first, rFirst_at hw (Rep_lt a9), Option.bind_some]
        obtain ⟨p, p1, p2⟩ : ∃ p, p < 1000000 ∧ K.2.2.1 l = nz p := by
          rcases (Rep_view a9).2 with w | ⟨w1, w2, -⟩
          · exact ⟨_, w.2.1, w.2.2.1⟩
          · rw [(Rep_view a9).1] at hk1
            exact absurd ((nz_inj (j := 1) (by omega) (by decide)).mp hk1) (by omega)
        rw [p2]
        obtain ⟨r, hr⟩ := signsOf_ok (D := D) (v3 := nz k) hw hp hg hR ha (sub_cases p1 hdp)
        rw [hr, Option.bind_some, Option.bind_some]
        exact ih fu j x _ hx (by omega) (by omega) a8
      · rw [Option.bind_some]
        exact ih fu j x v4 hx (by omega) (by omega) a8
theorem graphOf_ok {K : Rows} {n g a dp i : Nat} {D : DS} {R : RS} {P : PS} {ps : List Tm} {t : Tm} (hw : WF K n) (hp : PatsC K n P g ps) (hg : g < 1000000) (hR : R.2.1 = nz a) (ha : a ≤ 4) (hdp : dp < 1000000) (hr : Rep K n t i) : ∃ r, f_X4_graphOfG K D R P (nz g) (nz i) (nz dp) = some r := by
  have hz := Rep_size _ _ hr
  have hn := nargs_size t
  unfold f_X4_graphOfG
  rw [g_args, rArgs_at hw hr, Option.bind_some, show nz (nargs t) - 1 = nz (nargs t) + (-1) from Int32.sub_eq_add_neg _ _]
  exact graph_loop hw hp hg hR ha hdp (nargs t) 100000 i t 0 rfl (by omega) (by omega) hr
