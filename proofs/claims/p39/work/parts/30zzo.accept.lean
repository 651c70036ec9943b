/-! graphs: the visit of a right side, and accept -/
theorem g_add_ok {R : RS} {f a : Nat} (h : GR R f a) (v : Int32) : ∃ R', g_X4_add R v = some R' ∧ GR R' f a := by
  obtain ⟨h1, h2, m, h3, h4⟩ := h
  obtain ⟨m', gt', gf', q1, q2⟩ := add_ok h3 R.2.2.2.1 R.2.2.2.2 v
  refine ⟨(R.1, R.2.1, nz m', gt', gf'), ?_, h1, h2, m', q2, rfl⟩
  unfold g_X4_add
  rw [h4, q1]
  rfl
theorem visit_ok {K : Rows} {n g f a : Nat} {D : DS} {P : PS} {ps : List Tm} (hw : WF K n) (hp : PatsC K n P g ps) (hg : g < 1000000) (ha : a ≤ 4) : ∀ (d : Nat) (t : Tm) (i dp : Nat) (R : RS), sizeT t ≤ d → dp + sizeT t < 1000000 → Rep K n t i → GR R f a → ∃ R', f_X4_visit d K D R P (nz g) (nz i) (nz dp) = some R' ∧ GR R' f a := by
  intro d
  induction d with
  | zero => intro t i dp R hz; exact absurd (size_pos t) (by omega)
  | succ d ih =>
    intro t i dp R hz hdp hr hR
    have hzt := Rep_size _ _ hr
    have hnt := nargs_size t
    have loop : ∀ (k fu c j : Nat) (u : Tm) (R : RS), nargs u = k → c + k = nargs t → k < fu → Rep K n u j → sizeT u ≤ sizeT t → GR R f a → ∃ R', f_X4_visit_L37 (f_X4_visit d) fu K D R P (nz g) (nz i) (nz dp) (nz (nargs t)) (nz j) (nz c) = some R' ∧ GR R' f a := by
      intro k
      induction k with
      | zero =>
        intro fu c j u R hk hc hf hu hzu hR
        obtain ⟨fu, rfl⟩ : ∃ e, fu = e + 1 := ⟨fu - 1, by omega⟩
        have hv := Rep_view hu
        unfold f_X4_visit_L37
        rw [if_pos ((nz_le (by omega) (by omega)).mpr (by omega)), g_kind, rKind_at hw (Rep_lt hu), Option.bind_some, hv.1]
        rcases hv.2 with ⟨w1, w2, w3, w4⟩ | ⟨w1, w2, x, y, jx, jy, w3, w4, w5, w6, w7, w8⟩
        · rw [if_pos (show nz (kdT u) < (5 : Int32) from (nz_lt (j := 5) (by omega) (by decide)).mpr w1), Option.bind_some]
          split
          · rw [g_first, rFirst_at hw (Rep_lt hu), Option.bind_some]
            split
            · obtain ⟨r, hr1⟩ := graphOf_ok (D := D) hw hp hg hR.2.1 ha (show dp < 1000000 by omega) hr
              obtain ⟨R', q1, q2⟩ := g_add_ok hR r
              rw [hr1, Option.bind_some, q1, Option.bind_some]
              exact ⟨R', rfl, q2⟩
            · exact ⟨R, rfl, hR⟩
          · exact ⟨R, rfl, hR⟩
        · rw [if_neg (show ¬ nz (kdT u) < (5 : Int32) from fun w => absurd ((nz_lt (j := 5) (by omega) (by decide)).mp w) (by omega)), g_first, rFirst_at hw (Rep_lt hu), Option.bind_some, w5]
          obtain ⟨R1, q1, q2⟩ := ih x jx dp R (by omega) (by omega) w7 hR
          obtain ⟨R2, q3, q4⟩ := ih y jy (dp + 1) R1 (by omega) (by omega) w8 q2
          rw [q1, Option.bind_some, g_second, rSecond_at hw (Rep_lt hu), Option.bind_some, w6, show nz dp + 1 = nz (dp + 1) from nz_add dp 1, q3, Option.bind_some]
          exact ⟨R2, rfl, q4⟩
      | succ k ihk =>
        intro fu c j u R hk hc hf hu hzu hR
        obtain ⟨fu, rfl⟩ : ∃ e, fu = e + 1 := ⟨fu - 1, by omega⟩
        obtain ⟨x, y, rfl⟩ : ∃ x y, u = .mul x y := by
          cases u <;> first | (cases hk; done) | exact ⟨_, _, rfl⟩
        obtain ⟨h1, h2, h3, jx, jy, a4, a5, a6, a7, a8, a9⟩ := hu
        have e : nargs (.mul x y : Tm) = nargs x + 1 := rfl
        have e2 : sizeT (.mul x y : Tm) = 1 + sizeT x + sizeT y := rfl
        unfold f_X4_visit_L37
        rw [if_neg (fun w => absurd ((nz_le (by omega) (by omega)).mp w) (by omega)), g_second, rSecond_at hw h1, Option.bind_some, a7, show nz c + 1 = nz (c + 1) from nz_add c 1]
        obtain ⟨R1, q1, q2⟩ := ih y jy dp R (by omega) (by omega) a9 hR
        rw [q1, Option.bind_some, g_first, rFirst_at hw h1, Option.bind_some, a6]
        exact ihk fu (c + 1) jx x R1 (by omega) (by omega) (by omega) a8 (by omega) q2
    unfold f_X4_visit
    rw [g_calls_at hw hr, Option.bind_some]
    split
    · exact ⟨R, rfl, hR⟩
    · rw [g_args, rArgs_at hw hr, Option.bind_some]
      exact loop (nargs t) 100000 0 i t R rfl (by omega) (by omega) hr (Nat.le_refl _) hR
theorem take_calls_ok {K : Rows} {n g f a : Nat} {S : SS} {D : DS} {P : PS} {A : SG} {B : FG} {G : GG} {R : RS} (h : CourtC K n S D P A B G) (ht : CourtT A B G) (hg : g < qN G) (ha : a ≤ 4) (hR : GR R f a) : ∃ R', f_X4_takeCallsOf K D R P (nz g) = some R' ∧ GR R' f a := by
  have h40 := ht.2.2.1
  obtain ⟨y1, y2, y3, y4, y5, y6, y7, y8, y9⟩ := h.2.2.2.2 g hg
  have hgo := ht.2.2.2.1 g hg
  have hlen : (qP G g).length ≤ 4 := by
    have e := hgo.2.2.2.2.2.1.1
    obtain ⟨l, Rr, q1, q2, q3, q4, -⟩ := ht.2.1.2 _ hgo.1
    omega
  unfold f_X4_takeCallsOf
  rw [nz_nat (show g < 2147483648 by omega)]
  split
  · split
    · rename_i h1 h2
      have hs2 : qS G g = 2 := by
        rw [y7] at h2
        have hq : qS G g = 0 ∨ qS G g = 1 ∨ qS G g = 2 := by omega
        rcases hq with q | q | q
        · rw [q] at h2; exact absurd h2 (by decide)
        · rw [q] at h2; exact absurd h2 (by decide)
        · exact q
      obtain ⟨j, j1, j2⟩ := y8 hs2
      have hz := (hgo.2.2.2.2.2.2.2.1 hs2).2.1
      obtain ⟨R', q1, q2⟩ := visit_ok (D := D) (P := P) (g := g) h.1 ⟨hlen, y4, y5⟩ (show g < 1000000 by omega) ha 40 (qR G g) j 0 R (by omega) (by omega) j2 hR
      rw [j1]
      show ∃ R', Option.bind (f_X4_visit 40 K D R P (nz g) (nz j) (nz 0)) _ = some R' ∧ GR R' f a
      rw [q1, Option.bind_some]
      exact ⟨R', rfl, q2⟩
    · exact ⟨R, rfl, hR⟩
  · exact ⟨R, rfl, hR⟩
/-- what the loop of accept answers -/
def AccO (o : Option (Int32 × Int32 × DS × RS)) (D : DS) (f : Nat) : Prop := (∃ R', o = some (5, 0, D, R')) ∨ ∃ m R', m ≤ 200 ∧ o = some (0, nz m, (D.1, D.2.1, D.2.2 ||| ((1 : Int32) <<< (nz f &&& 31))), R')
theorem accept_loop {K : Rows} {n f a : Nat} {S : SS} {D : DS} {P : PS} {A : SG} {B : FG} {G : GG} (h : CourtC K n S D P A B G) (ht : CourtT A B G) (ha : a ≤ 4) : ∀ (k fu i : Nat) (R : RS), i + k = qN G → k < fu → GR R f a → AccO (f_X11_accept_L53 fu K D R P (nz f) (nz i)) D f := by
  have h40 := ht.2.2.1
  have hD2 := h.2.2.2.1
  intro k
  induction k with
  | zero =>
    intro fu i R hi hf hR
    obtain ⟨fu, rfl⟩ : ∃ e, fu = e + 1 := ⟨fu - 1, by omega⟩
    obtain ⟨h1, h2, m, h3, h4⟩ := hR
    obtain ⟨b, m', gt', gf', e1, e2, e3⟩ := come_ok ha h3 R.2.2.2.1 R.2.2.2.2
    have e : g_X4_comeToAnEnd R = some (b, (R.1, nz a, nz m', gt', gf')) := by
      unfold g_X4_comeToAnEnd
      rw [h2, h4, e1]
      rfl
    unfold f_X11_accept_L53
    rw [hD2, if_pos ((nz_le (by omega) (by omega)).mpr (by omega)), e, Option.bind_some]
    rcases e3 with rfl | rfl
    · rw [if_pos rfl]
      exact Or.inl ⟨_, rfl⟩
    · rw [if_neg (show ¬ ((1, (R.1, nz a, nz m', gt', gf')) : Int32 × RS).1 = 0 from (by decide : ¬ (1 : Int32) = 0))]
      exact Or.inr ⟨m', _, e2, by rw [← hD2]⟩
  | succ k ih =>
    intro fu i R hi hf hR
    obtain ⟨fu, rfl⟩ : ∃ e, fu = e + 1 := ⟨fu - 1, by omega⟩
    have hil : i < qN G := by omega
    obtain ⟨R', q1, q2⟩ := take_calls_ok h ht hil ha hR
    unfold f_X11_accept_L53
    rw [hD2, if_neg (fun w => absurd ((nz_le (by omega) (by omega)).mp w) (by omega)), goal_at hD2 h40 (by omega), if_pos hil, Option.bind_some, if_neg (nz_neg (by omega)), if_pos (gix_at hD2 h40 hil), q1, Option.bind_some, show nz i + 1 = nz (i + 1) from nz_add i 1]
    exact ih fu (i + 1) R' (by omega) (by omega) q2
