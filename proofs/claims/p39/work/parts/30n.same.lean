/-! same is equality of trees -/
def kdT : Tm → Nat
  | .index _ => 1
  | .arg m => m % 8
  | .add _ _ => 5
  | .sub _ _ => 6
  | .mul _ _ => 7
  | _ => 8
def prT : Tm → Nat
  | .index k => k
  | .arg m => m / 8
  | _ => 0
/-- a row is a leaf or a pair -/
theorem Rep_view {K : Rows} {n i : Nat} {t : Tm} (h : Rep K n t i) : K.2.1 i = nz (kdT t) ∧
    ((kdT t < 5 ∧ prT t < 1000000 ∧ K.2.2.1 i = nz (prT t) ∧ t = (if kdT t = 1 then .index (prT t) else .arg (8 * prT t + kdT t))) ∨
     (5 ≤ kdT t ∧ kdT t < 8 ∧ ∃ a b j l, t = mkT (kdT t) a b ∧ sizeT t = 1 + sizeT a + sizeT b ∧ K.2.2.1 i = nz j ∧ K.2.2.2.1 i = nz l ∧ Rep K n a j ∧ Rep K n b l)) := by
  cases t with
  | index k => exact ⟨h.2.2.2.1, Or.inl ⟨(by decide : 1 < 5), h.2.1, h.2.2.1, rfl⟩⟩
  | arg m =>
    obtain ⟨h1, h2, h3, h4, h5⟩ := h
    refine ⟨h5.1, Or.inl ⟨h3.1, ?_, h4, ?_⟩⟩
    · show m / 8 < 1000000; omega
    · show _ = (if m % 8 = 1 then _ else Jvm.Term.arg (8 * (m / 8) + m % 8))
      rw [if_neg h3.2]
      congr 1
      omega
  | add a b =>
    obtain ⟨h1, h2, h3, j, l, h4, h5, h6, h7, h8, h9⟩ := h
    exact ⟨h3.1, Or.inr ⟨(by decide : 5 ≤ 5), (by decide : 5 < 8), a, b, j, l, rfl, rfl, h6, h7, h8, h9⟩⟩
  | sub a b =>
    obtain ⟨h1, h2, h3, j, l, h4, h5, h6, h7, h8, h9⟩ := h
    exact ⟨h3.1, Or.inr ⟨(by decide : 5 ≤ 6), (by decide : 6 < 8), a, b, j, l, rfl, rfl, h6, h7, h8, h9⟩⟩
  | mul a b =>
    obtain ⟨h1, h2, h3, j, l, h4, h5, h6, h7, h8, h9⟩ := h
    exact ⟨h3.1, Or.inr ⟨(by decide : 5 ≤ 7), (by decide : 7 < 8), a, b, j, l, rfl, rfl, h6, h7, h8, h9⟩⟩
  | _ => exact h.elim
theorem mkT_inj {k : Nat} {a b a' b' : Tm} (h : mkT k a b = mkT k a' b') : a = a' ∧ b = b' := by
  unfold mkT at h
  split at h <;> (injection h with h1 h2; exact ⟨h1, h2⟩)
theorem Rep_uniq {K : Rows} {n : Nat} (hn : n ≤ 32768) : ∀ (m : Nat) (t s : Tm) (i : Nat), sizeT t ≤ m → Rep K n t i → Rep K n s i → t = s
  | 0, t, s, i, hm, _, _ => absurd (sizeT_pos t) (by omega)
  | m + 1, t, s, i, hm, ht, hs => by
    obtain ⟨k1, v1⟩ := Rep_view ht
    obtain ⟨k2, v2⟩ := Rep_view hs
    have hk : kdT t = kdT s := (nz_inj (by rcases v1 with v | v <;> omega) (by rcases v2 with v | v <;> omega)).mp (k1.symm.trans k2)
    rcases v1 with ⟨c1, c2, c3, c4⟩ | ⟨c1, c2, a, b, j, l, c3, c4, c5, c6, c7, c8⟩
    · rcases v2 with ⟨e1, e2, e3, e4⟩ | ⟨e1, -⟩
      · have hp : prT t = prT s := (nz_inj (by omega) (by omega)).mp (c3.symm.trans e3)
        rw [c4, e4, hk, hp]
      · omega
    · rcases v2 with ⟨e1, -⟩ | ⟨e1, e2, a', b', j', l', e3, e4, e5, e6, e7, e8⟩
      · omega
      · have hj : j = j' := (nz_inj (by have := Rep_lt c7; omega) (by have := Rep_lt e7; omega)).mp (c5.symm.trans e5)
        have hl : l = l' := (nz_inj (by have := Rep_lt c8; omega) (by have := Rep_lt e8; omega)).mp (c6.symm.trans e6)
        subst hj hl
        rw [c3, e3, hk, Rep_uniq hn m a a' j (by omega) c7 e7, Rep_uniq hn m b b' l (by omega) c8 e8]
