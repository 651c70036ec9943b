/-! which rows are which trees -/
def sizeT : Tm → Nat
  | .add a b => 1 + sizeT a + sizeT b
  | .sub a b => 1 + sizeT a + sizeT b
  | .mul a b => 1 + sizeT a + sizeT b
  | _ => 1
def numT : Tm → Int32
  | .index k => sa_0 1 + nz k
  | .arg m => sa_0 (m % 8) + nz (m / 8)
  | .add a b => numP 0 (numT a) (numT b)
  | .sub a b => numP 1 (numT a) (numT b)
  | .mul a b => numP 2 (numT a) (numT b)
  | _ => 0
def freeT : Tm → Nat
  | .index k => k + 1
  | .add a b => max (freeT a) (freeT b - 1)
  | .sub a b => max (freeT a) (freeT b - 1)
  | .mul a b => max (freeT a) (freeT b)
  | _ => 0
def callsT : Tm → Int32
  | .arg m => if m % 8 = 4 then (1 : Int32) <<< (nz (m / 8) &&& 31) else 0
  | .add a b => callsT a ||| callsT b
  | .sub a b => callsT a ||| callsT b
  | .mul a b => callsT a ||| callsT b
  | _ => 0
def looseT : Tm → Bool
  | .add a b => looseT a || looseT b
  | .sub a b => looseT a || looseT b
  | .mul a b => looseT a || looseT b || isL a
  | _ => false
def At (K : Rows) (i k : Nat) (t : Tm) : Prop := K.2.1 i = nz k ∧ K.2.2.2.2.1 i = nz (sizeT t) ∧ K.2.2.2.2.2.1 i = numT t ∧ K.2.2.2.2.2.2.1 i = nz (freeT t) ∧ K.2.2.2.2.2.2.2.1 i = callsT t ∧ K.2.2.2.2.2.2.2.2 i = (if looseT t = true then 1 else 0)
def Rep (K : Rows) (n : Nat) : Tm → Nat → Prop
  | .index k, i => i < n ∧ k < 1000000 ∧ K.2.2.1 i = nz k ∧ At K i 1 (.index k)
  | .arg m, i => i < n ∧ m < 8000000 ∧ (m % 8 < 5 ∧ m % 8 ≠ 1) ∧ K.2.2.1 i = nz (m / 8) ∧ At K i (m % 8) (.arg m)
  | .add a b, i => i < n ∧ sizeT a + sizeT b < 200 ∧ At K i 5 (.add a b) ∧ ∃ j l, j < i ∧ l < i ∧ K.2.2.1 i = nz j ∧ K.2.2.2.1 i = nz l ∧ Rep K n a j ∧ Rep K n b l
  | .sub a b, i => i < n ∧ sizeT a + sizeT b < 200 ∧ At K i 6 (.sub a b) ∧ ∃ j l, j < i ∧ l < i ∧ K.2.2.1 i = nz j ∧ K.2.2.2.1 i = nz l ∧ Rep K n a j ∧ Rep K n b l
  | .mul a b, i => i < n ∧ sizeT a + sizeT b < 200 ∧ At K i 7 (.mul a b) ∧ ∃ j l, j < i ∧ l < i ∧ K.2.2.1 i = nz j ∧ K.2.2.2.1 i = nz l ∧ Rep K n a j ∧ Rep K n b l
  | _, _ => False
/-- the rows below n are the same -/
def Ext (K K' : Rows) (n : Nat) : Prop := ∀ i, i < n → K'.2.1 i = K.2.1 i ∧ K'.2.2.1 i = K.2.2.1 i ∧ K'.2.2.2.1 i = K.2.2.2.1 i ∧ K'.2.2.2.2.1 i = K.2.2.2.2.1 i ∧ K'.2.2.2.2.2.1 i = K.2.2.2.2.2.1 i ∧ K'.2.2.2.2.2.2.1 i = K.2.2.2.2.2.2.1 i ∧ K'.2.2.2.2.2.2.2.1 i = K.2.2.2.2.2.2.2.1 i ∧ K'.2.2.2.2.2.2.2.2 i = K.2.2.2.2.2.2.2.2 i
theorem Ext_refl (K : Rows) (n : Nat) : Ext K K n := fun i _ => ⟨rfl, rfl, rfl, rfl, rfl, rfl, rfl, rfl⟩
theorem Ext_trans {K K' K'' : Rows} {n n' : Nat} (h : Ext K K' n) (h2 : Ext K' K'' n') (hn : n ≤ n') : Ext K K'' n := fun i hi => by
  obtain ⟨a1, a2, a3, a4, a5, a6, a7, a8⟩ := h i hi
  obtain ⟨b1, b2, b3, b4, b5, b6, b7, b8⟩ := h2 i (Nat.lt_of_lt_of_le hi hn)
  exact ⟨b1.trans a1, b2.trans a2, b3.trans a3, b4.trans a4, b5.trans a5, b6.trans a6, b7.trans a7, b8.trans a8⟩
theorem Ext_add (K : Rows) (n : Nat) (a b c d e f g h : Int32) : Ext K (addRow K n a b c d e f g h) n := fun i hi => by
  have hne : ¬ i = n := by omega
  exact ⟨if_neg hne, if_neg hne, if_neg hne, if_neg hne, if_neg hne, if_neg hne, if_neg hne, if_neg hne⟩
theorem At_ext {K K' : Rows} {n i k : Nat} {t : Tm} (h : Ext K K' n) (hi : i < n) (ha : At K i k t) : At K' i k t := by
  obtain ⟨a1, a2, a3, a4, a5, a6, a7, a8⟩ := h i hi
  obtain ⟨b1, b2, b3, b4, b5, b6⟩ := ha
  exact ⟨a1.trans b1, a4.trans b2, a5.trans b3, a6.trans b4, a7.trans b5, a8.trans b6⟩
theorem Rep_lt {K : Rows} {n i : Nat} {t : Tm} (h : Rep K n t i) : i < n := by
  cases t <;> first | exact h.1 | exact h.elim
theorem Rep_ext {K K' : Rows} {n n' : Nat} (h : Ext K K' n) (hn : n ≤ n') : ∀ (t : Tm) (i : Nat), Rep K n t i → Rep K' n' t i := by
  intro t
  induction t with
  | index k => rintro i ⟨h1, h2, h3, h4⟩; exact ⟨Nat.lt_of_lt_of_le h1 hn, h2, (h i h1).2.1.trans h3, At_ext h h1 h4⟩
  | arg m => rintro i ⟨h1, h2, h3, h4, h5⟩; exact ⟨Nat.lt_of_lt_of_le h1 hn, h2, h3, (h i h1).2.1.trans h4, At_ext h h1 h5⟩
  | add a b iha ihb => rintro i ⟨h1, h2, h3, j, l, h4, h5, h6, h7, h8, h9⟩; exact ⟨Nat.lt_of_lt_of_le h1 hn, h2, At_ext h h1 h3, j, l, h4, h5, (h i h1).2.1.trans h6, (h i h1).2.2.1.trans h7, iha j h8, ihb l h9⟩
  | sub a b iha ihb => rintro i ⟨h1, h2, h3, j, l, h4, h5, h6, h7, h8, h9⟩; exact ⟨Nat.lt_of_lt_of_le h1 hn, h2, At_ext h h1 h3, j, l, h4, h5, (h i h1).2.1.trans h6, (h i h1).2.2.1.trans h7, iha j h8, ihb l h9⟩
  | mul a b iha ihb => rintro i ⟨h1, h2, h3, j, l, h4, h5, h6, h7, h8, h9⟩; exact ⟨Nat.lt_of_lt_of_le h1 hn, h2, At_ext h h1 h3, j, l, h4, h5, (h i h1).2.1.trans h6, (h i h1).2.2.1.trans h7, iha j h8, ihb l h9⟩
  | _ => intro i h1; exact h1.elim
theorem Rep_free {K : Rows} {n : Nat} : ∀ (t : Tm) (i : Nat), Rep K n t i → freeT t ≤ 1000000 := by
  intro t
  induction t with
  | index k => rintro i ⟨h1, h2, -⟩; exact h2
  | arg m => intro i _; exact Nat.zero_le _
  | add a b iha ihb => rintro i ⟨h1, h2, h3, j, l, h4, h5, h6, h7, h8, h9⟩; have := iha j h8; have := ihb l h9; show max (freeT a) (freeT b - 1) ≤ _; omega
  | sub a b iha ihb => rintro i ⟨h1, h2, h3, j, l, h4, h5, h6, h7, h8, h9⟩; have := iha j h8; have := ihb l h9; show max (freeT a) (freeT b - 1) ≤ _; omega
  | mul a b iha ihb => rintro i ⟨h1, h2, h3, j, l, h4, h5, h6, h7, h8, h9⟩; have := iha j h8; have := ihb l h9; show max (freeT a) (freeT b) ≤ _; omega
  | _ => intro i h1; exact h1.elim
theorem Rep_size {K : Rows} {n : Nat} : ∀ (t : Tm) (i : Nat), Rep K n t i → sizeT t ≤ 200 := by
  intro t
  cases t with
  | index k => intro i _; exact (by decide : 1 ≤ 200)
  | arg m => intro i _; exact (by decide : 1 ≤ 200)
  | add a b => rintro i ⟨h1, h2, -⟩; show 1 + sizeT a + sizeT b ≤ 200; omega
  | sub a b => rintro i ⟨h1, h2, -⟩; show 1 + sizeT a + sizeT b ≤ 200; omega
  | mul a b => rintro i ⟨h1, h2, -⟩; show 1 + sizeT a + sizeT b ≤ 200; omega
  | _ => intro i h1; exact h1.elim
/-- rows of which there are n, each a tree -/
def WF (K : Rows) (n : Nat) : Prop := K.1 = nz n ∧ n ≤ 32768 ∧ ∀ i, i < n → ∃ t, Rep K n t i
theorem WF_add {K : Rows} {n : Nat} (hw : WF K n) (h1 : n < 32768) {a b c d e f g h : Int32} {t : Tm} (ht : Rep (addRow K n a b c d e f g h) (n + 1) t n) : WF (addRow K n a b c d e f g h) (n + 1) := by
  refine ⟨rfl, h1, ?_⟩
  intro i hi
  rcases Nat.lt_succ_iff_lt_or_eq.mp hi with hi | rfl
  · obtain ⟨s, hs⟩ := hw.2.2 i hi
    exact ⟨s, Rep_ext (Ext_add K n a b c d e f g h) (Nat.le_succ n) s i hs⟩
  · exact ⟨t, ht⟩
theorem leaf_var {K : Rows} {n k : Nat} (hw : WF K n) (h1 : n < 32768) (hk : k < 1000000) : ∃ K', rLeaf K 1 (nz k) = some (nz n, K') ∧ WF K' (n + 1) ∧ Ext K K' n ∧ Rep K' (n + 1) (.index k) n := by
  have e := rLeaf_yes hw.1 h1 (show 1 < 5 by decide) (nz k)
  have ht : Rep (addRow K n (nz 1) (nz k) (-1) 1 (sa_0 1 + nz k) (if 1 = 1 then nz k + 1 else 0) (if 1 = 4 then (1 : Int32) <<< (nz k &&& 31) else 0) 0) (n + 1) (.index k) n :=
    ⟨Nat.lt_succ_self n, hk, if_pos rfl, if_pos rfl, if_pos rfl, if_pos rfl, (if_pos rfl).trans (nz_add k 1), if_pos rfl, if_pos rfl⟩
  exact ⟨_, e, WF_add hw h1 ht, Ext_add K n _ _ _ _ _ _ _ _, ht⟩
theorem leaf_arg {K : Rows} {n k p : Nat} (hw : WF K n) (h1 : n < 32768) (hk : k < 5) (hk1 : k ≠ 1) (hp : p < 1000000) : ∃ K', rLeaf K (nz k) (nz p) = some (nz n, K') ∧ WF K' (n + 1) ∧ Ext K K' n ∧ Rep K' (n + 1) (.arg (8 * p + k)) n := by
  have e := rLeaf_yes hw.1 h1 hk (nz p)
  have m1 : (8 * p + k) % 8 = k := by omega
  have m2 : (8 * p + k) / 8 = p := by omega
  have ht : Rep (addRow K n (nz k) (nz p) (-1) 1 (sa_0 k + nz p) (if k = 1 then nz p + 1 else 0) (if k = 4 then (1 : Int32) <<< (nz p &&& 31) else 0) 0) (n + 1) (.arg (8 * p + k)) n := by
    refine ⟨Nat.lt_succ_self n, by omega, by omega, (if_pos rfl).trans (by rw [m2]), (if_pos rfl).trans (by rw [m1]), if_pos rfl, (if_pos rfl).trans ?_, (if_pos rfl).trans ?_, (if_pos rfl).trans ?_, if_pos rfl⟩
    · show _ = sa_0 ((8 * p + k) % 8) + nz ((8 * p + k) / 8)
      rw [m1, m2]
    · rw [if_neg hk1]; rfl
    · show _ = (if (8 * p + k) % 8 = 4 then (1 : Int32) <<< (nz ((8 * p + k) / 8) &&& 31) else 0)
      rw [m1, m2]
  exact ⟨_, e, WF_add hw h1 ht, Ext_add K n _ _ _ _ _ _ _ _, ht⟩
theorem leaf_full {K : Rows} {n : Nat} (hw : WF K n) (h1 : 32768 ≤ n) (p1 p2 : Int32) : rLeaf K p1 p2 = some ((-1), K) := rLeaf_no hw.1 h1 (by have := hw.2.1; omega) p1 p2
