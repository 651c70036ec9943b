/-! keep: rows below the mark stay, and the kept term moves up to the mark; no more rows than its size -/
theorem Rep_cut {K : Rows} {n m : Nat} : ∀ (t : Tm) (i : Nat), Rep K n t i → i < m → Rep K m t i := by
  intro t
  induction t with
  | index k => rintro i ⟨h1, h2, h3, h4⟩ hm; exact ⟨hm, h2, h3, h4⟩
  | arg p => rintro i ⟨h1, h2, h3, h4, h5⟩ hm; exact ⟨hm, h2, h3, h4, h5⟩
  | add a b iha ihb => rintro i ⟨h1, h2, h3, j, l, h4, h5, h6, h7, h8, h9⟩ hm; exact ⟨hm, h2, h3, j, l, h4, h5, h6, h7, iha j h8 (by omega), ihb l h9 (by omega)⟩
  | sub a b iha ihb => rintro i ⟨h1, h2, h3, j, l, h4, h5, h6, h7, h8, h9⟩ hm; exact ⟨hm, h2, h3, j, l, h4, h5, h6, h7, iha j h8 (by omega), ihb l h9 (by omega)⟩
  | mul a b iha ihb => rintro i ⟨h1, h2, h3, j, l, h4, h5, h6, h7, h8, h9⟩ hm; exact ⟨hm, h2, h3, j, l, h4, h5, h6, h7, iha j h8 (by omega), ihb l h9 (by omega)⟩
  | _ => intro i h; exact h.elim
def setM (K : Rows) (m : Nat) : Rows := (nz m, K.2)
theorem Ext_setM (K : Rows) (m n : Nat) : Ext K (setM K m) n := fun i _ => ⟨rfl, rfl, rfl, rfl, rfl, rfl, rfl, rfl⟩
theorem WF_cut {K : Rows} {n m : Nat} (hw : WF K n) (h : m ≤ n) : WF (setM K m) m := ⟨rfl, Nat.le_trans h hw.2.1, fun i hi => by
  obtain ⟨t, ht⟩ := hw.2.2 i (Nat.lt_of_lt_of_le hi h)
  exact ⟨t, Rep_ext (Ext_setM K m m) (Nat.le_refl m) t i (Rep_cut t i ht hi)⟩⟩
theorem Ext_le {K K' : Rows} {n m : Nat} (h : Ext K K' n) (hm : m ≤ n) : Ext K K' m := fun i hi => h i (Nat.lt_of_lt_of_le hi hm)
def potR (f : Nat → Int32) (w : Nat → Nat) (lo : Nat) : Nat → Nat
  | 0 => 0
  | k + 1 => potR f w lo k + (if f (lo + k) = -1 then 0 else w (lo + k))
theorem potR_out {f : Nat → Int32} {w : Nat → Nat} {lo j : Nat} {v : Int32} : ∀ k, lo + k ≤ j → potR (upd f j v) w lo k = potR f w lo k := by
  intro k
  induction k with
  | zero => intro _; rfl
  | succ k ih =>
    intro h
    show potR (upd f j v) w lo k + (if upd f j v (lo + k) = -1 then 0 else w (lo + k)) = _
    rw [ih (by omega), show upd f j v (lo + k) = f (lo + k) from if_neg (by omega)]
    rfl
theorem potR_upd {f : Nat → Int32} {w : Nat → Nat} {lo j : Nat} {v : Int32} : ∀ k, potR (upd f j v) w lo k ≤ potR f w lo k + w j := by
  intro k
  induction k with
  | zero => exact Nat.zero_le _
  | succ k ih =>
    show potR (upd f j v) w lo k + (if upd f j v (lo + k) = -1 then 0 else w (lo + k)) ≤ potR f w lo k + (if f (lo + k) = -1 then 0 else w (lo + k)) + w j
    by_cases h : lo + k = j
    · rw [potR_out k (by omega)]
      have h2 : (if upd f j v (lo + k) = -1 then 0 else w (lo + k)) ≤ w j := by
        rw [h]
        split <;> omega
      omega
    · rw [show upd f j v (lo + k) = f (lo + k) from if_neg h]
      omega
theorem potR_congr {f : Nat → Int32} {w w' : Nat → Nat} {lo : Nat} : ∀ k, (∀ i, lo ≤ i → i < lo + k → f i ≠ -1 → w i = w' i) → potR f w lo k = potR f w' lo k := by
  intro k
  induction k with
  | zero => intro _; rfl
  | succ k ih =>
    intro h
    show potR f w lo k + (if f (lo + k) = -1 then 0 else w (lo + k)) = potR f w' lo k + (if f (lo + k) = -1 then 0 else w' (lo + k))
    rw [ih (fun i a b c => h i a (by omega) c)]
    by_cases c : f (lo + k) = -1
    · rw [if_pos c, if_pos c]
    · rw [if_neg c, if_neg c, h (lo + k) (by omega) (by omega) c]
theorem potR_one {f : Nat → Int32} {w w' : Nat → Nat} {lo i : Nat} : ∀ k, lo ≤ i → i < lo + k → f i ≠ -1 → (∀ j, j ≠ i → w j = w' j) → potR f w lo k + w' i = potR f w' lo k + w i := by
  intro k
  induction k with
  | zero => intro a b; omega
  | succ k ih =>
    intro a b c h
    show potR f w lo k + (if f (lo + k) = -1 then 0 else w (lo + k)) + w' i = potR f w' lo k + (if f (lo + k) = -1 then 0 else w' (lo + k)) + w i
    by_cases e : lo + k = i
    · rw [e, if_neg c, if_neg c, potR_congr (w' := w') k (fun j q1 q2 _ => h j (by omega))]
      omega
    · have q := ih a (by omega) c h
      rw [h (lo + k) e]
      omega
/-- a copy of a row, its parts moved, is a row of the same tree -/
theorem Rep_copy {K0 K' : Rows} {n0 i m : Nat} {u : Tm} (h : Rep K0 n0 u i)
    (e : K'.2.1 m = K0.2.1 i ∧ K'.2.2.2.2.1 m = K0.2.2.2.2.1 i ∧ K'.2.2.2.2.2.1 m = K0.2.2.2.2.2.1 i ∧ K'.2.2.2.2.2.2.1 m = K0.2.2.2.2.2.2.1 i ∧ K'.2.2.2.2.2.2.2.1 m = K0.2.2.2.2.2.2.2.1 i ∧ K'.2.2.2.2.2.2.2.2 m = K0.2.2.2.2.2.2.2.2 i)
    (hf : kdT u < 5 → K'.2.2.1 m = K0.2.2.1 i)
    (hp : ∀ a b j l, 5 ≤ kdT u → K0.2.2.1 i = nz j → K0.2.2.2.1 i = nz l → j < i → l < i → Rep K0 n0 a j → Rep K0 n0 b l → ∃ j' l', j' < m ∧ l' < m ∧ K'.2.2.1 m = nz j' ∧ K'.2.2.2.1 m = nz l' ∧ Rep K' (m + 1) a j' ∧ Rep K' (m + 1) b l') :
    Rep K' (m + 1) u m := by
  have hat : ∀ k, At K0 i k u → At K' m k u := fun k ⟨b1, b2, b3, b4, b5, b6⟩ => ⟨e.1.trans b1, e.2.1.trans b2, e.2.2.1.trans b3, e.2.2.2.1.trans b4, e.2.2.2.2.1.trans b5, e.2.2.2.2.2.trans b6⟩
  cases u with
  | index k => obtain ⟨h1, h2, h3, h4⟩ := h; exact ⟨Nat.lt_succ_self m, h2, (hf (by decide : 1 < 5)).trans h3, hat _ h4⟩
  | arg p => obtain ⟨h1, h2, h3, h4, h5⟩ := h; exact ⟨Nat.lt_succ_self m, h2, h3, (hf h3.1).trans h4, hat _ h5⟩
  | add a b =>
    obtain ⟨h1, h2, h3, j, l, h4, h5, h6, h7, h8, h9⟩ := h
    obtain ⟨j', l', q1, q2, q3, q4, q5, q6⟩ := hp a b j l (by decide : 5 ≤ 5) h6 h7 h4 h5 h8 h9
    exact ⟨Nat.lt_succ_self m, h2, hat _ h3, j', l', q1, q2, q3, q4, q5, q6⟩
  | sub a b =>
    obtain ⟨h1, h2, h3, j, l, h4, h5, h6, h7, h8, h9⟩ := h
    obtain ⟨j', l', q1, q2, q3, q4, q5, q6⟩ := hp a b j l (by decide : 5 ≤ 6) h6 h7 h4 h5 h8 h9
    exact ⟨Nat.lt_succ_self m, h2, hat _ h3, j', l', q1, q2, q3, q4, q5, q6⟩
  | mul a b =>
    obtain ⟨h1, h2, h3, j, l, h4, h5, h6, h7, h8, h9⟩ := h
    obtain ⟨j', l', q1, q2, q3, q4, q5, q6⟩ := hp a b j l (by decide : 5 ≤ 7) h6 h7 h4 h5 h8 h9
    exact ⟨Nat.lt_succ_self m, h2, hat _ h3, j', l', q1, q2, q3, q4, q5, q6⟩
  | _ => exact h.elim
/-- a place at which a part stands now -/
def newp (mv : Nat → Int32) (mark j : Nat) : Int32 := if j < mark then nz j else mv j
theorem place_ok {mm : Int32} {mv : Nat → Int32} {j mark : Nat} (hj : j < 32768) (hm : mark < 32768) : f_X9_placeNow mm mv (nz j) (nz mark) = some (newp mv mark j) := by
  unfold f_X9_placeNow newp
  have c1 : ¬ (32768 : Int32) ≤ nz j := fun hq => absurd ((nz_le (by decide) (by omega)).mp (show nz 32768 ≤ nz j from hq)) (by omega)
  by_cases h : j < mark
  · rw [if_pos ((nz_lt (by omega) (by omega)).mpr h), if_pos h]
  · rw [if_neg (fun hq => h ((nz_lt (by omega) (by omega)).mp hq)), if_neg c1, if_pos (nz_inb hj (by decide)), if_neg h, nz_nat (by omega)]
abbrev KO : Type := Int32 × (Nat → Int32) × (Nat → Int32) × (Nat → Int32) × (Nat → Int32) × (Nat → Int32) × (Nat → Int32) × (Nat → Int32) × (Nat → Int32) × (Nat → Int32)
def flat2 (K : Rows) (mv : Nat → Int32) : KO := (K.1, K.2.1, K.2.2.1, K.2.2.2.1, K.2.2.2.2.1, K.2.2.2.2.2.1, K.2.2.2.2.2.2.1, K.2.2.2.2.2.2.2.1, K.2.2.2.2.2.2.2.2, mv)
def kSlide (K : Rows) (mv : Nat → Int32) (p1 p2 : Int32) : Option KO := f_X9_slide K.1 K.2.1 K.2.2.1 K.2.2.2.1 K.2.2.2.2.1 K.2.2.2.2.2.1 K.2.2.2.2.2.2.1 K.2.2.2.2.2.2.2.1 K.2.2.2.2.2.2.2.2 mv p1 p2
theorem slide_leaf {K : Rows} {m i mark : Nat} {mv : Nat → Int32} (hK : K.1 = nz m) (h1 : m ≤ i) (h2 : i < 32768) (hk : K.2.1 i < 5) (hl : K.2.2.2.2.2.2.2.2 i = 0 ∨ K.2.2.2.2.2.2.2.2 i = 1) :
    kSlide K mv (nz i) (nz mark) = some (flat2 (addRow K m (K.2.1 i) (K.2.2.1 i) (K.2.2.2.1 i) (K.2.2.2.2.1 i) (K.2.2.2.2.2.1 i) (K.2.2.2.2.2.2.1 i) (K.2.2.2.2.2.2.2.1 i) (K.2.2.2.2.2.2.2.2 i)) (upd mv i (nz m))) := by
  have a1 : inb (nz i) 32768 = true := nz_inb h2 (by decide)
  have a2 : inb (nz m) 32768 = true := nz_inb (by omega) (by decide)
  have a3 : i < 2147483648 := by omega
  have a4 : m < 2147483648 := by omega
  have a5 : nz m + 1 = nz (m + 1) := nz_add m 1
  have a6 : vp_nar .boolean (K.2.2.2.2.2.2.2.2 i) = K.2.2.2.2.2.2.2.2 i := by rcases hl with h | h <;> rw [h] <;> decide
  unfold kSlide f_X9_slide
  rw [hK]
  simp only [a1, a2, if_true, nz_nat a3, nz_nat a4, hk, a6]
  rw [a5]
  rfl
theorem slide_pair {K : Rows} {m i mark j l : Nat} {mv : Nat → Int32} (hK : K.1 = nz m) (h1 : m ≤ i) (h2 : i < 32768) (hmk : mark < 32768) (hk : ¬ K.2.1 i < 5) (hl : K.2.2.2.2.2.2.2.2 i = 0 ∨ K.2.2.2.2.2.2.2.2 i = 1)
    (hj : K.2.2.1 i = nz j) (hl2 : K.2.2.2.1 i = nz l) (hj2 : j < i) (hl3 : l < i) :
    kSlide K mv (nz i) (nz mark) = some (flat2 (addRow K m (K.2.1 i) (newp mv mark j) (newp mv mark l) (K.2.2.2.2.1 i) (K.2.2.2.2.2.1 i) (K.2.2.2.2.2.2.1 i) (K.2.2.2.2.2.2.2.1 i) (K.2.2.2.2.2.2.2.2 i)) (upd mv i (nz m))) := by
  have a1 : inb (nz i) 32768 = true := nz_inb h2 (by decide)
  have a2 : inb (nz m) 32768 = true := nz_inb (by omega) (by decide)
  have a3 : i < 2147483648 := by omega
  have a4 : m < 2147483648 := by omega
  have a5 : nz m + 1 = nz (m + 1) := nz_add m 1
  have a6 : vp_nar .boolean (K.2.2.2.2.2.2.2.2 i) = K.2.2.2.2.2.2.2.2 i := by rcases hl with h | h <;> rw [h] <;> decide
  have b1 : newp (upd mv i (nz m)) mark j = newp mv mark j := by
    unfold newp
    rw [show upd mv i (nz m) j = mv j from if_neg (by omega)]
  have b2 : newp (upd mv i (nz m)) mark l = newp mv mark l := by
    unfold newp
    rw [show upd mv i (nz m) l = mv l from if_neg (by omega)]
  unfold kSlide f_X9_slide
  rw [hK]
  simp only [a1, a2, if_true, nz_nat a3, nz_nat a4, if_neg hk, a6, hj, hl2]
  rw [place_ok (by omega) hmk, place_ok (by omega) hmk, b1, b2, a5]
  rfl
