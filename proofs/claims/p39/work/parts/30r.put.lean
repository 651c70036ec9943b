/-! put is substitution for one variable; it fails exactly where the result would be too large -/
def pt (v : Tm) (depth : Nat) : Nat → Tm := fun k => if k < depth then .index k else if k = depth then ren v (shift depth 0) else .index (k - 1)
theorem ups_pt (v : Tm) (depth : Nat) : ups (pt v depth) = pt v (depth + 1) := by
  funext k
  cases k with
  | zero => show Jvm.Term.index 0 = _; rw [pt, if_pos (Nat.succ_pos _)]
  | succ k =>
    show ren (pt v depth k) Nat.succ = pt v (depth + 1) (k + 1)
    unfold pt
    by_cases h : k < depth
    · rw [if_pos h, if_pos (Nat.succ_lt_succ h)]; rfl
    · rw [if_neg h, if_neg (fun hq => h (Nat.lt_of_succ_lt_succ hq))]
      by_cases h2 : k = depth
      · rw [if_pos h2, if_pos (by rw [h2]), ren_ren]; rfl
      · rw [if_neg h2, if_neg (fun hq => h2 (Nat.succ.inj hq))]
        show Jvm.Term.index (k - 1 + 1) = .index (k + 1 - 1)
        congr 1
        omega
theorem pt_zero (t v : Tm) : sbs t (pt v 0) = inst t v := by
  unfold inst
  congr 1
  funext k
  cases k with
  | zero =>
    show ren v (shift 0 0) = v
    have e : shift 0 0 = fun k => k := by funext k; unfold shift; by_cases h : k < 0 <;> simp
    rw [e, ren_id]
  | succ k => rfl
theorem sbs_closed (v : Tm) : ∀ (t : Tm) (depth : Nat), freeT t ≤ depth → sbs t (pt v depth) = t := by
  intro t
  refine tm_ind (P := fun t => ∀ depth, freeT t ≤ depth → sbs t (pt v depth) = t) ?_ ?_ ?_ ?_ ?_ t
  · intro k depth h
    have h' : k + 1 ≤ depth := h
    show pt v depth k = _
    rw [pt, if_pos (by omega)]
  · intro t hc depth _; exact sbs_c hc _
  · intro a b ha hb depth h
    have h' : max (freeT a) (freeT b - 1) ≤ depth := h
    show Jvm.Term.add _ (sbs b (ups _)) = _
    rw [ups_pt, ha depth (by omega), hb (depth + 1) (by omega)]
  · intro a b ha hb depth h
    have h' : max (freeT a) (freeT b - 1) ≤ depth := h
    show Jvm.Term.sub _ (sbs b (ups _)) = _
    rw [ups_pt, ha depth (by omega), hb (depth + 1) (by omega)]
  · intro a b ha hb depth h
    have h' : max (freeT a) (freeT b) ≤ depth := h
    show Jvm.Term.mul _ _ = _
    rw [ha depth (by omega), hb depth (by omega)]
/-- as Made, but what is too large is refused -/
def Tried (o : Option (Int32 × Rows)) (K : Rows) (n : Nat) (r : Tm) : Prop := ∃ K' n', WF K' n' ∧ n ≤ n' ∧ n' ≤ n + sizeT r ∧ Ext K K' n ∧
  ((sizeT r ≤ 200 ∧ ∃ m, o = some (nz m, K') ∧ Rep K' n' r m) ∨ (200 < sizeT r ∧ o = some ((-1), K')))
theorem Made_tried {o : Option (Int32 × Rows)} {K : Rows} {n room : Nat} {t : Tm} (h : Made o K n room t) (hr : room ≤ sizeT t) : Tried o K n t := by
  obtain ⟨K', n', j, h1, h2, h3, h4, h5, h6⟩ := h
  exact ⟨K', n', h2, h3, by omega, h5, Or.inl ⟨Rep_size t j h6, j, h1, h6⟩⟩
