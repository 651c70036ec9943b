/-! lift is renaming -/
theorem rd_at {f : Nat → Int32} {n i : Nat} (hn : n ≤ 32768) (hi : i < n) (e : Int32) : (if nz i < 0 then some e else (if nz n ≤ nz i then some e else (if inb (nz i) 32768 = true then some (f (Int32.toNatClampNeg (nz i))) else none))) = some (f i) := by
  have hi2 : i < 2147483648 := by omega
  rw [if_neg (nz_neg hi2), if_neg (fun hq => absurd ((nz_le (by omega) hi2).mp hq) (by omega)), if_pos (nz_inb (by omega) (by decide)), nz_nat hi2]
theorem rKind_at {K : Rows} {n i : Nat} (hw : WF K n) (hi : i < n) : rKind K (nz i) = some (K.2.1 i) := by
  unfold rKind f_X9_kindOf
  rw [hw.1]
  exact rd_at hw.2.1 hi _
theorem rFirst_at {K : Rows} {n i : Nat} (hw : WF K n) (hi : i < n) : rFirst K (nz i) = some (K.2.2.1 i) := by
  unfold rFirst f_X9_firstOf
  rw [hw.1]
  exact rd_at hw.2.1 hi _
theorem rSecond_at {K : Rows} {n i : Nat} (hw : WF K n) (hi : i < n) : rSecond K (nz i) = some (K.2.2.2.1 i) := by
  unfold rSecond f_X9_secondOf
  rw [hw.1]
  exact rd_at hw.2.1 hi _
theorem rFree_at {K : Rows} {n i : Nat} (hw : WF K n) (hi : i < n) : rFree K (nz i) = some (K.2.2.2.2.2.2.1 i) := by
  unfold rFree f_X9_freeOf
  rw [hw.1]
  exact rd_at hw.2.1 hi _
def shift (by' depth : Nat) : Nat → Nat := fun k => if k < depth then k else k + by'
theorem upr_shift (x depth : Nat) : upr (shift x depth) = shift x (depth + 1) := by
  funext k
  cases k with
  | zero => show 0 = _; rw [shift, if_pos (Nat.succ_pos _)]
  | succ k =>
    show shift x depth k + 1 = _
    unfold shift
    by_cases h : k < depth
    · rw [if_pos h, if_pos (Nat.succ_lt_succ h)]
    · rw [if_neg h, if_neg (fun hq => h (Nat.lt_of_succ_lt_succ hq))]; omega
theorem ren_closed (x : Nat) : ∀ (t : Tm) (depth : Nat), freeT t ≤ depth → ren t (shift x depth) = t := by
  intro t
  refine tm_ind (P := fun t => ∀ depth, freeT t ≤ depth → ren t (shift x depth) = t) ?_ ?_ ?_ ?_ ?_ t
  · intro k depth h
    have h' : k + 1 ≤ depth := h
    show Jvm.Term.index (shift x depth k) = _
    rw [shift, if_pos (by omega)]
  · intro t hc depth _; exact ren_c hc _
  · intro a b ha hb depth h
    have h' : max (freeT a) (freeT b - 1) ≤ depth := h
    show Jvm.Term.add _ (ren b (upr _)) = _
    rw [upr_shift, ha depth (by omega), hb (depth + 1) (by omega)]
  · intro a b ha hb depth h
    have h' : max (freeT a) (freeT b - 1) ≤ depth := h
    show Jvm.Term.sub _ (ren b (upr _)) = _
    rw [upr_shift, ha depth (by omega), hb (depth + 1) (by omega)]
  · intro a b ha hb depth h
    have h' : max (freeT a) (freeT b) ≤ depth := h
    show Jvm.Term.mul _ _ = _
    rw [ha depth (by omega), hb depth (by omega)]
theorem sizeT_ren : ∀ (t : Tm) (ρ : Nat → Nat), sizeT (ren t ρ) = sizeT t := by
  intro t
  refine tm_ind (P := fun t => ∀ ρ, sizeT (ren t ρ) = sizeT t) (fun k ρ => rfl) (fun t h ρ => by rw [ren_c h]) ?_ ?_ ?_ t
  · intro a b ha hb ρ; show 1 + sizeT (ren a ρ) + sizeT (ren b (upr ρ)) = 1 + sizeT a + sizeT b; rw [ha, hb]
  · intro a b ha hb ρ; show 1 + sizeT (ren a ρ) + sizeT (ren b (upr ρ)) = 1 + sizeT a + sizeT b; rw [ha, hb]
  · intro a b ha hb ρ; show 1 + sizeT (ren a ρ) + sizeT (ren b ρ) = 1 + sizeT a + sizeT b; rw [ha, hb]
theorem sizeT_pos (t : Tm) : 1 ≤ sizeT t := by
  cases t <;> first | exact Nat.le_refl 1 | (show 1 ≤ 1 + _ + _; omega)
/-- what a maker of trees answers: the row of a tree, ahead of which nothing has changed -/
def Made (o : Option (Int32 × Rows)) (K : Rows) (n room : Nat) (t : Tm) : Prop := ∃ K' n' j, o = some (nz j, K') ∧ WF K' n' ∧ n ≤ n' ∧ n' ≤ n + room ∧ Ext K K' n ∧ Rep K' n' t j
theorem rLift_pair {d : Nat} {K : Rows} {n i j l k x depth depth' : Nat} {a b : Tm} (hw : WF K n) (hx : x ≠ 0) (hi : i < n) (hi2 : K.2.1 i = nz k) (hk5 : 5 ≤ k) (hk : k < 8) (hf : ¬ K.2.2.2.2.2.2.1 i ≤ nz depth)
    (h6 : K.2.2.1 i = nz j) (h7 : K.2.2.2.1 i = nz l) (hb : Rep K n b l) (hs : sizeT a + sizeT b < 200) (hroom : n + (1 + sizeT a + sizeT b) ≤ 32768) (hx2 : x < 1000000)
    (hd : depth' = if k = 7 then depth else depth + 1)
    (iha : Made (rLift d K (nz j) (nz x) (nz depth)) K n (sizeT a) (ren a (shift x depth)))
    (ihb : ∀ K' n', WF K' n' → Rep K' n' b l → n' + sizeT b ≤ 32768 → Made (rLift d K' (nz l) (nz x) (nz depth')) K' n' (sizeT b) (ren b (shift x depth'))) :
    Made (rLift (d + 1) K (nz i) (nz x) (nz depth)) K n (1 + sizeT a + sizeT b) (mkT k (ren a (shift x depth)) (ren b (shift x depth'))) := by
  obtain ⟨K1, n1, j1, e1, w1, m1, m2, x1, r1⟩ := iha
  obtain ⟨K2, n2, j2, e2, w2, m3, m4, x2, r2⟩ := ihb K1 n1 w1 (Rep_ext x1 m1 b l hb) (by omega)
  have r1' := Rep_ext x2 m3 _ _ r1
  obtain ⟨K3, e3, w3, x3, r3⟩ := pair_tree w2 (by omega) hk5 hk r1' r2 (by rw [sizeT_ren, sizeT_ren]; exact hs)
  refine ⟨K3, n2 + 1, n2, ?_, w3, by omega, by omega, Ext_trans x1 (Ext_trans x2 x3 m3) m1, r3⟩
  have hk1 : ¬ nz k = 1 := fun hq => absurd ((nz_inj (by omega) (by decide)).mp (show nz k = nz 1 from hq)) (by omega)
  have hx3 : ¬ nz x = 0 := fun hq => hx ((nz_inj (by omega) (by decide)).mp (show nz x = nz 0 from hq))
  have hj1 : j1 < n1 := Rep_lt r1
  have hno : ¬ nz j1 = -1 := nz_no (by have := w1.2.1; omega)
  have hs1 : K1.2.2.2.1 i = nz l := ((x1 i hi).2.2.1).trans h7
  rw [rLift_step, rFree_at hw hi, Option.bind_some, if_neg hf, if_neg hx3, rKind_at hw hi, Option.bind_some, hi2, if_neg hk1, rFirst_at hw hi, Option.bind_some, h6, e1, Option.bind_some]
  show (if nz j1 = -1 then _ else _) = _
  rw [if_neg hno]
  show Option.bind (rSecond K1 (nz i)) _ = _
  rw [rSecond_at w1 (Nat.lt_of_lt_of_le hi m1), Option.bind_some, hs1]
  by_cases c7 : k = 7
  · have c7' : nz k = 7 := by rw [c7]; rfl
    rw [if_pos c7] at hd
    rw [if_pos c7', ← hd, e2, Option.bind_some]
    show Option.bind (rPair K2 (nz k) (nz j1) (nz j2)) some = _
    rw [e3]; rfl
  · have c7' : ¬ nz k = 7 := fun hq => c7 ((nz_inj (by omega) (by decide)).mp (show nz k = nz 7 from hq))
    rw [if_neg c7] at hd
    have hd2 : nz depth + 1 = nz depth' := by rw [hd]; exact nz_add depth 1
    rw [if_neg c7', hd2, e2, Option.bind_some]
    show Option.bind (rPair K2 (nz k) (nz j1) (nz j2)) some = _
    rw [e3]; rfl
