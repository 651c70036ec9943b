theorem pair_none {K : Rows} {n k i : Nat} {a : Tm} (hw : WF K n) (hk5 : 5 ≤ k) (hk : k < 8) (ha : Rep K n a i) : rPair K (nz k) (nz i) (-1) = some ((-1), K) := by
  have hi := Rep_lt ha
  have hn := hw.2.1
  have c1 : ¬ nz k < 5 := fun hq => absurd ((nz_lt (by omega) (by decide)).mp (show nz k < nz 5 from hq)) (by omega)
  have c2 : ¬ 7 < nz k := fun hq => absurd ((nz_lt (by decide) (by omega)).mp (show nz 7 < nz k from hq)) (by omega)
  have c3 : ¬ nz i < 0 := nz_neg (by omega)
  have c4 : ¬ nz n ≤ nz i := fun hq => absurd ((nz_le (by omega) (by omega)).mp hq) (by omega)
  unfold rPair f_X9_pair
  rw [hw.1]
  by_cases h1 : nz n < 32768
  · rw [if_neg c1, if_neg c2, if_pos h1, if_neg c3, if_neg c4, if_pos (by decide), ← hw.1]
  · rw [if_neg c1, if_neg c2, if_neg h1, ← hw.1]
theorem mkT_size (k : Nat) (a b : Tm) : sizeT (mkT k a b) = 1 + sizeT a + sizeT b := by
  unfold mkT
  split <;> rfl
theorem rPut_pair {d : Nat} {K : Rows} {n i j l k depth depth' vj : Nat} {ra rb b : Tm} (hw : WF K n) (hi : i < n) (hi2 : K.2.1 i = nz k) (hk5 : 5 ≤ k) (hk : k < 8) (hf : nz depth < K.2.2.2.2.2.2.1 i)
    (h6 : K.2.2.1 i = nz j) (h7 : K.2.2.2.1 i = nz l) (hb : Rep K n b l) (hroom : n + (1 + sizeT ra + sizeT rb) ≤ 32768)
    (hd : depth' = if k = 7 then depth else depth + 1)
    (iha : Tried (rPut d K (nz j) (nz vj) (nz depth)) K n ra)
    (ihb : ∀ K' n', WF K' n' → Ext K K' n → n ≤ n' → Rep K' n' b l → n' + sizeT rb ≤ 32768 → Tried (rPut d K' (nz l) (nz vj) (nz depth')) K' n' rb) :
    Tried (rPut (d + 1) K (nz i) (nz vj) (nz depth)) K n (mkT k ra rb) := by
  have hk1 : ¬ nz k = 1 := fun hq => absurd ((nz_inj (by omega) (by decide)).mp (show nz k = nz 1 from hq)) (by omega)
  obtain ⟨K1, n1, w1, m1, m2, x1, q1⟩ := iha
  have start : rPut (d + 1) K (nz i) (nz vj) (nz depth) = (rPut d K (nz j) (nz vj) (nz depth)).bind (fun u => if u.1 = (-1) then some ((-1), u.2) else
        (rSecond u.2 (nz i)).bind (fun s => if nz k = 7 then (rPut d u.2 s (nz vj) (nz depth)).bind (fun w => (rPair w.2 (nz k) u.1 w.1).bind some) else
          (rPut d u.2 s (nz vj) (nz depth + 1)).bind (fun w => (rPair w.2 (nz k) u.1 w.1).bind some))) := by
    rw [rPut_step, rFree_at hw hi, Option.bind_some, if_pos hf, rKind_at hw hi, Option.bind_some, hi2, if_neg hk1, rFirst_at hw hi, Option.bind_some, h6]
  rcases q1 with ⟨s1, j1, e1, r1⟩ | ⟨s1, e1⟩
  · obtain ⟨K2, n2, w2, m3, m4, x2, q2⟩ := ihb K1 n1 w1 x1 m1 (Rep_ext x1 m1 b l hb) (by omega)
    have r1' := Rep_ext x2 m3 _ _ r1
    have hj1 : j1 < n1 := Rep_lt r1
    have hno : ¬ nz j1 = -1 := nz_no (by have := w1.2.1; omega)
    have hs1 : K1.2.2.2.1 i = nz l := ((x1 i hi).2.2.1).trans h7
    have next : ∀ o, rPut d K1 (nz l) (nz vj) (nz depth') = some o → rPut (d + 1) K (nz i) (nz vj) (nz depth) = (rPair o.2 (nz k) (nz j1) o.1).bind some := by
      intro o ho
      rw [start, e1, Option.bind_some]
      show (if nz j1 = -1 then _ else _) = _
      rw [if_neg hno]
      show Option.bind (rSecond K1 (nz i)) _ = _
      rw [rSecond_at w1 (Nat.lt_of_lt_of_le hi m1), Option.bind_some, hs1]
      by_cases c7 : k = 7
      · have c7' : nz k = 7 := by rw [c7]; rfl
        rw [if_pos c7] at hd
        rw [if_pos c7', ← hd, ho, Option.bind_some]
      · have c7' : ¬ nz k = 7 := fun hq => c7 ((nz_inj (by omega) (by decide)).mp (show nz k = nz 7 from hq))
        rw [if_neg c7] at hd
        have hd2 : nz depth + 1 = nz depth' := by rw [hd]; exact nz_add depth 1
        rw [if_neg c7', hd2, ho, Option.bind_some]
    rcases q2 with ⟨s2, j2, e2, r2⟩ | ⟨s2, e2⟩
    · by_cases hs : sizeT ra + sizeT rb < 200
      · obtain ⟨K3, e3, w3, x3, r3⟩ := pair_tree w2 (by omega) hk5 hk r1' r2 hs
        refine ⟨K3, n2 + 1, w3, by omega, by rw [mkT_size]; omega, Ext_trans x1 (Ext_trans x2 x3 m3) m1, Or.inl ⟨by rw [mkT_size]; omega, n2, ?_, r3⟩⟩
        rw [next _ e2, e3]; rfl
      · refine ⟨K2, n2, w2, by omega, by rw [mkT_size]; omega, Ext_trans x1 x2 m1, Or.inr ⟨by rw [mkT_size]; omega, ?_⟩⟩
        rw [next _ e2, pair_big w2 hk5 hk r1' r2 (by omega)]; rfl
    · refine ⟨K2, n2, w2, by omega, by rw [mkT_size]; omega, Ext_trans x1 x2 m1, Or.inr ⟨by rw [mkT_size]; omega, ?_⟩⟩
      rw [next _ e2, pair_none w2 hk5 hk r1']; rfl
  · refine ⟨K1, n1, w1, m1, by rw [mkT_size]; omega, x1, Or.inr ⟨by rw [mkT_size]; omega, ?_⟩⟩
    rw [start, e1, Option.bind_some]
    show (if (-1 : Int32) = -1 then _ else _) = _
    rw [if_pos rfl]
