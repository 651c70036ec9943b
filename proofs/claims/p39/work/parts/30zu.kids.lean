/-! the child of a goal for one constructor -/
theorem nz_mul (a b : Nat) : nz a * nz b = nz (a * b) := (Int32.ofNat_mul a b).symm
theorem partOf_ok {K : Rows} {n c k d : Nat} {S : SS} {A : SG} (h : SigC K n S A) (h16 : sCc A ≤ 16) (hc : c < sCc A) (h2 : (sPrt A c).length ≤ 2) (hk : (sPrt A c)[k]? = some d) : g_X7_partOf S (nz c) (nz k) = some (nz d) := by
  obtain ⟨a1, a2, a3, a4⟩ := h
  have hk2 : k < (sPrt A c).length := by
    rcases Nat.lt_or_ge k (sPrt A c).length with q | q
    · exact q
    · rw [List.getElem?_eq_none q] at hk; cases hk
  have e : nz c * 3 + nz k = nz (3 * c + k) := by
    rw [show (3 : Int32) = nz 3 from rfl, nz_mul, nz_add, Nat.mul_comm c 3]
  have q1 : ¬ nz (sCc A) ≤ nz c := fun hq => absurd ((nz_le (by omega) (by omega)).mp hq) (by omega)
  have q2 : ¬ (3 : Int32) ≤ nz k := fun hq => absurd ((nz_le (i := 3) (by decide) (by omega)).mp hq) (by omega)
  unfold g_X7_partOf f_X7_partOf f_X7_hasConstructor
  rw [map_same, a2, if_neg (nz_neg (by omega)), if_neg q1, Option.bind_some, if_neg (by decide), if_neg (nz_neg (by omega)), if_neg q2, e, if_pos (nz_inb (by omega) (by decide)), nz_nat (by omega), (a3 c hc).2.2.1 k d hk]
theorem argv_take_succ {m i : Nat} (h : i < m) : (argv m 0).take (i + 1) = (argv m 0).take i ++ [.index (m - 1 - i)] := by
  rw [List.take_add_one, argv_at _ _ _ h, Nat.zero_add]
  rfl
theorem take_snoc {α : Type} {l : List α} {i : Nat} {a : α} (h : l[i]? = some a) : l.take (i + 1) = l.take i ++ [a] := by
  rw [List.take_add_one, h]
  rfl
theorem room_tsz {len m : Nat} (h1 : 1 ≤ len) (h2 : len ≤ 12) (hm : m ≤ 2) : tsz (nz len - 1 + nz m) = len - 1 + m := by
  rw [show (1 : Int32) = nz 1 from rfl, nz_sub h1, nz_add, tsz_nz (by omega)]
theorem parts_loop {K0 : Rows} {n0 g pl c len : Nat} {F : FS} {S : SS} {D : DS} {P : PS} {A : SG} {pre : List Tm} (hS : SigC K0 n0 S A) (h16 : sCc A ≤ 16) (h6 : sDc A ≤ 6) (hc : c < sCc A) (hA : sOwn A c < sDc A ∧ (sPrt A c).length ≤ 2 ∧ ∀ d ∈ sPrt A c, d < sDc A) (hpre : pre.length = pl) (hlen : len ≤ 12) (hpl : pl < len) (hroom : n0 + 10 ≤ 32768) :
    ∀ (k f i : Nat) (K : Rows) (ef : Nat → Int32) (vv : Nat), i + k = (sPrt A c).length → k < f → WF K (n0 + 1 + 3 * i) → Ext K0 K n0 → Rep K (n0 + 1 + 3 * i) (spine (cn c) ((argv (sPrt A c).length 0).take i)) vv → TelP K (n0 + 1 + 3 * i) ef (pre ++ ((sPrt A c).map dat).take i) →
    ∃ f' K' ef' vv', f_X0_childOf_L79 f K F S D P (nz (pl + i)) ef (nz g) (nz pl) (nz c) (nz (sPrt A c).length) (nz len) (nz vv) (nz i) = f_X0_childOf_L79 (f' + 1) K' F S D P (nz (pl + (sPrt A c).length)) ef' (nz g) (nz pl) (nz c) (nz (sPrt A c).length) (nz len) (nz vv') (nz (sPrt A c).length) ∧
      WF K' (n0 + 1 + 3 * (sPrt A c).length) ∧ Ext K0 K' n0 ∧ Rep K' (n0 + 1 + 3 * (sPrt A c).length) (valT c (sPrt A c).length) vv' ∧ TelP K' (n0 + 1 + 3 * (sPrt A c).length) ef' (pre ++ (sPrt A c).map dat) := by
  intro k
  obtain ⟨hA1, hA2, hA3⟩ := hA
  induction k with
  | zero =>
    intro f i K ef vv hi hf hw hx hr hT
    obtain ⟨f, rfl⟩ : ∃ e, f = e + 1 := ⟨f - 1, by omega⟩
    have hi' : i = (sPrt A c).length := by omega
    subst hi'
    rw [List.take_of_length_le (by rw [argv_length]; exact Nat.le_refl _)] at hr
    rw [List.take_of_length_le (by rw [List.length_map]; exact Nat.le_refl _)] at hT
    exact ⟨f, K, ef, vv, rfl, hw, hx, hr, hT⟩
  | succ k ih =>
    intro f i K ef vv hi hf hw hx hr hT
    obtain ⟨f, rfl⟩ : ∃ e, f = e + 1 := ⟨f - 1, by omega⟩
    have hil : i < (sPrt A c).length := by omega
    have ed := List.getElem?_eq_getElem hil
    have hd := hA3 _ (List.getElem_mem hil)
    obtain ⟨K1, a1, a2, a3, a4'⟩ := leaf_arg (k := 2) (p := (sPrt A c)[i]) hw (by omega) (by decide) (by decide) (by omega)
    have a4 : Rep K1 (n0 + 1 + 3 * i + 1) (dat (sPrt A c)[i]) (n0 + 1 + 3 * i) := a4'
    obtain ⟨K2, b1, b2, b3, b4⟩ := leaf_var (k := (sPrt A c).length - 1 - i) a2 (by omega) (by omega)
    have hr2 : Rep K2 (n0 + 1 + 3 * i + 1 + 1) _ vv := Rep_ext (Ext_trans a3 b3 (Nat.le_succ _)) (by omega) _ vv hr
    have hzs : sizeT (spine (cn c) ((argv (sPrt A c).length 0).take i)) + sizeT (.index ((sPrt A c).length - 1 - i) : Tm) < 200 := by
      rw [argv_take _ _ _ (by omega), sizeT_spine_argv]
      show 1 + 2 * i + 1 < 200
      omega
    obtain ⟨K3, c1, c2, c3, c4⟩ := pair_tree (k := 7) b2 (by omega) (by decide) (by decide) hr2 b4 hzs
    have en : n0 + 1 + 3 * i + 1 + 1 + 1 = n0 + 1 + 3 * (i + 1) := by omega
    rw [en] at c2 c4
    have x3 : Ext K K3 (n0 + 1 + 3 * i) := Ext_trans a3 (Ext_trans b3 c3 (Nat.le_succ _)) (Nat.le_succ _)
    have hpl2 : (pre ++ ((sPrt A c).map dat).take i).length = pl + i := by rw [List.length_append, hpre, List.length_take, List.length_map]; omega
    have hT3 := TelP_push (TelP_ext (TelP_ext hT a3 (Nat.le_succ _)) (Ext_trans b3 c3 (Nat.le_succ _)) (show n0 + 1 + 3 * i + 1 ≤ n0 + 1 + 3 * (i + 1) by omega)) (Rep_ext (Ext_trans b3 c3 (Nat.le_succ _)) (show n0 + 1 + 3 * i + 1 ≤ n0 + 1 + 3 * (i + 1) by omega) _ _ a4)
    rw [hpl2, List.append_assoc, ← take_snoc (l := (sPrt A c).map dat) (i := i) (a := dat (sPrt A c)[i]) (by rw [List.getElem?_map, ed]; rfl)] at hT3
    have hr3 : Rep K3 (n0 + 1 + 3 * (i + 1)) (spine (cn c) ((argv (sPrt A c).length 0).take (i + 1))) (n0 + 1 + 3 * i + 1 + 1) := by
      rw [argv_take_succ hil, spine_append]
      exact c4
    obtain ⟨f', K', ef', vv', r1, r2⟩ := ih f (i + 1) K3 _ _ (by omega) (by omega) c2 (Ext_trans hx (Ext_le x3 (by omega)) (Nat.le_refl _)) hr3 hT3
    refine ⟨f', K', ef', vv', ?_, r2⟩
    rw [← r1]
    have esub : nz (sPrt A c).length - 1 - nz i = nz ((sPrt A c).length - 1 - i) := by rw [show (1 : Int32) = nz 1 from rfl, nz_sub (by omega), nz_sub (by omega)]
    have q1 : ¬ nz (sPrt A c).length ≤ nz i := fun hq => absurd ((nz_le (by omega) (by omega)).mp hq) (by omega)
    conv => lhs; unfold f_X0_childOf_L79
    rw [if_neg q1, partOf_ok hS h16 hc hA2 ed, Option.bind_some, g_leaf, show (2 : Int32) = nz 2 from rfl, a1, Option.bind_some, room_tsz (by omega) hlen hA2, push_at (by omega) (by omega), Option.bind_some]
    show (g_X9_leaf K1 1 _).bind _ = _
    rw [esub, g_leaf, show (1 : Int32) = nz 1 from rfl]
    rw [show rLeaf K1 (nz 1) (nz ((sPrt A c).length - 1 - i)) = some (nz (n0 + 1 + 3 * i + 1), K2) from b1, Option.bind_some]
    show (g_X9_pair K2 7 (nz vv) (nz (n0 + 1 + 3 * i + 1))).bind _ = _
    rw [g_pair, show (7 : Int32) = nz 7 from rfl, c1, Option.bind_some, show nz i + nz 1 = nz (i + 1) from nz_add i 1, show pl + (i + 1) = pl + i + 1 by omega]
theorem ncl_snoc (l : List Tm) (T : Tm) : 80 * ncl l + costT T ≤ 80 * ncl (l ++ [T]) := by
  rw [ncl_append]
  unfold ncl costT
  rw [List.filter_cons]
  by_cases h : freeT T = 0
  · rw [if_pos h]; omega
  · rw [if_neg h, if_pos (show (freeT T != 0) = true by simp [h])]
    show _ ≤ 80 * (_ + (List.length [] + 1))
    rw [List.length_nil]
    omega
def Mid (K : Rows) (nn n0 n1 : Nat) (K0 : Rows) (ef : Nat → Int32) (pre old outs : List Tm) (c m vv j : Nat) : Prop :=
  WF K nn ∧ Ext K0 K n0 ∧ n0 ≤ nn ∧ nn ≤ n1 + 80 * ncl (old.take j) ∧ outs.length = j ∧ (∀ (i : Nat) (T T' : Tm), old[i]? = some T → outs[i]? = some T' → nf (sbs T (thS i m (cn c))) = some T') ∧ TelP K nn ef (pre ++ outs) ∧ Rep K nn (valT c m) vv
theorem forms_loop {K0 : Rows} {n0 n1 g pl c m len vv : Nat} {S : SS} {D : DS} {P : PS} {Γ : List Tm} {pre : List Tm} (hC : Ctx K0 n0 P g Γ) (hg : g < 40) (hlen : Γ.length = len) (hpl : pl < len) (hm : m ≤ 2) (hpre : pre.length = pl + m) (hTy : ∀ T ∈ Γ, TyOK T g) (hncl : ncl Γ ≤ 4) (hroom : n1 + 4000 ≤ 32768) :
    ∀ (k f j : Nat) (K : Rows) (nn : Nat) (F : FS) (ef : Nat → Int32) (outs : List Tm), j + k = len - 1 - pl → k < f → Mid K nn n0 n1 K0 ef pre (Γ.reverse.drop (pl + 1)) outs c m vv j →
    (∃ K' n' F' Z, f_X0_childOf_L149 f K F S D P (nz (pl + m + j)) ef (nz g) (nz pl) (nz m) (nz len) (nz vv) (nz (pl + 1 + j)) = some (-1, K', F', Z) ∧ WF K' n' ∧ n0 ≤ n' ∧ Ext K0 K' n0) ∨
    (∃ f' K' nn' F' ef' outs', f_X0_childOf_L149 f K F S D P (nz (pl + m + j)) ef (nz g) (nz pl) (nz m) (nz len) (nz vv) (nz (pl + 1 + j)) = f_X0_childOf_L149 (f' + 1) K' F' S D P (nz (len - 1 + m)) ef' (nz g) (nz pl) (nz m) (nz len) (nz vv) (nz len) ∧
      Mid K' nn' n0 n1 K0 ef' pre (Γ.reverse.drop (pl + 1)) outs' c m vv (len - 1 - pl)) := by
  intro k
  have h12 := hC.2.2
  induction k with
  | zero =>
    intro f j K nn F ef outs hj hf hM
    obtain ⟨f, rfl⟩ : ∃ e, f = e + 1 := ⟨f - 1, by omega⟩
    have hj' : j = len - 1 - pl := by omega
    subst hj'
    refine Or.inr ⟨f, K, nn, F, ef, outs, ?_, hM⟩
    rw [show pl + m + (len - 1 - pl) = len - 1 + m by omega, show pl + 1 + (len - 1 - pl) = len by omega]
  | succ k ih =>
    intro f j K nn F ef outs hj hf hM
    obtain ⟨f, rfl⟩ : ∃ e, f = e + 1 := ⟨f - 1, by omega⟩
    obtain ⟨m1, m2, m3, m4, m5, m6, m7, m8⟩ := hM
    obtain ⟨T, row, t1, t2, t3, t4⟩ := ctx_at (Ctx_ext hC m2 m3) (show g < 1000000 by omega) (show pl + 1 + j < Γ.length by omega)
    have hold : (Γ.reverse.drop (pl + 1))[j]? = some T := by
      rw [List.getElem?_drop, List.getElem?_reverse (by omega), ← t1]
    obtain ⟨y1, y2, y3⟩ := hTy T (List.mem_of_getElem? t1)
    have hncl2 : ncl ((Γ.reverse.drop (pl + 1)).take j) ≤ 4 := by
      have q1 : ∀ (l : List Tm) (i : Nat), ncl (l.take i) ≤ ncl l := fun l i => by
        have e : ncl l = ncl (l.take i) + ncl (l.drop i) := by rw [← ncl_append, List.take_append_drop]
        omega
      have q2 := q1 (Γ.reverse.drop (pl + 1)) j
      have q3 := ncl_take_drop Γ.reverse pl
      rw [ncl_reverse] at q3
      omega
    obtain ⟨f1, f2⟩ := fwv_ok m1 t4 m8 hm (show j ≤ 12 by omega) (by omega) y1 y2 (by omega) F
    have esub : nz (pl + 1 + j) - 1 - nz pl = nz j := by
      rw [show (1 : Int32) = nz 1 from rfl, nz_sub (by omega), nz_sub (by omega)]
      congr 1
      omega
    have q1 : ¬ nz len ≤ nz (pl + 1 + j) := fun hq => absurd ((nz_le (by omega) (by omega)).mp hq) (by omega)
    have st : ∀ (y : Int32) (K' : Rows) (F' : FS), f_X0_formWithValue K F (nz row) (nz vv) (nz m) (nz j) = some (y, K', F') → f_X0_childOf_L149 (f + 1) K F S D P (nz (pl + m + j)) ef (nz g) (nz pl) (nz m) (nz len) (nz vv) (nz (pl + 1 + j)) =
        (if y = -1 then some (-1, K', F', (0, 0, 0, 0, (fun _ => 0), 0, (fun _ => 0))) else f_X0_childOf_L149 f K' F' S D P (nz (pl + m + j + 1)) (upd ef (pl + m + j) y) (nz g) (nz pl) (nz m) (nz len) (nz vv) (nz (pl + 1 + j + 1))) := by
      intro y K' F' hy
      conv => lhs; unfold f_X0_childOf_L149
      rw [if_neg q1, t2, Option.bind_some, esub, hy, Option.bind_some]
      show (if y = -1 then _ else _) = _
      by_cases hy1 : y = -1
      · rw [if_pos hy1, if_pos hy1]
      · rw [if_neg hy1, if_neg hy1, room_tsz (by omega) (by omega) hm, push_at (by omega) (by omega), Option.bind_some, show nz (pl + 1 + j) + 1 = nz (pl + 1 + j + 1) from nz_add _ 1]
    cases hu : nf (sbs T (thS j m (cn c))) with
    | none =>
      obtain ⟨K', F', a1, a2, a3⟩ := f2 hu
      refine Or.inl ⟨K', nn, F', ((0, 0, 0, 0, (fun _ => 0), 0, (fun _ => 0)) : CS), ?_, a2, m3, Ext_trans m2 (Ext_le a3 m3) (Nat.le_refl _)⟩
      rw [st _ _ _ a1, if_pos rfl]
    | some u =>
      obtain ⟨K', M, F', jj, a1, a2, a3, a4, a5, a6⟩ := f1 u hu
      have hjj := Rep_lt a6
      have hM2 := a2.2.1
      have hpl2 : (pre ++ outs).length = pl + m + j := by rw [List.length_append, hpre, m5]
      have hT3 := TelP_push (TelP_ext m7 a5 a3) a6
      rw [hpl2, List.append_assoc] at hT3
      have hmid : Mid K' M n0 n1 K0 (upd ef (pl + m + j) (nz jj)) pre (Γ.reverse.drop (pl + 1)) (outs ++ [u]) c m vv (j + 1) := by
        refine ⟨a2, Ext_trans m2 (Ext_le a5 m3) (Nat.le_refl _), by omega, ?_, by rw [List.length_append, m5]; rfl, ?_, hT3, Rep_ext a5 a3 _ vv m8⟩
        · rw [take_snoc hold]
          have := ncl_snoc ((Γ.reverse.drop (pl + 1)).take j) T
          omega
        · intro i T1 T1' h1 h2
          rw [List.getElem?_append, m5] at h2
          by_cases q : i < j
          · rw [if_pos q] at h2; exact m6 i T1 T1' h1 h2
          · rw [if_neg q] at h2
            have e : i - j = 0 := by
              rcases Nat.eq_zero_or_pos (i - j) with w | w
              · exact w
              · rw [List.getElem?_eq_none (by rw [List.length_singleton]; omega)] at h2; cases h2
            have ei : i = j := by omega
            subst ei
            rw [e] at h2
            have eT : T = T1 := by rw [hold] at h1; injection h1
            have eu : u = T1' := by simpa using h2
            rw [← eT, ← eu]
            exact hu
      have nx := ih f (j + 1) K' M F' _ (outs ++ [u]) (by omega) (by omega) hmid
      rw [st _ _ _ a1, if_neg (nz_no (by omega))]
      rw [show pl + m + (j + 1) = pl + m + j + 1 by omega, show pl + 1 + (j + 1) = pl + 1 + j + 1 by omega] at nx
      exact nx
