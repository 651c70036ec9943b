theorem rPut_made (v : Tm) (vj : Nat) : ∀ (t : Tm) (d : Nat) (K : Rows) (n i depth : Nat), WF K n → Rep K n t i → Rep K n v vj → sizeT t ≤ d → freeT v + depth + sizeT t + 200 < 1000000 → n + sizeT (sbs t (pt v depth)) ≤ 32768 → Tried (rPut d K (nz i) (nz vj) (nz depth)) K n (sbs t (pt v depth)) := by
  have early : ∀ (t : Tm) (d : Nat) (K : Rows) (n i depth : Nat), WF K n → Rep K n t i → freeT t ≤ depth → depth < 1000000 → Tried (rPut (d + 1) K (nz i) (nz vj) (nz depth)) K n (sbs t (pt v depth)) := by
    intro t d K n i depth hw hr hc hdp
    have hi := Rep_lt hr
    have hf := (Rep_calls_loose hr).2.2.1
    have hb := Rep_free t i hr
    rw [sbs_closed v t depth hc]
    refine ⟨K, n, hw, Nat.le_refl n, Nat.le_add_right n _, Ext_refl K n, Or.inl ⟨Rep_size t i hr, i, ?_, hr⟩⟩
    rw [rPut_step, rFree_at hw hi, Option.bind_some, hf, if_neg (fun hq => absurd ((nz_lt (by omega) (by omega)).mp hq) (by omega))]
  intro t
  refine tm_ind (P := fun t => ∀ (d : Nat) (K : Rows) (n i depth : Nat), WF K n → Rep K n t i → Rep K n v vj → sizeT t ≤ d → freeT v + depth + sizeT t + 200 < 1000000 → n + sizeT (sbs t (pt v depth)) ≤ 32768 → Tried (rPut d K (nz i) (nz vj) (nz depth)) K n (sbs t (pt v depth))) ?_ ?_ ?_ ?_ ?_ t
  · intro k d K n i depth hw hr hv hd hfr hroom
    obtain ⟨d, rfl⟩ : ∃ e, d = e + 1 := ⟨d - 1, by have := sizeT_pos (.index k : Tm); omega⟩
    by_cases hc : freeT (.index k : Tm) ≤ depth
    · exact early _ d K n i depth hw hr hc (by omega)
    · have hc1 : ¬ k + 1 ≤ depth := hc
      have hi := Rep_lt hr
      obtain ⟨-, hk, h3, h4⟩ := hr
      have start : rPut (d + 1) K (nz i) (nz vj) (nz depth) = (if nz k = nz depth then (rLift 200 K (nz vj) (nz depth) 0).bind some else (rLeaf K 1 (nz k - 1)).bind some) := by
        rw [rPut_step, rFree_at hw hi, Option.bind_some, h4.2.2.2.1]
        show (if nz depth < nz (k + 1) then _ else _) = _
        rw [if_pos ((nz_lt (by omega) (by omega)).mpr (by omega)), rKind_at hw hi, Option.bind_some, h4.1, if_pos (show nz 1 = 1 from rfl), rFirst_at hw hi, Option.bind_some, h3]
      have hsb : sbs (.index k) (pt v depth) = if k = depth then ren v (shift depth 0) else .index (k - 1) := by
        show pt v depth k = _
        rw [pt, if_neg (by omega)]
      by_cases he : k = depth
      · rw [hsb, if_pos he] at hroom ⊢
        rw [sizeT_ren] at hroom
        rw [start, if_pos (by rw [he])]
        have hsv := Rep_size v vj hv
        have q := rLift_made depth (by omega) v 200 K n vj 0 hw hv hsv (by omega) (by omega) hroom (by omega)
        have e0 : (nz 0 : Int32) = 0 := rfl
        rw [e0] at q
        rw [Option.bind_fun_some]
        exact Made_tried q (by rw [sizeT_ren]; exact Nat.le_refl _)
      · rw [hsb, if_neg he] at hroom ⊢
        have hne : ¬ nz k = nz depth := fun hq => he ((nz_inj (by omega) (by omega)).mp hq)
        have e1 : nz k - 1 = nz (k - 1) := by
          have e2 : nz k = nz (k - 1) + 1 := by
            show nz k = nz (k - 1) + nz 1
            rw [nz_add]
            congr 1
            omega
          rw [e2]
          exact Int32.add_sub_cancel _ _
        have hroom' : n + 1 ≤ 32768 := hroom
        obtain ⟨K', e, w, xx, r⟩ := leaf_var (k := k - 1) hw (by omega) (by omega)
        rw [start, if_neg hne, e1, e]
        exact ⟨K', n + 1, w, Nat.le_succ n, Nat.le_refl _, xx, Or.inl ⟨(by decide : 1 ≤ 200), n, rfl, r⟩⟩
  · intro t hc d K n i depth hw hr hv hd hfr hroom
    obtain ⟨d, rfl⟩ : ∃ e, d = e + 1 := ⟨d - 1, by have := sizeT_pos t; omega⟩
    refine early t d K n i depth hw hr ?_ (by omega)
    cases t <;> first | exact Nat.zero_le _ | (cases hc; done)
  · intro a b iha ihb d K n i depth hw hr hv hd hfr hroom
    have hsz : sizeT (.add a b : Tm) = 1 + sizeT a + sizeT b := rfl
    have hfz : freeT (.add a b : Tm) = max (freeT a) (freeT b - 1) := rfl
    have hsb : sbs (.add a b) (pt v depth) = mkT 5 (sbs a (pt v depth)) (sbs b (pt v (depth + 1))) := by
      show Jvm.Term.add _ (sbs b (ups _)) = _
      rw [ups_pt]; rfl
    rw [hsz] at hd hfr
    have hpa := sizeT_pos a
    have hpb := sizeT_pos b
    obtain ⟨d, rfl⟩ : ∃ e, d = e + 1 := ⟨d - 1, by omega⟩
    by_cases hc : freeT (.add a b : Tm) ≤ depth
    · exact early _ d K n i depth hw hr hc (by omega)
    · have hi := Rep_lt hr
      have hff := Rep_free _ i hr
      obtain ⟨-, hs, hat, j, l, h4, h5, h6, h7, h8, h9⟩ := hr
      rw [hsb, mkT_size] at hroom
      rw [hsb]
      exact rPut_pair (depth' := depth + 1) hw hi hat.1 (by decide) (by decide) (by
        rw [hat.2.2.2.1]
        exact (nz_lt (by omega) (by omega)).mpr (by omega)) h6 h7 h9 hroom rfl
        (iha d K n j depth hw h8 hv (by omega) (by omega) (by omega))
        (fun K' n' w' x' m' r' hr' => ihb d K' n' l (depth + 1) w' r' (Rep_ext x' m' v vj hv) (by omega) (by omega) hr')
  · intro a b iha ihb d K n i depth hw hr hv hd hfr hroom
    have hsz : sizeT (.sub a b : Tm) = 1 + sizeT a + sizeT b := rfl
    have hsb : sbs (.sub a b) (pt v depth) = mkT 6 (sbs a (pt v depth)) (sbs b (pt v (depth + 1))) := by
      show Jvm.Term.sub _ (sbs b (ups _)) = _
      rw [ups_pt]; rfl
    rw [hsz] at hd hfr
    have hpa := sizeT_pos a
    have hpb := sizeT_pos b
    obtain ⟨d, rfl⟩ : ∃ e, d = e + 1 := ⟨d - 1, by omega⟩
    by_cases hc : freeT (.sub a b : Tm) ≤ depth
    · exact early _ d K n i depth hw hr hc (by omega)
    · have hi := Rep_lt hr
      have hff := Rep_free _ i hr
      obtain ⟨-, hs, hat, j, l, h4, h5, h6, h7, h8, h9⟩ := hr
      rw [hsb, mkT_size] at hroom
      rw [hsb]
      exact rPut_pair (depth' := depth + 1) hw hi hat.1 (by decide) (by decide) (by
        rw [hat.2.2.2.1]
        exact (nz_lt (by omega) (by omega)).mpr (by omega)) h6 h7 h9 hroom rfl
        (iha d K n j depth hw h8 hv (by omega) (by omega) (by omega))
        (fun K' n' w' x' m' r' hr' => ihb d K' n' l (depth + 1) w' r' (Rep_ext x' m' v vj hv) (by omega) (by omega) hr')
  · intro a b iha ihb d K n i depth hw hr hv hd hfr hroom
    have hsz : sizeT (.mul a b : Tm) = 1 + sizeT a + sizeT b := rfl
    have hsb : sbs (.mul a b) (pt v depth) = mkT 7 (sbs a (pt v depth)) (sbs b (pt v depth)) := rfl
    rw [hsz] at hd hfr
    have hpa := sizeT_pos a
    have hpb := sizeT_pos b
    obtain ⟨d, rfl⟩ : ∃ e, d = e + 1 := ⟨d - 1, by omega⟩
    by_cases hc : freeT (.mul a b : Tm) ≤ depth
    · exact early _ d K n i depth hw hr hc (by omega)
    · have hi := Rep_lt hr
      have hff := Rep_free _ i hr
      obtain ⟨-, hs, hat, j, l, h4, h5, h6, h7, h8, h9⟩ := hr
      rw [hsb, mkT_size] at hroom
      rw [hsb]
      exact rPut_pair (depth' := depth) hw hi hat.1 (by decide) (by decide) (by
        rw [hat.2.2.2.1]
        exact (nz_lt (by omega) (by omega)).mpr (by omega)) h6 h7 h9 hroom rfl
        (iha d K n j depth hw h8 hv (by omega) (by omega) (by omega))
        (fun K' n' w' x' m' r' hr' => ihb d K' n' l depth w' r' (Rep_ext x' m' v vj hv) (by omega) (by omega) hr')
