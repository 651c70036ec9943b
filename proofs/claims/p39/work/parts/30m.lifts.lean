theorem rLift_made (x : Nat) (hx2 : x < 1000000) : ∀ (t : Tm) (d : Nat) (K : Rows) (n i depth : Nat), WF K n → Rep K n t i → sizeT t ≤ d → freeT t + x + sizeT t < 1000000 → depth < 1000000 → n + sizeT t ≤ 32768 → depth + sizeT t < 1000000 → Made (rLift d K (nz i) (nz x) (nz depth)) K n (sizeT t) (ren t (shift x depth)) := by
  have early : ∀ (t : Tm) (d : Nat) (K : Rows) (n i depth : Nat), WF K n → Rep K n t i → freeT t ≤ depth ∨ x = 0 → depth < 1000000 → Made (rLift (d + 1) K (nz i) (nz x) (nz depth)) K n (sizeT t) (ren t (shift x depth)) := by
    intro t d K n i depth hw hr hc hdp
    have hi := Rep_lt hr
    have hf := (Rep_calls_loose hr).2.2.1
    have hb := Rep_free t i hr
    refine ⟨K, n, i, ?_, hw, Nat.le_refl n, Nat.le_add_right n _, Ext_refl K n, ?_⟩
    · rw [rLift_step, rFree_at hw hi, Option.bind_some, hf]
      rcases hc with hc | hc
      · rw [if_pos ((nz_le (by omega) (by omega)).mpr hc)]
      · by_cases h : nz (freeT t) ≤ nz depth
        · rw [if_pos h]
        · rw [if_neg h, if_pos (by rw [hc]; rfl)]
    · rcases hc with hc | hc
      · rw [ren_closed x t depth hc]; exact hr
      · have e : shift x depth = fun k => k := by
          funext k
          unfold shift
          by_cases h : k < depth
          · rw [if_pos h]
          · rw [if_neg h, hc]; rfl
        rw [e, ren_id]
        exact hr
  intro t
  refine tm_ind (P := fun t => ∀ (d : Nat) (K : Rows) (n i depth : Nat), WF K n → Rep K n t i → sizeT t ≤ d → freeT t + x + sizeT t < 1000000 → depth < 1000000 → n + sizeT t ≤ 32768 → depth + sizeT t < 1000000 → Made (rLift d K (nz i) (nz x) (nz depth)) K n (sizeT t) (ren t (shift x depth))) ?_ ?_ ?_ ?_ ?_ t
  · intro k d K n i depth hw hr hd hfr hdp hroom hds
    obtain ⟨d, rfl⟩ : ∃ e, d = e + 1 := ⟨d - 1, by have := sizeT_pos (.index k : Tm); omega⟩
    by_cases hc : freeT (.index k : Tm) ≤ depth ∨ x = 0
    · exact early _ d K n i depth hw hr hc hdp
    · have hc1 : ¬ k + 1 ≤ depth := fun h => hc (Or.inl h)
      have hc2 : ¬ x = 0 := fun h => hc (Or.inr h)
      have hx3 : ¬ nz x = 0 := fun hq => hc2 ((nz_inj (by omega) (by decide)).mp (show nz x = nz 0 from hq))
      have hi := Rep_lt hr
      obtain ⟨-, hk, h3, h4⟩ := hr
      have hfk : k + 1 + x + 1 < 1000000 := hfr
      have hroom' : n + 1 ≤ 32768 := hroom
      obtain ⟨K', e, w, xx, r⟩ := leaf_var (k := k + x) hw (by omega) (by omega)
      refine ⟨K', n + 1, n, ?_, w, Nat.le_succ n, Nat.le_refl _, xx, ?_⟩
      · rw [rLift_step, rFree_at hw hi, Option.bind_some, h4.2.2.2.1]
        show (if nz (k + 1) ≤ nz depth then _ else _) = _
        rw [if_neg (fun hq => hc1 ((nz_le (by omega) (by omega)).mp hq)), if_neg hx3, rKind_at hw hi, Option.bind_some, h4.1, if_pos (show nz 1 = 1 from rfl), rFirst_at hw hi, Option.bind_some, h3, nz_add, e]
        rfl
      · show Rep K' (n + 1) (.index (shift x depth k)) n
        rw [shift, if_neg (by omega)]
        exact r
  · intro t hc d K n i depth hw hr hd hfr hdp hroom hds
    obtain ⟨d, rfl⟩ : ∃ e, d = e + 1 := ⟨d - 1, by have := sizeT_pos t; omega⟩
    refine early t d K n i depth hw hr (Or.inl ?_) hdp
    cases t <;> first | exact Nat.zero_le _ | (cases hc; done)
  · intro a b iha ihb d K n i depth hw hr hd hfr hdp hroom hds
    have hsz : sizeT (.add a b : Tm) = 1 + sizeT a + sizeT b := rfl
    have hfz : freeT (.add a b : Tm) = max (freeT a) (freeT b - 1) := rfl
    rw [hsz] at hd hroom hds hfr
    have hpa := sizeT_pos a
    have hpb := sizeT_pos b
    obtain ⟨d, rfl⟩ : ∃ e, d = e + 1 := ⟨d - 1, by omega⟩
    by_cases hc : freeT (.add a b : Tm) ≤ depth ∨ x = 0
    · exact early _ d K n i depth hw hr hc hdp
    · have hi := Rep_lt hr
      have hff := Rep_free _ i hr
      obtain ⟨-, hs, hat, j, l, h4, h5, h6, h7, h8, h9⟩ := hr
      rw [hfz] at hfr hc hff
      have hc2 : ¬ x = 0 := fun h => hc (Or.inr h)
      have hc1 : ¬ max (freeT a) (freeT b - 1) ≤ depth := fun h => hc (Or.inl h)
      have q := rLift_pair (depth' := depth + 1) hw hc2 hi hat.1 (by decide) (by decide) (by
        rw [hat.2.2.2.1, hfz]
        exact fun hq => hc1 ((nz_le (by omega) (by omega)).mp hq)) h6 h7 h9 hs hroom hx2 rfl
        (iha d K n j depth hw h8 (by omega) (by omega) hdp (by omega) (by omega))
        (fun K' n' w' r' hr' => ihb d K' n' l (depth + 1) w' r' (by omega) (by omega) (by omega) hr' (by omega))
      show Made _ K n (1 + sizeT a + sizeT b) (.add _ (ren b (upr _)))
      rw [upr_shift]
      exact q
  · intro a b iha ihb d K n i depth hw hr hd hfr hdp hroom hds
    have hsz : sizeT (.sub a b : Tm) = 1 + sizeT a + sizeT b := rfl
    have hfz : freeT (.sub a b : Tm) = max (freeT a) (freeT b - 1) := rfl
    rw [hsz] at hd hroom hds hfr
    have hpa := sizeT_pos a
    have hpb := sizeT_pos b
    obtain ⟨d, rfl⟩ : ∃ e, d = e + 1 := ⟨d - 1, by omega⟩
    by_cases hc : freeT (.sub a b : Tm) ≤ depth ∨ x = 0
    · exact early _ d K n i depth hw hr hc hdp
    · have hi := Rep_lt hr
      have hff := Rep_free _ i hr
      obtain ⟨-, hs, hat, j, l, h4, h5, h6, h7, h8, h9⟩ := hr
      rw [hfz] at hfr hc hff
      have hc2 : ¬ x = 0 := fun h => hc (Or.inr h)
      have hc1 : ¬ max (freeT a) (freeT b - 1) ≤ depth := fun h => hc (Or.inl h)
      have q := rLift_pair (depth' := depth + 1) hw hc2 hi hat.1 (by decide) (by decide) (by
        rw [hat.2.2.2.1, hfz]
        exact fun hq => hc1 ((nz_le (by omega) (by omega)).mp hq)) h6 h7 h9 hs hroom hx2 rfl
        (iha d K n j depth hw h8 (by omega) (by omega) hdp (by omega) (by omega))
        (fun K' n' w' r' hr' => ihb d K' n' l (depth + 1) w' r' (by omega) (by omega) (by omega) hr' (by omega))
      show Made _ K n (1 + sizeT a + sizeT b) (.sub _ (ren b (upr _)))
      rw [upr_shift]
      exact q
  · intro a b iha ihb d K n i depth hw hr hd hfr hdp hroom hds
    have hsz : sizeT (.mul a b : Tm) = 1 + sizeT a + sizeT b := rfl
    have hfz : freeT (.mul a b : Tm) = max (freeT a) (freeT b) := rfl
    rw [hsz] at hd hroom hds hfr
    have hpa := sizeT_pos a
    have hpb := sizeT_pos b
    obtain ⟨d, rfl⟩ : ∃ e, d = e + 1 := ⟨d - 1, by omega⟩
    by_cases hc : freeT (.mul a b : Tm) ≤ depth ∨ x = 0
    · exact early _ d K n i depth hw hr hc hdp
    · have hi := Rep_lt hr
      have hff := Rep_free _ i hr
      obtain ⟨-, hs, hat, j, l, h4, h5, h6, h7, h8, h9⟩ := hr
      rw [hfz] at hfr hc hff
      have hc2 : ¬ x = 0 := fun h => hc (Or.inr h)
      have hc1 : ¬ max (freeT a) (freeT b) ≤ depth := fun h => hc (Or.inl h)
      exact rLift_pair (depth' := depth) hw hc2 hi hat.1 (by decide) (by decide) (by
        rw [hat.2.2.2.1, hfz]
        exact fun hq => hc1 ((nz_le (by omega) (by omega)).mp hq)) h6 h7 h9 hs hroom hx2 rfl
        (iha d K n j depth hw h8 (by omega) (by omega) hdp (by omega) (by omega))
        (fun K' n' w' r' hr' => ihb d K' n' l depth w' r' (by omega) (by omega) hdp hr' (by omega))
