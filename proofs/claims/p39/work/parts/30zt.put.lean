/-! split: a value put in for a variable; the normal form of that -/
theorem lift_closed' (d : Nat) {K : Rows} {n i x depth : Nat} {t : Tm} (hw : WF K n) (hr : Rep K n t i) (hf : freeT t ≤ depth) (hd : depth < 1000000) : rLift (d + 1) K (nz i) (nz x) (nz depth) = some (nz i, K) := by
  have hb := Rep_free t i hr
  rw [rLift_step, rFree_at hw (Rep_lt hr), Option.bind_some, (Rep_calls_loose hr).2.2.1]
  exact if_pos ((nz_le (by omega) (by omega)).mpr hf)
theorem put_closed' (d : Nat) {K : Rows} {n i depth : Nat} {x : Int32} {t : Tm} (hw : WF K n) (hr : Rep K n t i) (hf : freeT t ≤ depth) (hd : depth < 1000000) : rPut (d + 1) K (nz i) x (nz depth) = some (nz i, K) := by
  have hb := Rep_free t i hr
  rw [rPut_step, rFree_at hw (Rep_lt hr), Option.bind_some, (Rep_calls_loose hr).2.2.1]
  exact if_neg (fun hq => absurd ((nz_lt (by omega) (by omega)).mp hq) (by omega))
def valT (c m : Nat) : Tm := spine (cn c) (argv m 0)
theorem valT_size (c m : Nat) : sizeT (valT c m) = 1 + 2 * m := sizeT_spine_argv m 0 (cn c)
theorem valT_free (c m : Nat) : freeT (valT c m) ≤ m := by
  have h := freeT_spine_argv m 0 (cn c)
  have e : freeT (cn c) = 0 := rfl
  rw [e] at h
  show freeT (spine (cn c) (argv m 0)) ≤ m
  omega
theorem bind_two {α β : Type} (o : Option (α × β)) : o.bind (fun q => some (q.1, q.2)) = o := by cases o <;> rfl
theorem withV_ok {K : Rows} {n it iv c m x : Nat} {t : Tm} (hw : WF K n) (ht : Rep K n t it) (hv : Rep K n (valT c m) iv) (hm : m ≤ 2) (hx : x ≤ 12) (hf : freeT t ≤ 100000) (hroom : n + 1100 ≤ 32768) :
    ∃ K' n', WF K' n' ∧ n ≤ n' ∧ n' ≤ n + sizeT t + sizeT (sbs t (thS x m (cn c))) ∧ Ext K K' n ∧ ((sizeT (sbs t (thS x m (cn c))) ≤ 200 ∧ ∃ j, f_X0_withValue K (nz it) (nz iv) (nz m) (nz x) = some (nz j, K') ∧ Rep K' n' (sbs t (thS x m (cn c))) j) ∨ (200 < sizeT (sbs t (thS x m (cn c))) ∧ f_X0_withValue K (nz it) (nz iv) (nz m) (nz x) = some ((-1), K'))) ∧
      (freeT t ≤ x → f_X0_withValue K (nz it) (nz iv) (nz m) (nz x) = some (nz it, K)) ∧ sizeT (sbs t (thS x m (cn c))) ≤ 602 := by
  have hz := Rep_size t it ht
  have e0 : f_X0_withValue K (nz it) (nz iv) (nz m) (nz x) = (rLift 200 K (nz it) (nz m) (nz (x + 1))).bind (fun q => (rPut 200 q.2 q.1 (nz iv) (nz x))) := by
    unfold f_X0_withValue
    rw [g_lift, show nz x + 1 = nz (x + 1) from nz_add x 1]
    simp only [g_put, bind_two]
  have ew : sbs (ren t (shift m (x + 1))) (pt (valT c m) x) = sbs t (thS x m (cn c)) := withv (isC_cn c) t m x
  have hs := sub_size (valT c m) (ren t (shift m (x + 1))) x
  rw [ew, sizeT_ren, valT_size] at hs
  have hs2 : (sizeT t + 1) * (1 + 2 * m + 1) ≤ 201 * 6 := Nat.mul_le_mul (by omega) (by omega)
  have hvf := valT_free c m
  obtain ⟨K1, n1, j1, a1, a2, a3, a4, a5, a6⟩ := rLift_made m (by omega) t 200 K n it (x + 1) hw ht hz (by omega) (by omega) (by omega) (by omega)
  have tr := rPut_made (valT c m) iv (ren t (shift m (x + 1))) 200 K1 n1 j1 x a2 a6 (Rep_ext a5 a3 _ iv hv) (by rw [sizeT_ren]; exact hz) (by rw [sizeT_ren]; omega) (by rw [ew]; omega)
  rw [ew] at tr
  obtain ⟨K2, n2, b1, b2, b3, b4, b5⟩ := tr
  refine ⟨K2, n2, b1, by omega, by omega, Ext_trans a5 b4 a3, ?_, ?_, by omega⟩
  · rw [e0, a1, Option.bind_some]
    rcases b5 with ⟨s1, r, s2, s3⟩ | ⟨s1, s2⟩
    · exact Or.inl ⟨s1, r, s2, s3⟩
    · exact Or.inr ⟨s1, s2⟩
  · intro hfx
    rw [e0, show rLift 200 K (nz it) (nz m) (nz (x + 1)) = some (nz it, K) from lift_closed' 199 hw ht (by omega) (by omega), Option.bind_some]
    exact put_closed' 199 hw ht hfx (by omega)
def costT (t : Tm) : Nat := if freeT t = 0 then 0 else 80
theorem fwv_ok {K : Rows} {n it iv c m x : Nat} {t : Tm} (hw : WF K n) (ht : Rep K n t it) (hv : Rep K n (valT c m) iv) (hm : m ≤ 2) (hx : x ≤ 12) (hf : freeT t ≤ 100000) (hz : sizeT t ≤ 80) (hl : looseT t = false) (hroom : n + 3500 ≤ 32768) (F : FS) :
    (∀ u, nf (sbs t (thS x m (cn c))) = some u → ∃ K' M F' j, f_X0_formWithValue K F (nz it) (nz iv) (nz m) (nz x) = some (nz j, K', F') ∧ WF K' M ∧ n ≤ M ∧ M ≤ n + costT t ∧ Ext K K' n ∧ Rep K' M u j) ∧
    (nf (sbs t (thS x m (cn c))) = none → ∃ K' F', f_X0_formWithValue K F (nz it) (nz iv) (nz m) (nz x) = some ((-1), K', F') ∧ WF K' n ∧ Ext K K' n) := by
  obtain ⟨K1, n1, a1, a2, a3, a4, a5, a6, a7⟩ := withV_ok hw ht hv hm hx hf (by omega)
  have e0 : ∀ (y : Int32) (K' : Rows), f_X0_withValue K (nz it) (nz iv) (nz m) (nz x) = some (y, K') → f_X0_formWithValue K F (nz it) (nz iv) (nz m) (nz x) = (g_X1_formOf K' F y).bind (fun q => (g_X9_keep q.2.1 q.2.2 (nz n) q.1).bind (fun z => some (z.1, z.2.1, z.2.2))) := by
    intro y K' hy
    unfold f_X0_formWithValue
    rw [g_mark, Option.bind_some, hw.1, hy, Option.bind_some]
  have hfr := freeT_thS (isC_cn c) m t x
  by_cases hcl : freeT t = 0
  · have e1 := e0 _ _ (a6 (by omega))
    have es : sbs t (thS x m (cn c)) = t := sbs_zero hcl _
    rw [es]
    obtain ⟨f1, f2⟩ := form_ok hw ht (by omega) (by omega) F
    rw [nf_self hz hl] at f1 ⊢
    refine ⟨fun u hu => ?_, fun hu => by cases hu⟩
    have eu : t = u := by injection hu
    subst eu
    obtain ⟨K2, M, F2, j, b1, b2, b3, b4, b5, b6, b7⟩ := f1 t rfl
    obtain ⟨rfl, rfl⟩ := b7 hl
    obtain ⟨K3, M3, F3, j3, d1, d2, d3, d4, d5, d6, d7⟩ := g_keep F2 b2 (Nat.le_refl _) b6
    obtain ⟨rfl, rfl⟩ := d7 (Rep_lt ht)
    refine ⟨K3, _, F3, _, ?_, d2, Nat.le_refl _, by omega, Ext_trans b5 d5 (Nat.le_refl _), d6⟩
    rw [e1, b1, Option.bind_some]
    show (g_X9_keep K2 F2 (nz _) (nz _)).bind _ = _
    rw [d1, Option.bind_some]
  · have hc80 : costT t = 80 := if_neg hcl
    rw [hc80]
    rcases a5 with ⟨s1, j1, s2, s3⟩ | ⟨s1, s2⟩
    · obtain ⟨f1, f2⟩ := form_ok a1 s3 (by omega) (by omega) F
      refine ⟨fun u hu => ?_, fun hu => ?_⟩
      · have hzu := (nfT_some 21 _ u hu).1
        obtain ⟨K2, M, F2, j, b1, b2, b3, b4, b5, b6, b7⟩ := f1 u hu
        obtain ⟨K3, M3, F3, j3, d1, d2, d3, d4, d5, d6, d7⟩ := g_keep F2 b2 (show n ≤ M by omega) b6
        refine ⟨K3, M3, F3, j3, ?_, d2, d3, by omega, Ext_trans a4 (Ext_trans (Ext_le b5 a2) d5 (Nat.le_refl _)) (Nat.le_refl _), d6⟩
        rw [e0 _ _ s2, b1, Option.bind_some]
        show (g_X9_keep K2 F2 (nz n) (nz j)).bind _ = _
        rw [d1, Option.bind_some]
      · obtain ⟨K2, F2, b1, b2, b3⟩ := f2 hu
        refine ⟨setM K2 n, F2, ?_, WF_cut b2 a2, Ext_trans a4 (Ext_trans (Ext_le b3 a2) (Ext_setM K2 n n) (Nat.le_refl _)) (Nat.le_refl _)⟩
        rw [e0 _ _ s2, b1, Option.bind_some]
        show (g_X9_keep K2 F2 (nz n) (-1)).bind _ = _
        rw [g_keep_no F2 b2 a2, Option.bind_some]
    · have hno : nf (sbs t (thS x m (cn c))) = none := nfT_big 21 (by omega)
      rw [hno]
      refine ⟨fun u hu => (by cases hu), fun _ => ⟨setM K1 n, F, ?_, WF_cut a1 a2, Ext_trans a4 (Ext_setM K1 n n) (Nat.le_refl _)⟩⟩
      rw [e0 _ _ s2, form_no a1, Option.bind_some]
      show (g_X9_keep K1 F (nz n) (-1)).bind _ = _
      rw [g_keep_no F a1 a2, Option.bind_some]
/-- the types of a context in the order of its places -/
def TelP (K : Rows) (n : Nat) (f : Nat → Int32) (l : List Tm) : Prop := ∀ (p : Nat) (T : Tm), l[p]? = some T → ∃ j, f p = nz j ∧ Rep K n T j
theorem TelP_ext {K K' : Rows} {n n' : Nat} {f : Nat → Int32} {l : List Tm} (h : TelP K n f l) (hx : Ext K K' n) (hn : n ≤ n') : TelP K' n' f l := fun p T hT => by
  obtain ⟨j, q1, q2⟩ := h p T hT
  exact ⟨j, q1, Rep_ext hx hn T j q2⟩
theorem TelP_push {K : Rows} {n j : Nat} {f : Nat → Int32} {l : List Tm} {T : Tm} (h : TelP K n f l) (hr : Rep K n T j) : TelP K n (upd f l.length (nz j)) (l ++ [T]) := by
  intro p T' hT
  rw [List.getElem?_append] at hT
  by_cases q : p < l.length
  · rw [if_pos q] at hT
    obtain ⟨j', q1, q2⟩ := h p T' hT
    exact ⟨j', (if_neg (by omega)).trans q1, q2⟩
  · rw [if_neg q] at hT
    have e : p - l.length = 0 := by
      rcases Nat.eq_zero_or_pos (p - l.length) with w | w
      · exact w
      · rw [List.getElem?_eq_none (by rw [List.length_singleton]; omega)] at hT; cases hT
    rw [e] at hT
    have eT : T = T' := by simpa using hT
    subst eT
    exact ⟨j, if_pos (by omega), hr⟩
theorem TelP_Tel {K : Rows} {n : Nat} {f : Nat → Int32} {l : List Tm} (h : TelP K n f l) : Tel K n (nz l.length) f l.reverse := by
  refine ⟨by rw [List.length_reverse], ?_⟩
  intro k T hk
  have hlt : k < l.length := by
    rcases Nat.lt_or_ge k l.length with q | q
    · exact q
    · rw [List.getElem?_eq_none (by rw [List.length_reverse]; exact q)] at hk; cases hk
  rw [List.getElem?_reverse hlt] at hk
  rw [List.length_reverse]
  exact h _ T hk
theorem push_at {e un : Nat} {f : Nat → Int32} {x : Int32} (h : e < un) (hu : un < 2147483648) : f_X8_push un (nz e) f x = some (1, nz (e + 1), upd f e x) := by
  unfold f_X8_push
  rw [if_pos (show nz e < Int32.ofNat un from (nz_lt (by omega) (by omega)).mpr h), if_pos (nz_inb h hu), nz_nat (by omega), show nz e + 1 = nz (e + 1) from nz_add e 1]
/-- the types ahead of the place are taken over -/
theorem copy_loop {K : Rows} {n g pl c m len : Nat} {F : FS} {S : SS} {D : DS} {P : PS} {Γ : List Tm} (hC : Ctx K n P g Γ) (hg : g < 40) (hlen : Γ.length = len) (hpl : pl < len) (hm : m ≤ 2) : ∀ (k f i : Nat) (ef : Nat → Int32), i + k = pl → k < f → TelP K n ef (Γ.reverse.take i) →
    ∃ f' ef', f_X0_childOf_L38 f K F S D P (nz i) ef (nz g) (nz pl) (nz c) (nz m) (nz len) (nz i) = f_X0_childOf_L38 (f' + 1) K F S D P (nz pl) ef' (nz g) (nz pl) (nz c) (nz m) (nz len) (nz pl) ∧ TelP K n ef' (Γ.reverse.take pl) := by
  intro k
  have h12 := hC.2.2
  induction k with
  | zero =>
    intro f i ef hi hf hT
    obtain ⟨f, rfl⟩ : ∃ e, f = e + 1 := ⟨f - 1, by omega⟩
    obtain rfl : i = pl := by omega
    exact ⟨f, ef, rfl, hT⟩
  | succ k ih =>
    intro f i ef hi hf hT
    obtain ⟨f, rfl⟩ : ∃ e, f = e + 1 := ⟨f - 1, by omega⟩
    obtain ⟨T, j, q1, q2, q3, q4⟩ := ctx_at hC (show g < 1000000 by omega) (show i < Γ.length by omega)
    have hl : (Γ.reverse.take i).length = i := by rw [List.length_take, List.length_reverse]; omega
    have et : Γ.reverse.take (i + 1) = Γ.reverse.take i ++ [T] := by
      rw [List.take_succ, List.getElem?_reverse (by omega), q1]
      rfl
    have hp := TelP_push hT q4
    rw [hl, ← et] at hp
    obtain ⟨f', ef', r1, r2⟩ := ih f (i + 1) (upd ef i (nz j)) (by omega) (by omega) hp
    refine ⟨f', ef', ?_, r2⟩
    rw [← r1, f_X0_childOf_L38, if_neg (fun hq => absurd ((nz_le (by omega) (by omega)).mp hq) (by omega)), q2, Option.bind_some]
    have e1 : tsz (nz len - 1 + nz m) = len - 1 + m := by
      rw [show (1 : Int32) = nz 1 from rfl, nz_sub (by omega), nz_add, tsz_nz (by omega)]
    rw [e1, push_at (by omega) (by omega), Option.bind_some, show nz i + 1 = nz (i + 1) from nz_add i 1]
