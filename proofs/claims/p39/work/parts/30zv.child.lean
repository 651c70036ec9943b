def sumS (l : List Tm) : Nat := (l.map sizeT).sum
theorem sumS_snoc (l : List Tm) (T : Tm) : sumS (l ++ [T]) = sumS l + sizeT T := by
  unfold sumS
  rw [List.map_append, List.sum_append]
  simp
theorem sumS_spine (l : List Tm) (h : Tm) : sumS l ≤ sizeT (spine h l) := by
  rw [sizeT_spine]
  have w : ∀ l : List Tm, (l.map sizeT).sum ≤ (l.map (fun a => 1 + sizeT a)).sum := by
    intro l
    induction l with
    | nil => exact Nat.le_refl _
    | cons a l ih => rw [List.map_cons, List.map_cons, List.sum_cons, List.sum_cons]; omega
  have := w l
  unfold sumS
  omega
theorem sumS_take (l : List Tm) (i : Nat) : sumS (l.take i) ≤ sumS l := by
  have e : sumS l = sumS (l.take i) + sumS (l.drop i) := by
    unfold sumS
    rw [← List.sum_append, ← List.map_append, List.take_append_drop]
  omega
theorem pats_loop {K0 : Rows} {n0 n2 g pl c m len vv v8 : Nat} {S : SS} {D : DS} {P : PS} {em : Int32} {ef : Nat → Int32} {ps : List Tm} (hnp : P.2.2.2.2.2.2.2.2.2.2.2.2.1 g = ps.length) (hpa : ∀ (k : Nat) (p : Tm), ps[k]? = some p → ∃ j, P.2.2.2.2.2.2.2.2.2.2.2.2.2 g k = nz j ∧ Rep K0 n0 p j) (hps : ps.length ≤ 4) (hg : g < 40) (hlen : len ≤ 12) (hpl : pl < len) (hm : m ≤ 2)
    (hz : ∀ p ∈ ps, sizeT (sbs p (thS (len - 1 - pl) m (cn c))) ≤ 200 ∧ freeT p ≤ 1000) (hroom : n2 + sumS (ps.map (fun p => sbs p (thS (len - 1 - pl) m (cn c)))) + 1200 ≤ 32768) :
    ∀ (k f i : Nat) (K : Rows) (nn : Nat) (F : FS) (eg : Nat → Int32), i + k = ps.length → k < f → WF K nn → Ext K0 K n0 → n0 ≤ nn → n2 ≤ nn → nn ≤ n2 + sumS ((ps.map (fun p => sbs p (thS (len - 1 - pl) m (cn c)))).take i) → Rep K nn (valT c m) vv →
      (∀ (x : Nat) (p : Tm), x < i → ps[x]? = some p → ∃ j, eg x = nz j ∧ Rep K nn (sbs p (thS (len - 1 - pl) m (cn c))) j) →
      ∃ K' n' F' eg', f_X0_childOf_L243 f K F S D P em ef eg (nz g) (nz pl) (nz m) (nz len) (nz vv) (nz v8) (nz i) = some (0, K', F', (P.2.2.2.1 g, nz v8, len - 1 + m, em, ef, ps.length, eg')) ∧ WF K' n' ∧ nn ≤ n' ∧ n' ≤ n2 + sumS (ps.map (fun p => sbs p (thS (len - 1 - pl) m (cn c)))) ∧ Ext K K' nn ∧
        (∀ (x : Nat) (p : Tm), ps[x]? = some p → ∃ j, eg' x = nz j ∧ Rep K' n' (sbs p (thS (len - 1 - pl) m (cn c))) j) := by
  intro k
  induction k with
  | zero =>
    intro f i K nn F eg hi hf hw hx hn0 hn2 hnn hv he
    obtain ⟨f, rfl⟩ : ∃ e, f = e + 1 := ⟨f - 1, by omega⟩
    have hi' : i = ps.length := by omega
    subst hi'
    rw [List.take_of_length_le (by rw [List.length_map]; exact Nat.le_refl _)] at hnn
    have e1 : Int32.toNatClampNeg (Int32.ofNat ps.length) = ps.length := nz_nat (by omega)
    have e2 : Int32.ofNat ps.length ≤ nz ps.length := (nz_le (by omega) (by omega)).mpr (Nat.le_refl _)
    refine ⟨K, nn, F, eg, ?_, hw, Nat.le_refl _, hnn, Ext_refl _ _, ?_⟩
    · unfold f_X0_childOf_L243
      rw [nz_nat (by omega), hnp, e1, if_pos e2, room_tsz (by omega) hlen hm]
    · intro x p hp
      have hxl : x < ps.length := by
        rcases Nat.lt_or_ge x ps.length with q | q
        · exact q
        · rw [List.getElem?_eq_none q] at hp; cases hp
      exact he x p hxl hp
  | succ k ih =>
    intro f i K nn F eg hi hf hw hx hn0 hn2 hnn hv he
    obtain ⟨f, rfl⟩ : ∃ e, f = e + 1 := ⟨f - 1, by omega⟩
    have hil : i < ps.length := by omega
    have ep := List.getElem?_eq_getElem hil
    obtain ⟨hz1, hz2⟩ := hz _ (List.getElem_mem hil)
    obtain ⟨row, r1, r2⟩ := hpa i _ ep
    have r3 := Rep_ext hx hn0 _ row r2
    have hst := sumS_take (ps.map (fun p => sbs p (thS (len - 1 - pl) m (cn c)))) i
    obtain ⟨K1, n1, a1, a2, a3, a4, a5, -, -⟩ := withV_ok (x := len - 1 - pl) hw r3 hv hm (by omega) (by omega) (by omega)
    rcases a5 with ⟨-, j1, s2, s3⟩ | ⟨s1, -⟩
    · obtain ⟨K2, M, F2, j2, b1, b2, b3, b4, b5, b6, -⟩ := g_keep F a1 a2 s3
      have e1 : Int32.toNatClampNeg (Int32.ofNat ps.length) = ps.length := nz_nat (by omega)
      have e2 : ¬ Int32.ofNat ps.length ≤ nz i := fun hq => absurd ((nz_le (i := ps.length) (by omega) (by omega)).mp hq) (by omega)
      have esub : nz len - 1 - nz pl = nz (len - 1 - pl) := by rw [show (1 : Int32) = nz 1 from rfl, nz_sub (by omega), nz_sub (by omega)]
      have st : f_X0_childOf_L243 (f + 1) K F S D P em ef eg (nz g) (nz pl) (nz m) (nz len) (nz vv) (nz v8) (nz i) = f_X0_childOf_L243 f K2 F2 S D P em ef (upd eg i (nz j2)) (nz g) (nz pl) (nz m) (nz len) (nz vv) (nz v8) (nz (i + 1)) := by
        conv => lhs; unfold f_X0_childOf_L243
        rw [nz_nat (show g < 2147483648 by omega), hnp, e1, if_neg e2, g_mark, Option.bind_some, if_pos (nz_inb hil (by omega)), nz_nat (show i < 2147483648 by omega), r1, esub, s2, Option.bind_some, hw.1]
        show (g_X9_keep K1 F (nz nn) (nz j1)).bind _ = _
        rw [b1, Option.bind_some, if_pos (nz_inb hil (by omega)), show nz i + 1 = nz (i + 1) from nz_add i 1]
      have x2 : Ext K K2 nn := Ext_trans a4 b5 (Nat.le_refl _)
      have hsn : (ps.map (fun p => sbs p (thS (len - 1 - pl) m (cn c)))).take (i + 1) = (ps.map (fun p => sbs p (thS (len - 1 - pl) m (cn c)))).take i ++ [sbs ps[i] (thS (len - 1 - pl) m (cn c))] := take_snoc (by rw [List.getElem?_map, ep]; rfl)
      obtain ⟨K', n', F', eg', c1, c2, c3, c4, c5, c6⟩ := ih f (i + 1) K2 M F2 (upd eg i (nz j2)) (by omega) (by omega) b2 (Ext_trans hx (Ext_le x2 hn0) (Nat.le_refl _)) (by omega) (by omega) (by rw [hsn, sumS_snoc]; omega) (Rep_ext x2 b3 _ vv hv) (by
        intro x p hxi hp
        by_cases e : x = i
        · subst e
          have epp : ps[x] = p := by rw [ep] at hp; injection hp
          rw [← epp]
          exact ⟨j2, if_pos rfl, b6⟩
        · obtain ⟨j', q1, q2⟩ := he x p (by omega) hp
          exact ⟨j', (if_neg e).trans q1, Rep_ext x2 b3 _ j' q2⟩)
      exact ⟨K', n', F', eg', by rw [st]; exact c1, c2, by omega, c4, Ext_trans x2 c5 b3, c6⟩
    · omega
theorem occ_free : ∀ (t : Tm), (∀ v, patB conB t v → ∀ b, (∀ k, occ t k → k < b) → freeT t ≤ b) := by
  intro t
  refine tm_ind (P := fun t => ∀ v, patB conB t v → ∀ b, (∀ k, occ t k → k < b) → freeT t ≤ b) ?_ ?_ ?_ ?_ ?_ t
  · intro k v _ b h; exact h k rfl
  · intro t hc v _ b _; rw [freeT_c hc]; exact Nat.zero_le _
  · intro a b _ _ v h; exact h.elim
  · intro a b _ _ v h; exact h.elim
  · rintro a b ha hb v ⟨h1, h2⟩ x h
    have q1 := ha false h1 x (fun k hk => h k (Or.inl hk))
    have q2 := hb true h2 x (fun k hk => h k (Or.inr hk))
    show max (freeT a) (freeT b) ≤ x
    omega
theorem partsOf_ok {K : Rows} {n c : Nat} {S : SS} {A : SG} (h : SigC K n S A) (h16 : sCc A ≤ 16) (hc : c < sCc A) : g_X7_partsOf S (nz c) = some (nz (sPrt A c).length) := by
  obtain ⟨a1, a2, a3, a4⟩ := h
  unfold g_X7_partsOf f_X7_partsOf f_X7_hasConstructor
  rw [map_same, a2, if_neg (nz_neg (by omega)), if_neg (fun hq => absurd ((nz_le (by omega) (by omega)).mp hq) (by omega)), Option.bind_some, if_neg (by decide), if_pos (nz_inb (by omega) (by decide)), nz_nat (by omega), (a3 c hc).2.1]
theorem child_ok {K : Rows} {n g pl c h : Nat} {S : SS} {D : DS} {P : PS} {A : SG} {B : FG} {G : GG} (hC : CourtC K n S D P A B G) (ht : CourtT A B G) (hg : g < qN G) (hS0 : qS G g = 0) (hpl : pl < (qC G g).length) (hc : c < sCc A) (h12 : (qC G g).length - 1 + (sPrt A c).length ≤ 12) (hh : g < h) (hh2 : h < 40) (hroom : n + 7000 ≤ 32768) (F : FS) :
    (∃ K' n' F' Z, f_X0_childOf K F S D P (nz g) (nz pl) (nz c) = some (-1, K', F', Z) ∧ WF K' n' ∧ n ≤ n' ∧ Ext K K' n) ∨
    (∃ K' n' F' Z Γ' T', f_X0_childOf K F S D P (nz g) (nz pl) (nz c) = some (0, K', F', Z) ∧ WF K' n' ∧ n ≤ n' ∧ n' ≤ n + 416 + 4 * h ∧ Ext K K' n ∧ ChildL (qC G g) Γ' pl (cn c) ((sPrt A c).map dat) ∧ Γ'.length ≤ 12 ∧ nf (sbs (qT G g) (chS A ((qC G g).length - 1 - pl) c)) = some T' ∧
      NewC K' n' Z (qF G g) Γ' T' ((qP G g).map (fun p => sbs p (chS A ((qC G g).length - 1 - pl) c)))) := by
  obtain ⟨t1, t2, t3, t4, t5, t6⟩ := ht
  obtain ⟨a1, a2, a3, a4, a5, ⟨b1, b2, b3, b4, b5⟩, a7, a8, a9⟩ := t4 g hg
  obtain ⟨c1, c2, c3, c4, c5⟩ := hC
  obtain ⟨d1, ⟨jt, d2, d3⟩, d4, d5, d6, d7, d8, d9, d10⟩ := c5 g hg
  have hA := t1.2.2 c hc
  have h16 := t1.1
  have h6 := t1.2.1
  have hm := hA.2.1
  have hlen := d4.1.1
  -- the start
  have e0 : f_X0_childOf K F S D P (nz g) (nz pl) (nz c) = f_X0_childOf_L38 100000 K F S D P (nz 0) (fun _ => 0) (nz g) (nz pl) (nz c) (nz (sPrt A c).length) (nz (qC G g).length) (nz 0) := by
    unfold f_X0_childOf
    rw [partsOf_ok c2 h16 hc, Option.bind_some, nz_nat (by omega), hlen]
    have hs : szok (nz (qC G g).length - 1 + nz (sPrt A c).length) = true := by
      unfold szok
      exact decide_eq_true (by rw [room_tsz (by omega) a2 hm]; omega)
    rw [if_pos hs]
    rfl
  obtain ⟨f1, ef1, p1, p2⟩ := copy_loop (c := c) (m := (sPrt A c).length) (F := F) (S := S) (D := D) d4 (by omega) rfl hpl hm pl 100000 0 (fun _ => 0) (by omega) (by omega) (by rw [List.take_zero]; intro p T q; simp at q)
  obtain ⟨K1, l1, l2, l3, l4⟩ := leaf_arg (k := 3) (p := c) c1 (by omega) (by decide) (by decide) (by omega)
  have e1 : f_X0_childOf_L38 (f1 + 1) K F S D P (nz pl) ef1 (nz g) (nz pl) (nz c) (nz (sPrt A c).length) (nz (qC G g).length) (nz pl) = f_X0_childOf_L79 100000 K1 F S D P (nz (pl + 0)) ef1 (nz g) (nz pl) (nz c) (nz (sPrt A c).length) (nz (qC G g).length) (nz n) (nz 0) := by
    conv => lhs; unfold f_X0_childOf_L38
    rw [if_pos ((nz_le (by omega) (by omega)).mpr (Nat.le_refl _)), g_leaf, show (3 : Int32) = nz 3 from rfl, l1, Option.bind_some]
    rfl
  have hpre : ((qC G g).reverse.take pl).length = pl := by rw [List.length_take, List.length_reverse]; omega
  obtain ⟨f2, K2, ef2, vv, r1, r2, r3, r4, r5⟩ := parts_loop (F := F) (S := S) (D := D) (P := P) (g := g) (K0 := K) (n0 := n) (pre := (qC G g).reverse.take pl) (len := (qC G g).length) c2 h16 h6 hc hA hpre a2 hpl (by omega) (sPrt A c).length 100000 0 K1 ef1 n (by omega) (by omega) l2 l3 l4 (by rw [List.take_zero, List.append_nil]; exact TelP_ext p2 l3 (Nat.le_succ _))
  have e2 : f_X0_childOf_L79 (f2 + 1) K2 F S D P (nz (pl + (sPrt A c).length)) ef2 (nz g) (nz pl) (nz c) (nz (sPrt A c).length) (nz (qC G g).length) (nz vv) (nz (sPrt A c).length) = f_X0_childOf_L149 100000 K2 F S D P (nz (pl + (sPrt A c).length + 0)) ef2 (nz g) (nz pl) (nz (sPrt A c).length) (nz (qC G g).length) (nz vv) (nz (pl + 1 + 0)) := by
    conv => lhs; unfold f_X0_childOf_L79
    rw [if_pos ((nz_le (by omega) (by omega)).mpr (Nat.le_refl _)), show nz pl + 1 = nz (pl + 1) from nz_add pl 1]
    rfl
  have hmid : Mid K2 (n + 1 + 3 * (sPrt A c).length) n (n + 7) K ef2 ((qC G g).reverse.take pl ++ (sPrt A c).map dat) ((qC G g).reverse.drop (pl + 1)) [] c (sPrt A c).length vv 0 :=
    ⟨r2, r3, by omega, by omega, rfl, fun i T T' _ q => by simp at q, by rw [List.append_nil]; exact r5, r4⟩
  have hpre2 : ((qC G g).reverse.take pl ++ (sPrt A c).map dat).length = pl + (sPrt A c).length := by rw [List.length_append, hpre, List.length_map]
  rcases forms_loop (K0 := K) (n0 := n) (n1 := n + 7) (vv := vv) (c := c) (S := S) (D := D) d4 (show g < 40 by omega) rfl hpl hm hpre2 a3 a5 (by omega) ((qC G g).length - 1 - pl) 100000 0 K2 _ F ef2 [] (by omega) (by omega) hmid with ⟨K', n', F', Z, w1, w2, w3, w4⟩ | ⟨f3, K3, n3, F3, ef3, outs, w1, m1, m2, m3, m4, m5, m6, m7, m8⟩
  · exact Or.inl ⟨K', n', F', Z, by rw [e0, p1, e1, r1, e2]; exact w1, w2, w3, w4⟩
  · have hbase : f_X0_childOf K F S D P (nz g) (nz pl) (nz c) = f_X0_childOf_L149 (f3 + 1) K3 F3 S D P (nz ((qC G g).length - 1 + (sPrt A c).length)) ef3 (nz g) (nz pl) (nz (sPrt A c).length) (nz (qC G g).length) (nz vv) (nz (qC G g).length) := by rw [e0, p1, e1, r1, e2]; exact w1
    have hnt : ncl ((qC G g).reverse.drop (pl + 1)) ≤ 4 := by
      have q3 := ncl_take_drop (qC G g).reverse pl
      rw [ncl_reverse] at q3
      omega
    rw [List.take_of_length_le (by rw [List.length_drop, List.length_reverse]; omega)] at m4
    have jt3 := Rep_ext m2 m3 _ jt d3
    obtain ⟨y1, y2, y3⟩ := a4
    obtain ⟨f1', f2'⟩ := fwv_ok (x := (qC G g).length - 1 - pl) m1 jt3 m8 hm (by omega) (by omega) y1 y2 (by omega) F3
    have esub : nz (qC G g).length - 1 - nz pl = nz ((qC G g).length - 1 - pl) := by rw [show (1 : Int32) = nz 1 from rfl, nz_sub (by omega), nz_sub (by omega)]
    have enp : Int32.ofNat (P.2.2.2.2.2.2.2.2.2.2.2.2.1 g) = nz (qP G g).length := by rw [d5]; rfl
    have hps4 : (qP G g).length ≤ 4 := by
      obtain ⟨l, R, q1, q2, q3, q4, -⟩ := t2.2 _ a1
      omega
    have st : ∀ (y : Int32) (K' : Rows) (F' : FS), f_X0_formWithValue K3 F3 (nz jt) (nz vv) (nz (sPrt A c).length) (nz ((qC G g).length - 1 - pl)) = some (y, K', F') → f_X0_childOf_L149 (f3 + 1) K3 F3 S D P (nz ((qC G g).length - 1 + (sPrt A c).length)) ef3 (nz g) (nz pl) (nz (sPrt A c).length) (nz (qC G g).length) (nz vv) (nz (qC G g).length) =
        (if y = -1 then some (-1, K', F', (0, 0, 0, 0, (fun _ => 0), 0, (fun _ => 0))) else f_X0_childOf_L243 100000 K' F' S D P (nz ((qC G g).length - 1 + (sPrt A c).length)) ef3 (fun _ => 0) (nz g) (nz pl) (nz (sPrt A c).length) (nz (qC G g).length) (nz vv) y 0) := by
      intro y K' F' hy
      conv => lhs; unfold f_X0_childOf_L149
      rw [if_pos ((nz_le (by omega) (by omega)).mpr (Nat.le_refl _)), nz_nat (show g < 2147483648 by omega), d2, esub, hy, Option.bind_some, enp]
      show (if y = -1 then _ else _) = _
      by_cases hy1 : y = -1
      · rw [if_pos hy1, if_pos hy1]
      · rw [if_neg hy1, if_neg hy1, if_pos (nz_inb (by omega) (by decide))]
    rw [hbase]
    cases hu : nf (sbs (qT G g) (thS ((qC G g).length - 1 - pl) (sPrt A c).length (cn c))) with
    | none =>
      obtain ⟨K', F', q1, q2, q3⟩ := f2' hu
      exact Or.inl ⟨K', n3, F', ((0, 0, 0, 0, (fun _ => 0), 0, (fun _ => 0)) : CS), by rw [st _ _ _ q1, if_pos rfl], q2, m3, Ext_trans m2 (Ext_le q3 m3) (Nat.le_refl _)⟩
    | some u =>
      obtain ⟨K4, n4, F4, j4, q1, q2, q3, q4, q5, q6⟩ := f1' u hu
      have hn4 := q2.2.1
      have hj4 := Rep_lt q6
      have hct : costT (qT G g) ≤ 80 := by unfold costT; split <;> omega
      have hsL : sumS ((qP G g).map (fun p => sbs p (thS ((qC G g).length - 1 - pl) (sPrt A c).length (cn c)))) ≤ 9 + 4 * h := by
        have w := sumS_spine ((qP G g).map (fun p => sbs p (thS ((qC G g).length - 1 - pl) (sPrt A c).length (cn c)))) (fnn (qF G g))
        rw [map_qL] at w
        have w2 := (size_child (con := conB) (fn := fnB) (x := (qC G g).length - 1 - pl) (m := (sPrt A c).length) (isC_cn c)).2 _ (qL_lhsS (t4 g hg))
        have w3 := cntv_lin (qL G g) ((qC G g).length - 1 - pl) b3
        have w4 : 2 * (sPrt A c).length * cntv (qL G g) ((qC G g).length - 1 - pl) ≤ 4 * 1 := Nat.mul_le_mul (by omega) w3
        unfold qL at w2 w4 b5
        omega
      have hz : ∀ p ∈ qP G g, sizeT (sbs p (thS ((qC G g).length - 1 - pl) (sPrt A c).length (cn c))) ≤ 200 ∧ freeT p ≤ 1000 := by
        intro p hp
        constructor
        · have hmem : sbs p (thS ((qC G g).length - 1 - pl) (sPrt A c).length (cn c)) ∈ (qP G g).map (fun p => sbs p (thS ((qC G g).length - 1 - pl) (sPrt A c).length (cn c))) := List.mem_map.mpr ⟨p, hp, rfl⟩
          have w : ∀ (l : List Tm) (x : Tm), x ∈ l → sizeT x ≤ sumS l := by
            intro l x
            induction l with
            | nil => intro q; exact absurd q (List.not_mem_nil)
            | cons a l ih =>
              intro q
              have e : sumS (a :: l) = sizeT a + sumS l := by unfold sumS; rw [List.map_cons, List.sum_cons]
              rcases List.mem_cons.mp q with rfl | q
              · omega
              · have := ih q; omega
          have w5 := w _ _ hmem
          have w2 := (size_child (con := conB) (fn := fnB) (x := (qC G g).length - 1 - pl) (m := (sPrt A c).length) (isC_cn c)).2 _ (qL_lhsS (t4 g hg))
          have w6 := sumS_spine ((qP G g).map (fun p => sbs p (thS ((qC G g).length - 1 - pl) (sPrt A c).length (cn c)))) (fnn (qF G g))
          rw [map_qL] at w6
          have w3 := cntv_lin (qL G g) ((qC G g).length - 1 - pl) b3
          have w4 : 2 * (sPrt A c).length * cntv (qL G g) ((qC G g).length - 1 - pl) ≤ 4 * 1 := Nat.mul_le_mul (by omega) w3
          unfold qL at w2 w4 b5
          omega
        · have w := occ_free p true (b2 p hp) (qC G g).length (fun k hk => (b4 k).mp ((occ_spine _ _ k).mpr (Or.inr ⟨p, hp, hk⟩)))
          omega
      have x4 : Ext K K4 n := Ext_trans m2 (Ext_le q5 m3) (Nat.le_refl _)
      obtain ⟨K5, n5, F5, eg, v1, v2, v3, v4, v5, v6⟩ := pats_loop (K0 := K) (n0 := n) (n2 := n4) (v8 := j4) (c := c) (S := S) (D := D) (P := P) (em := nz ((qC G g).length - 1 + (sPrt A c).length)) (ef := ef3) d5 d6 hps4 (show g < 40 by omega) a2 hpl hm hz (by omega) (qP G g).length 100000 0 K4 n4 F4 (fun _ => 0) (by omega) (by omega) q2 x4 (by omega) (Nat.le_refl _) (Nat.le_add_right _ _) (Rep_ext q5 q3 _ vv m8) (fun x p hx => absurd hx (by omega))
      have hlo : ((qC G g).reverse.take pl ++ (sPrt A c).map dat ++ outs).length = (qC G g).length - 1 + (sPrt A c).length := by rw [List.length_append, hpre2, m5]; omega
      refine Or.inr ⟨K5, n5, F5, (P.2.2.2.1 g, nz j4, (qC G g).length - 1 + (sPrt A c).length, nz ((qC G g).length - 1 + (sPrt A c).length), ef3, (qP G g).length, eg), ((qC G g).reverse.take pl ++ ((sPrt A c).map dat ++ outs)).reverse, u, ?_, v2, by omega, ?_, Ext_trans x4 (Ext_le v5 (by omega)) (Nat.le_refl _), ⟨outs, rfl, ?_, ?_⟩, ?_, hu, ?_⟩
      · rw [st _ _ _ q1, if_neg (nz_no (by omega))]
        exact v1
      · omega
      · rw [m5, List.length_drop, List.length_reverse]; omega
      · rw [List.length_map]; exact m6
      · rw [List.length_reverse, ← List.append_assoc, hlo]; exact h12
      · refine ⟨d1, ⟨j4, rfl, Rep_ext v5 v3 _ j4 q6⟩, ?_, ?_, ?_, ?_, ?_⟩
        · have w := TelP_Tel (TelP_ext m7 (Ext_trans q5 (Ext_le v5 q3) (Nat.le_refl _)) (by omega : n3 ≤ n5))
          rw [hlo, List.append_assoc] at w
          exact w
        · show _ ≤ (qC G g).length - 1 + (sPrt A c).length
          rw [List.length_reverse, ← List.append_assoc, hlo]; exact Nat.le_refl _
        · rw [List.length_reverse, ← List.append_assoc, hlo]; exact h12
        · rw [List.length_map]
        · intro k p hp
          rw [List.getElem?_map] at hp
          cases hq : (qP G g)[k]? with
          | none => rw [hq] at hp; cases hp
          | some p0 =>
            rw [hq] at hp
            have ep : sbs p0 (chS A ((qC G g).length - 1 - pl) c) = p := by injection hp
            rw [← ep]
            exact v6 k p0 hq
