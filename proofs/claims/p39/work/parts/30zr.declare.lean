/-! declare -/
def doms : Tm → Nat
  | .add _ b => doms b + 1
  | _ => 0
theorem doms_size : ∀ t : Tm, doms t < sizeT t := by
  intro t
  induction t with
  | add a b _ ihb => show doms b + 1 < 1 + sizeT a + sizeT b; have := sizeT_pos a; omega
  | sub a b _ _ => exact sizeT_pos _
  | mul a b _ _ => exact sizeT_pos _
  | _ => exact Nat.one_pos
theorem conType_of : ∀ t : Tm, ∃ l R, t = conType l R ∧ l.length = doms t := by
  intro t
  induction t with
  | add a b _ ihb =>
    obtain ⟨l, R, h1, h2⟩ := ihb
    exact ⟨a :: l, R, by rw [h1]; rfl, by rw [List.length_cons, h2]; rfl⟩
  | index k => exact ⟨[], .index k, rfl, rfl⟩
  | arg m => exact ⟨[], .arg m, rfl, rfl⟩
  | sub a b _ _ => exact ⟨[], .sub a b, rfl, rfl⟩
  | mul a b _ _ => exact ⟨[], .mul a b, rfl, rfl⟩
  | _ => exact ⟨[], _, rfl, rfl⟩
theorem dom_loop {K : Rows} {n : Nat} (hw : WF K n) : ∀ (t : Tm) (f i x : Nat), Rep K n t i → x ≤ 5 → doms t < f → f_X0_domainsOf_L4 f K (nz i) (nz x) = some (nz (min (x + doms t) 5)) := by
  have stop : ∀ (t : Tm) (f i x : Nat), Rep K n t i → ¬ kdT t = 5 → doms t = 0 → x ≤ 5 → 0 < f → f_X0_domainsOf_L4 f K (nz i) (nz x) = some (nz (min (x + doms t) 5)) := by
    intro t f i x hr hk hd hx hf
    obtain ⟨f, rfl⟩ : ∃ e, f = e + 1 := ⟨f - 1, by omega⟩
    have hk8 : kdT t < 8 := by rcases (Rep_view hr).2 with v | v <;> omega
    unfold f_X0_domainsOf_L4
    rw [g_kind, rKind_at hw (Rep_lt hr), Option.bind_some, (Rep_view hr).1, if_neg (show ¬ nz (kdT t) = (5 : Int32) from nz_ne (c := 5) (by omega) (by decide) hk), hd, Nat.add_zero, Nat.min_eq_left hx]
  intro t
  induction t with
  | add a b _ ihb =>
    intro f i x hr hx hf
    have hi := Rep_lt hr
    obtain ⟨h1, h2, h3, j, l, h4, h5, h6, h7, h8, h9⟩ := hr
    have hdd : doms (.add a b) = doms b + 1 := rfl
    rw [hdd] at hf ⊢
    obtain ⟨f, rfl⟩ : ∃ e, f = e + 1 := ⟨f - 1, by omega⟩
    unfold f_X0_domainsOf_L4
    rw [g_kind, rKind_at hw hi, Option.bind_some, if_pos (show K.2.1 i = 5 from h3.1)]
    by_cases hx5 : x = 5
    · rw [if_pos (show (4 : Int32) < nz x from (nz_lt (i := 4) (by decide) (by omega)).mpr (by omega)), hx5, Nat.min_eq_right (by omega)]
    · rw [if_neg (show ¬ (4 : Int32) < nz x from fun hq => absurd ((nz_lt (i := 4) (by decide) (by omega)).mp hq) (by omega)), g_second, rSecond_at hw hi, Option.bind_some, h7, show nz x + 1 = nz (x + 1) from nz_add x 1, ihb f l (x + 1) h9 (by omega) (by omega)]
      congr 3
      omega
  | index k => intro f i x hr hx hf; exact stop _ f i x hr (by decide : ¬ 1 = 5) rfl hx (by omega)
  | arg m => intro f i x hr hx hf; exact stop _ f i x hr (show ¬ m % 8 = 5 by have := hr.2.2.1.1; omega) rfl hx (by omega)
  | sub a b _ _ => intro f i x hr hx hf; exact stop _ f i x hr (by decide : ¬ 6 = 5) rfl hx (by omega)
  | mul a b _ _ => intro f i x hr hx hf; exact stop _ f i x hr (by decide : ¬ 7 = 5) rfl hx (by omega)
  | _ => intro f i x hr; exact hr.elim
theorem dom_none (K : Rows) : f_X0_domainsOf K (-1) = some 0 := by
  unfold f_X0_domainsOf
  rw [show (100000 : Nat) = 99999 + 1 from rfl]
  unfold f_X0_domainsOf_L4
  rw [g_kind, kind_none, Option.bind_some, if_neg (by decide)]
theorem dom_ok {K : Rows} {n i : Nat} {t : Tm} (hw : WF K n) (hr : Rep K n t i) : f_X0_domainsOf K (nz i) = some (nz (min (doms t) 5)) := by
  have h1 := doms_size t
  have h2 := Rep_size t i hr
  have e := dom_loop hw t 100000 i 0 hr (by omega) (by omega)
  rw [Nat.zero_add] at e
  exact e
/-- the goals' arrays are the same at a place -/
def PSame (P P' : PS) (g : Nat) : Prop := P'.2.2.2.1 g = P.2.2.2.1 g ∧ P'.2.2.2.2.1 g = P.2.2.2.2.1 g ∧ P'.2.2.2.2.2.1 g = P.2.2.2.2.2.1 g ∧ P'.2.2.2.2.2.2.1 g = P.2.2.2.2.2.2.1 g ∧ P'.2.2.2.2.2.2.2.1 g = P.2.2.2.2.2.2.2.1 g ∧ P'.2.2.2.2.2.2.2.2.1 g = P.2.2.2.2.2.2.2.2.1 g ∧ P'.2.2.2.2.2.2.2.2.2.1 g = P.2.2.2.2.2.2.2.2.2.1 g ∧ P'.2.2.2.2.2.2.2.2.2.2.1 g = P.2.2.2.2.2.2.2.2.2.2.1 g ∧ P'.2.2.2.2.2.2.2.2.2.2.2.1 g = P.2.2.2.2.2.2.2.2.2.2.2.1 g ∧ P'.2.2.2.2.2.2.2.2.2.2.2.2.1 g = P.2.2.2.2.2.2.2.2.2.2.2.2.1 g ∧ P'.2.2.2.2.2.2.2.2.2.2.2.2.2 g = P.2.2.2.2.2.2.2.2.2.2.2.2.2 g
theorem GoalC_same {K : Rows} {n g : Nat} {P P' : PS} {G G' : GG} (h : GoalC K n P G g) (hp : PSame P P' g) (h1 : qF G' g = qF G g ∧ qC G' g = qC G g ∧ qT G' g = qT G g ∧ qP G' g = qP G g) (hs : qS G' g = qS G g) (hr : qS G g = 2 → qR G' g = qR G g) (hc : qS G g = 1 → qPl G' g = qPl G g ∧ qCh G' g = qCh G g) : GoalC K n P' G' g := by
  obtain ⟨a1, a2, a3, a4, a5, a6, a7, a8, a9, a10, a11⟩ := hp
  obtain ⟨b1, b2, b3, b4⟩ := h1
  obtain ⟨c1, c2, c3, c4, c5, c6, c7, c8, c9⟩ := h
  refine ⟨?_, ?_, ?_, ?_, ?_, ?_, ?_, ?_, ?_⟩
  · rw [a1, b1]; exact c1
  · rw [a2, b3]; exact c2
  · unfold Ctx at c3 ⊢; rw [a7, a8, a9, b2]; exact c3
  · rw [a10, b4]; exact c4
  · rw [a11, b4]; exact c5
  · rw [hs]; exact c6
  · rw [a3, hs]; exact c7
  · intro q
    rw [hs] at q
    rw [a4, hr q]
    exact c8 q
  · intro q
    rw [hs] at q
    obtain ⟨d1, d2⟩ := hc q
    rw [a5, a6, d1, d2]
    exact c9 q
theorem vu_ne {α : Type} {f : Nat → α} {i j : Nat} {v : α} (h : ¬ j = i) : va_up f i v j = f j := if_neg h
theorem vu_at {α : Type} (f : Nat → α) (i : Nat) (v : α) : va_up f i v i = v := if_pos rfl
theorem addG_same (P : PS) (i : Nat) (Z : CS) {g : Nat} (h : ¬ g = i) : PSame P (addG P i Z) g := ⟨vu_ne h, vu_ne h, vu_ne h, vu_ne h, vu_ne h, vu_ne h, vu_ne h, vu_ne h, vu_ne h, vu_ne h, vu_ne h⟩
/-- a new goal, not yet in the arrays -/
def NewC (K : Rows) (n : Nat) (Z : CS) (f : Nat) (Γ : List Tm) (T : Tm) (ps : List Tm) : Prop :=
  Z.1 = nz f ∧ (∃ j, Z.2.1 = nz j ∧ Rep K n T j) ∧ Tel K n Z.2.2.2.1 Z.2.2.2.2.1 Γ ∧ Γ.length ≤ Z.2.2.1 ∧ Γ.length ≤ 12 ∧ Z.2.2.2.2.2.1 = ps.length ∧ ∀ (k : Nat) (p : Tm), ps[k]? = some p → ∃ j, Z.2.2.2.2.2.2 k = nz j ∧ Rep K n p j
theorem NewC_ext {K K' : Rows} {n n' f : Nat} {Z : CS} {Γ : List Tm} {T : Tm} {ps : List Tm} (h : NewC K n Z f Γ T ps) (hx : Ext K K' n) (hn : n ≤ n') : NewC K' n' Z f Γ T ps := by
  obtain ⟨h1, ⟨j, h2, h3⟩, h4, h5, h6, h7, h8⟩ := h
  refine ⟨h1, ⟨j, h2, Rep_ext hx hn _ j h3⟩, Tel_ext h4 hx hn, h5, h6, h7, ?_⟩
  intro k p hp
  obtain ⟨j, q1, q2⟩ := h8 k p hp
  exact ⟨j, q1, Rep_ext hx hn p j q2⟩
theorem GoalC_new {K : Rows} {n g f : Nat} {P : PS} {G : GG} {Z : CS} {Γ : List Tm} {T : Tm} {ps : List Tm} (h : NewC K n Z f Γ T ps) (hF : qF G g = f) (hC : qC G g = Γ) (hT : qT G g = T) (hP : qP G g = ps) (hS : qS G g = 0) : GoalC K n (addG P g Z) G g := by
  obtain ⟨h1, ⟨j, h2, h3⟩, h4, h5, h6, h7, h8⟩ := h
  refine ⟨?_, ⟨j, ?_, ?_⟩, ?_, ?_, ?_, by omega, ?_, fun q => by omega, fun q => by omega⟩
  · rw [hF]; exact (vu_at _ _ _).trans h1
  · exact (vu_at _ _ _).trans h2
  · rw [hT]; exact h3
  · rw [hC]
    have e1 : (addG P g Z).2.2.2.2.2.2.2.2.2.2.1 g = Z.2.2.2.1 := vu_at _ _ _
    have e2 : (addG P g Z).2.2.2.2.2.2.2.2.2.2.2.1 g = Z.2.2.2.2.1 := vu_at _ _ _
    have e3 : (addG P g Z).2.2.2.2.2.2.2.2.2.1 g = Z.2.2.1 := vu_at _ _ _
    unfold Ctx
    rw [e1, e2, e3]
    exact ⟨h4, h5, h6⟩
  · rw [hP]; exact (vu_at _ _ _).trans h7
  · rw [hP]
    have e1 : (addG P g Z).2.2.2.2.2.2.2.2.2.2.2.2.2 g = Z.2.2.2.2.2.2 := vu_at _ _ _
    rw [e1]
    exact h8
  · rw [hS]; exact vu_at _ _ _
theorem tsz_nz {k : Nat} (h : k < 2147483648) : tsz (nz k) = k := by
  unfold tsz
  rw [if_neg (nz_neg h), nz_nat h]
theorem enter_loop {K0 : Rows} {n0 : Nat} {D : DS} {P : PS} {v1 : Int32} {l : List Tm} {R : Tm} {fc gc : Nat} (hD1 : D.1 = nz fc) (hD2 : D.2.1 = nz gc) (hfc : fc < 8) (hgc : gc < 40) (h4 : l.length ≤ 4) (hroom : n0 + 4 ≤ 32768) :
    ∀ (k f i : Nat) (K : Rows) (ef eg : Nat → Int32) (v5 : Nat), i + k = l.length → k < f → WF K (n0 + i) → Ext K0 K n0 → Rep K (n0 + i) (conType (l.drop i) R) v5 →
      (∀ (p : Nat) (T : Tm), p < i → l[p]? = some T → ∃ j, ef p = nz j ∧ Rep K (n0 + i) T j) → (∀ p, p < i → ∃ j, eg p = nz j ∧ Rep K (n0 + i) (.index (l.length - 1 - p)) j) →
      ∃ K' Z, f_X0_enterFunction_L20 f K D P (nz i) ef eg v1 (nz l.length) (nz v5) (nz i) = some (nz fc, K', (nz (fc + 1), nz (gc + 1), D.2.2), addG (addF P fc v1 (nz l.length) (nz gc)) gc Z) ∧ WF K' (n0 + l.length) ∧ Ext K0 K' n0 ∧ NewC K' (n0 + l.length) Z fc l.reverse R (argv l.length 0) := by
  intro k
  induction k with
  | zero =>
    intro f i K ef eg v5 hi hf hw hx hr he hg
    obtain ⟨f, rfl⟩ : ∃ e, f = e + 1 := ⟨f - 1, by omega⟩
    obtain rfl : i = l.length := by omega
    have c2 : nz fc + 1 - 1 = nz fc := Int32.add_sub_cancel _ _
    have et : tsz (nz l.length) = l.length := tsz_nz (by omega)
    refine ⟨K, (nz fc, nz v5, l.length, nz l.length, ef, l.length, eg), ?_, hw, hx, rfl, ⟨v5, rfl, ?_⟩, ⟨by rw [List.length_reverse], ?_⟩, by rw [List.length_reverse]; exact Nat.le_refl _, by rw [List.length_reverse]; omega, (argv_length _ _).symm, ?_⟩
    · unfold f_X0_enterFunction_L20
      rw [if_pos ((nz_le (by omega) (by omega)).mpr (Nat.le_refl _)), hD1, hD2, if_pos (nz_inb hfc (by decide)), if_pos (nz_inb hgc (by decide)), nz_nat (by omega), nz_nat (by omega), nz_nat (by omega), et, c2, show nz fc + 1 = nz (fc + 1) from nz_add fc 1, show nz gc + 1 = nz (gc + 1) from nz_add gc 1]
    · rw [List.drop_length] at hr; exact hr
    · intro k T hk
      have hlt : k < l.length := by
        rcases Nat.lt_or_ge k l.length with q | q
        · exact q
        · rw [List.getElem?_eq_none (by rw [List.length_reverse]; exact q)] at hk; cases hk
      rw [List.getElem?_reverse hlt] at hk
      rw [List.length_reverse]
      exact he _ T (by omega) hk
    · intro k p hp
      have hlt : k < l.length := by
        rcases Nat.lt_or_ge k l.length with q | q
        · exact q
        · rw [List.getElem?_eq_none (by rw [argv_length]; exact q)] at hp; cases hp
      rw [argv_at _ _ _ hlt, Nat.zero_add] at hp
      have e : Jvm.Term.index (l.length - 1 - k) = p := by injection hp
      rw [← e]
      exact hg k hlt
  | succ k ih =>
    intro f i K ef eg v5 hi hf hw hx hr he hg
    obtain ⟨f, rfl⟩ : ∃ e, f = e + 1 := ⟨f - 1, by omega⟩
    have hil : i < l.length := by omega
    have ed : l.drop i = l[i] :: l.drop (i + 1) := List.drop_eq_getElem_cons hil
    rw [ed] at hr
    have hr' := hr
    obtain ⟨h1, h2, h3, j, s, a4, a5, a6, a7, a8, a9⟩ := hr'
    have et : tsz (nz l.length) = l.length := tsz_nz (by omega)
    have hin : inb (nz i) (Int32.toNatClampNeg (nz l.length)) = true := by rw [nz_nat (by omega)]; exact nz_inb hil (by omega)
    have hlt : nz i < Int32.ofNat l.length := (nz_lt (by omega) (by omega)).mpr hil
    obtain ⟨K', e1, e2, e3, e4⟩ := leaf_var (k := l.length - 1 - i) hw (by omega) (by omega)
    have esub : nz l.length - 1 - nz i = nz (l.length - 1 - i) := by rw [show (1 : Int32) = nz 1 from rfl, nz_sub (by omega), nz_sub (by omega)]
    have st : f_X0_enterFunction_L20 (f + 1) K D P (nz i) ef eg v1 (nz l.length) (nz v5) (nz i) = f_X0_enterFunction_L20 f K' D P (nz (i + 1)) (upd ef i (nz j)) (upd eg i (nz (n0 + i))) v1 (nz l.length) (nz s) (nz (i + 1)) := by
      have hs2 : K'.2.2.2.1 v5 = nz s := ((e3 v5 h1).2.2.1).trans a7
      have pu : f_X8_push (tsz (nz l.length)) (nz i) ef (nz j) = some (1, nz (i + 1), upd ef i (nz j)) := by
        unfold f_X8_push
        rw [et, if_pos hlt, if_pos (nz_inb hil (by omega)), nz_nat (by omega), show nz i + 1 = nz (i + 1) from nz_add i 1]
      rw [f_X0_enterFunction_L20, if_neg (fun hq => absurd ((nz_le (by omega) (by omega)).mp hq) (by omega)), g_first, rFirst_at hw h1, Option.bind_some, a6, pu, Option.bind_some, g_leaf, esub, show (1 : Int32) = nz 1 from rfl]
      rw [show rLeaf K (nz 1) (nz (l.length - 1 - i)) = some (nz (n0 + i), K') from e1, Option.bind_some, if_pos hin]
      show (g_X9_secondOf K' (nz v5)).bind _ = _
      rw [g_second, rSecond_at e2 (by omega), Option.bind_some, hs2, nz_nat (by omega), show nz i + nz 1 = nz (i + 1) from nz_add i 1]
    rw [st]
    refine ih f (i + 1) K' _ _ s (by omega) (by omega) e2 (Ext_trans hx e3 (by omega)) (Rep_ext e3 (by omega) _ s a9) ?_ ?_
    · intro p T hp hT
      by_cases e : p = i
      · subst e
        have eT : l[p] = T := by rw [List.getElem?_eq_getElem hil] at hT; injection hT
        rw [← eT]
        exact ⟨j, if_pos rfl, Rep_ext e3 (by omega) _ j a8⟩
      · obtain ⟨j', q1, q2⟩ := he p T (by omega) hT
        exact ⟨j', (if_neg e).trans q1, Rep_ext e3 (by omega) _ j' q2⟩
    · intro p hp
      by_cases e : p = i
      · subst e; exact ⟨n0 + p, if_pos rfl, e4⟩
      · obtain ⟨j', q1, q2⟩ := hg p (by omega)
        exact ⟨j', (if_neg e).trans q1, Rep_ext e3 (by omega) _ j' q2⟩
theorem enter_ok {K : Rows} {n j : Nat} {S : SS} {D : DS} {P : PS} {A : SG} {B : FG} {G : GG} {l : List Tm} {R : Tm} (h : CourtC K n S D P A B G) (hr : Rep K n (conType l R) j) (h1 : 1 ≤ l.length) (h4 : l.length ≤ 4) (hfc : fFc B < 8) (hgc : qN G < 40) (hroom : n + 4 ≤ 32768) :
    ∃ K' P', f_X0_enterFunction K D P (nz j) (nz l.length) = some (nz (fFc B), K', (nz (fFc B + 1), nz (qN G + 1), D.2.2), P') ∧ WF K' (n + l.length) ∧ Ext K K' n ∧ CourtC K' (n + l.length) S (nz (fFc B + 1), nz (qN G + 1), D.2.2) P' A (decB B (conType l R) l.length (qN G)) (decG G (fFc B) l R) := by
  have hh := h
  obtain ⟨c1, c2, c3, c4, c5⟩ := hh
  obtain ⟨K', Z, e1, e2, e3, e4⟩ := enter_loop (K0 := K) (n0 := n) (P := P) (v1 := nz j) (R := R) c3.1 c4 hfc hgc h4 hroom l.length 100000 0 K (fun _ => 0) (fun _ => 0) j (by omega) (by omega) c1 (Ext_refl K n) hr (fun p T q => absurd q (by omega)) (fun p q => absurd q (by omega))
  refine ⟨K', addG (addF P (fFc B) (nz j) (nz l.length) (nz (qN G))) (qN G) Z, ?_, e2, e3, ?_⟩
  · unfold f_X0_enterFunction
    have hs : szok (nz l.length) = true := by
      unfold szok
      exact decide_eq_true (by rw [tsz_nz (by omega)]; omega)
    rw [if_pos hs, if_pos (nz_inb (by omega) (by decide))]
    exact e1
  · have hx := CourtC_ext h e2 e3 (Nat.le_add_right _ _)
    obtain ⟨x1, x2, x3, x4, x5⟩ := hx
    refine ⟨e2, x2, ⟨rfl, ?_⟩, rfl, ?_⟩
    · intro f hf
      have hf' : f < fFc B + 1 := hf
      by_cases e : f = fFc B
      · subst e
        refine ⟨⟨j, vu_at _ _ _, ?_⟩, ?_, ?_⟩
        · have q : fTy (decB B (conType l R) l.length (qN G)) (fFc B) = conType l R := up1_eq _ _ _
          rw [q]; exact Rep_ext e3 (Nat.le_add_right _ _) _ j hr
        · have q : fAr (decB B (conType l R) l.length (qN G)) (fFc B) = l.length := up1_eq _ _ _
          rw [q]; exact vu_at _ _ _
        · have q : fFg (decB B (conType l R) l.length (qN G)) (fFc B) = qN G := up1_eq _ _ _
          rw [q]; exact vu_at _ _ _
      · obtain ⟨⟨j', q1, q2⟩, q3, q4⟩ := x3.2 f (by omega)
        have w1 : fTy (decB B (conType l R) l.length (qN G)) f = fTy B f := up1_ne e
        have w2 : fAr (decB B (conType l R) l.length (qN G)) f = fAr B f := up1_ne e
        have w3 : fFg (decB B (conType l R) l.length (qN G)) f = fFg B f := up1_ne e
        rw [w1, w2, w3]
        exact ⟨⟨j', (vu_ne e).trans q1, q2⟩, (vu_ne e).trans q3, (vu_ne e).trans q4⟩
    · intro g hg
      have hg' : g < qN G + 1 := hg
      by_cases e : g = qN G
      · subst e
        exact GoalC_new e4 (up1_eq _ _ _) (up1_eq _ _ _) (up1_eq _ _ _) (up1_eq _ _ _) (up1_eq _ _ _)
      · refine GoalC_same (x5 g (by omega)) ?_ (dec_same G (fFc B) l R g (by omega)) (up1_ne e) (fun _ => rfl) (fun _ => ⟨rfl, rfl⟩)
        exact addG_same (addF P (fFc B) (nz j) (nz l.length) (nz (qN G))) (qN G) Z e
