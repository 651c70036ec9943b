/-! one step to the normal form: down to the first place, up again -/
def bodyT : Tm → Tm
  | .sub _ c => c
  | t => t
def stepT : Tm → Tm
  | .mul a b => if isL a = true then inst (bodyT a) b else if looseT a = true then .mul (stepT a) b else .mul a (stepT b)
  | .add a b => if looseT a = true then .add (stepT a) b else .add a (stepT b)
  | .sub a b => if looseT a = true then .sub (stepT a) b else .sub a (stepT b)
  | t => t
def rLoose (K : Rows) (p : Int32) : Option Int32 := f_X9_isLoose K.1 K.2.2.2.2.2.2.2.2 p
theorem rLoose_at {K : Rows} {n i : Nat} {t : Tm} (hw : WF K n) (hr : Rep K n t i) : rLoose K (nz i) = some (if looseT t = true then 1 else 0) := by
  have hi := Rep_lt hr
  have hn := hw.2.1
  unfold rLoose f_X9_isLoose
  rw [hw.1, if_neg (nz_neg (by omega)), if_neg (fun hq => absurd ((nz_le (by omega) (by omega)).mp hq) (by omega)), if_pos (nz_inb (by omega) (by decide)), nz_nat (by omega), (Rep_calls_loose hr).2.2.2.2]
  by_cases h : looseT t = true
  · rw [if_pos h, if_neg (by decide)]
  · rw [if_neg h, if_pos rfl]
abbrev DO : Type := Int32 × Int32 × (Nat → Int32) × Int32 × (Nat → Int32) × (Nat → Int32) × (Nat → Int32) × (Nat → Int32)
def outD (a dp : Int32) (pf : Nat → Int32) (K : Rows) : DO := (a, dp, pf, K.1, K.2.1, K.2.2.1, K.2.2.2.1, K.2.2.2.2.2.2.2.2)
def rDown (f : Nat) (dp : Int32) (pf : Nat → Int32) (K : Rows) (v : Int32) : Option DO := f_X1_goDown_L7 f dp pf K.1 K.2.1 K.2.2.1 K.2.2.2.1 K.2.2.2.2.2.2.2.2 v
def goD (f : Nat) (dp : Int32) (pf : Nat → Int32) (K : Rows) (v : Int32) : Option DO := if dp < 80 then (if inb dp 80 = true then (rFirst K v).bind (fun q => (rLoose K q).bind (fun z => if z = 0 then (rSecond K v).bind (fun s => rDown f (dp + 1) (upd pf (Int32.toNatClampNeg dp) v) K s) else (rFirst K v).bind (fun s => rDown f (dp + 1) (upd pf (Int32.toNatClampNeg dp) v) K s))) else none) else some (outD (-1) dp pf K)
theorem rDown_step (f : Nat) (dp : Int32) (pf : Nat → Int32) (K : Rows) (v : Int32) : rDown (f + 1) dp pf K v = (rFirst K v).bind (fun q => (rKind K q).bind (fun k => if k = 6 then (rKind K v).bind (fun k2 => if k2 = 7 then some (outD v dp pf K) else goD f dp pf K v) else goD f dp pf K v)) := rfl
def rUp (f : Nat) (dp : Int32) (pf : Nat → Int32) (K : Rows) (v w : Int32) : Option (Int32 × Int32 × (Nat → Int32) × Rows) := f_X1_goUp_L9 f dp pf K.1 K.2.1 K.2.2.1 K.2.2.2.1 K.2.2.2.2.1 K.2.2.2.2.2.1 K.2.2.2.2.2.2.1 K.2.2.2.2.2.2.2.1 K.2.2.2.2.2.2.2.2 v w
theorem rUp_step (f : Nat) (dp : Int32) (pf : Nat → Int32) (K : Rows) (v w : Int32) : rUp (f + 1) dp pf K v w = (if w < 0 then some (v, dp, pf, K) else if v = -1 then some (v, dp, pf, K) else if inb w 80 = true then (rFirst K (pf (Int32.toNatClampNeg w))).bind (fun q => (rLoose K q).bind (fun z => if z = 0 then
    (rKind K (pf (Int32.toNatClampNeg w))).bind (fun k => (rFirst K (pf (Int32.toNatClampNeg w))).bind (fun a => (rPair K k a v).bind (fun u => rUp f dp pf u.2 u.1 (w + (-1))))) else
    (rKind K (pf (Int32.toNatClampNeg w))).bind (fun k => (rSecond K (pf (Int32.toNatClampNeg w))).bind (fun a => (rPair K k v a).bind (fun u => rUp f dp pf u.2 u.1 (w + (-1))))))) else none) := rfl
/-- down from this row to the first place, and up again with what was made there -/
def DU (K : Rows) (n : Nat) (t : Tm) (i : Nat) : Prop := ∀ (f d0 : Nat) (pf : Nat → Int32), sizeT t ≤ f → d0 + sizeT t ≤ 80 →
  ∃ p c v x y z k pf', rDown f (nz d0) pf K (nz i) = some (outD (nz p) (nz (d0 + k)) pf' K) ∧ rFirst K (nz p) = some (nz x) ∧ rSecond K (nz x) = some (nz y) ∧ rSecond K (nz p) = some (nz z) ∧ Rep K n c y ∧ Rep K n v z ∧
    sizeT c + sizeT v + 3 ≤ sizeT t ∧ freeT v ≤ freeT t + sizeT t ∧ sizeT (stepT t) + 1 + sizeT c + sizeT v ≤ sizeT t + sizeT (inst c v) ∧ (∀ q, q < d0 → pf' q = pf q) ∧ d0 + k ≤ 80 ∧ sizeT (inst c v) ≤ sizeT (stepT t) ∧
    ∀ fu K1 n1 r pf2 dp2, WF K1 n1 → Ext K K1 n → n ≤ n1 → Rep K1 n1 (inst c v) r → (∀ q, d0 ≤ q → q < d0 + k → pf2 q = pf' q) → n1 + sizeT (stepT t) ≤ 32768 + sizeT (inst c v) → 1 ≤ fu →
      ∃ K2 n2, WF K2 n2 ∧ n1 ≤ n2 ∧ n2 + sizeT (inst c v) ≤ n1 + sizeT (stepT t) ∧ Ext K1 K2 n1 ∧
        ((sizeT (stepT t) ≤ 200 ∧ ∃ r2, Rep K2 n2 (stepT t) r2 ∧ rUp (fu + k) dp2 pf2 K1 (nz r) (nz (d0 + k) + (-1)) = rUp fu dp2 pf2 K2 (nz r2) (nz d0 + (-1))) ∨
         (200 < sizeT (stepT t) ∧ rUp (fu + k) dp2 pf2 K1 (nz r) (nz (d0 + k) + (-1)) = some ((-1), dp2, pf2, K2)))
theorem down_pair {K : Rows} {n i k j l : Nat} {t a b : Tm} (hw : WF K n) (hi : i < n) (hkk : K.2.1 i = nz k) (hk5 : 5 ≤ k) (hk : k < 8) (hj : K.2.2.1 i = nz j) (hl : K.2.2.2.1 i = nz l) (ha : Rep K n a j) (hb : Rep K n b l)
    (hno : ¬ (k = 7 ∧ isL a = true)) (hA : looseT a = true → DU K n a j) (hB : looseT a = false → DU K n b l) (hst : stepT t = if looseT a = true then mkT k (stepT a) b else mkT k a (stepT b)) (hsz : sizeT t = 1 + sizeT a + sizeT b) (hfr : freeT a ≤ freeT t + 1 ∧ freeT b ≤ freeT t + 1) : DU K n t i := by
  intro f d0 pf hf hd
  have hn := hw.2.1
  obtain ⟨f, rfl⟩ : ∃ e, f = e + 1 := ⟨f - 1, by omega⟩
  have hpa := sizeT_pos a
  have hpb := sizeT_pos b
  have c1 : nz d0 < 80 := (nz_lt (j := 80) (by omega) (by decide)).mpr (by omega)
  have c2 : inb (nz d0) 80 = true := nz_inb (by omega) (by decide)
  have go : rDown (f + 1) (nz d0) pf K (nz i) = goD f (nz d0) pf K (nz i) := by
    rw [rDown_step, rFirst_at hw hi, Option.bind_some, hj, rKind_at hw (Rep_lt ha), Option.bind_some]
    by_cases h6 : K.2.1 j = 6
    · rw [if_pos h6, rKind_at hw hi, Option.bind_some, hkk, if_neg (show ¬ nz k = (7 : Int32) from nz_ne (c := 7) (by omega) (by decide) (fun e => hno ⟨e, (Rep_isL ha).mp h6⟩))]
    · rw [if_neg h6]
  have go2 : rDown (f + 1) (nz d0) pf K (nz i) = rDown f (nz (d0 + 1)) (upd pf d0 (nz i)) K (nz (if looseT a = true then j else l)) := by
    rw [go]
    unfold goD
    rw [if_pos c1, if_pos c2, rFirst_at hw hi, Option.bind_some, hj, rLoose_at hw ha, Option.bind_some, nz_nat (by omega), show nz d0 + 1 = nz (d0 + 1) from nz_add d0 1, rSecond_at hw hi, Option.bind_some, Option.bind_some, hl]
    by_cases h : looseT a = true
    · rw [if_pos h, if_pos h, if_neg (by decide)]
    · rw [if_neg h, if_neg h, if_pos rfl]
  rw [go2]
  obtain ⟨ch, cr, hch, hcr, hcs, hcf, hS⟩ : ∃ ch cr, (ch = if looseT a = true then a else b) ∧ (cr = if looseT a = true then j else l) ∧ sizeT ch < sizeT t ∧ freeT ch ≤ freeT t + 1 ∧ DU K n ch cr := by
    by_cases h : looseT a = true
    · exact ⟨a, j, by rw [if_pos h], by rw [if_pos h], by omega, hfr.1, hA h⟩
    · exact ⟨b, l, by rw [if_neg h], by rw [if_neg h], by omega, hfr.2, hB (by simpa using h)⟩
  rw [← hcr]
  obtain ⟨p, c, v, x, y, z, k1, pf', e1, e2, e3, e4, e5, e6, e7, e7f, e7', e8, e9, e10, up⟩ := hS f (d0 + 1) (upd pf d0 (nz i)) (by omega) (by omega)
  have hss : sizeT (stepT t) + sizeT ch = sizeT (stepT ch) + sizeT t := by
    rw [hst, hch]
    by_cases h : looseT a = true
    · rw [if_pos h, if_pos h, mkT_size]; omega
    · rw [if_neg h, if_neg h, mkT_size]; omega
  refine ⟨p, c, v, x, y, z, k1 + 1, pf', ?_, e2, e3, e4, e5, e6, by omega, by omega, by omega, ?_, by omega, by omega, ?_⟩
  · rw [e1, show d0 + 1 + k1 = d0 + (k1 + 1) by omega]
  · intro q hq
    rw [e8 q (by omega)]
    exact if_neg (by omega)
  · intro fu K1 n1 r pf2 dp2 w1 x1 m1 r1 hpf hroom hfu
    obtain ⟨K2, n2, w2, m2, m3, x2, q⟩ := up (fu + 1) K1 n1 r pf2 dp2 w1 x1 m1 r1 (fun q a1 a2 => hpf q (by omega) (by omega)) (by omega) (by omega)
    rw [show fu + (k1 + 1) = fu + 1 + k1 by omega, show d0 + (k1 + 1) = d0 + 1 + k1 by omega]
    rcases q with ⟨s1, r2, rr, eu⟩ | ⟨s1, eu⟩
    · have xx := Ext_trans x1 x2 m1
      have hi2 : i < n2 := by omega
      obtain ⟨g1, g2, g3, -⟩ := xx i hi
      have ha2 : Rep K2 n2 a j := Rep_ext xx (by omega) a j ha
      have hb2 : Rep K2 n2 b l := Rep_ext xx (by omega) b l hb
      have hp0 : pf2 d0 = nz i := by
        rw [hpf d0 (Nat.le_refl _) (by omega), e8 d0 (by omega)]
        exact if_pos rfl
      have st : rUp (fu + 1) dp2 pf2 K2 (nz r2) (nz (d0 + 1) + (-1)) = (rPair K2 (nz k) (if looseT a = true then nz r2 else nz j) (if looseT a = true then nz l else nz r2)).bind (fun u => rUp fu dp2 pf2 u.2 u.1 (nz d0 + (-1))) := by
        have hr2 := Rep_lt rr
        have hn2 := w2.2.1
        rw [nz_m1, rUp_step, if_neg (nz_neg (by omega)), if_neg (nz_no (by omega)), if_pos c2, nz_nat (by omega), hp0, rFirst_at w2 hi2, Option.bind_some, g2, hj, rLoose_at w2 ha2, Option.bind_some, rKind_at w2 hi2, Option.bind_some, Option.bind_some, g1, hkk, Option.bind_some, rSecond_at w2 hi2, Option.bind_some, g3, hl]
        by_cases h : looseT a = true
        · rw [if_pos h, if_pos h, if_pos h, if_neg (by decide)]
        · rw [if_neg h, if_neg h, if_neg h, if_pos rfl]
      rw [eu, st]
      have hw2 := w2.2.1
      by_cases h : looseT a = true
      · rw [if_pos h] at hch
        rw [if_pos h, if_pos h]
        rw [if_pos h] at hst
        subst hch
        have hz : sizeT (stepT t) = 1 + sizeT (stepT ch) + sizeT b := by rw [hst, mkT_size]
        by_cases hs : sizeT (stepT ch) + sizeT b < 200
        · obtain ⟨K3, e3', w3, x3, r3⟩ := pair_tree w2 (by omega) hk5 hk rr hb2 hs
          refine ⟨K3, n2 + 1, w3, by omega, by omega, Ext_trans x2 x3 m2, Or.inl ⟨by omega, n2, by rw [hst]; exact r3, ?_⟩⟩
          rw [e3']; rfl
        · refine ⟨K2, n2, w2, m2, by omega, x2, Or.inr ⟨by omega, ?_⟩⟩
          rw [pair_big w2 hk5 hk rr hb2 (by omega), Option.bind_some]
          obtain ⟨fu, rfl⟩ : ∃ e, fu = e + 1 := ⟨fu - 1, by omega⟩
          show rUp (fu + 1) dp2 pf2 K2 (-1) _ = _
          rw [rUp_step]
          split
          · rfl
          · rw [if_pos rfl]
      · rw [if_neg h] at hch
        rw [if_neg h, if_neg h]
        rw [if_neg h] at hst
        subst hch
        have hz : sizeT (stepT t) = 1 + sizeT a + sizeT (stepT ch) := by rw [hst, mkT_size]
        by_cases hs : sizeT a + sizeT (stepT ch) < 200
        · obtain ⟨K3, e3', w3, x3, r3⟩ := pair_tree w2 (by omega) hk5 hk ha2 rr hs
          refine ⟨K3, n2 + 1, w3, by omega, by omega, Ext_trans x2 x3 m2, Or.inl ⟨by omega, n2, by rw [hst]; exact r3, ?_⟩⟩
          rw [e3']; rfl
        · refine ⟨K2, n2, w2, m2, by omega, x2, Or.inr ⟨by omega, ?_⟩⟩
          rw [pair_big w2 hk5 hk ha2 rr (by omega), Option.bind_some]
          obtain ⟨fu, rfl⟩ : ∃ e, fu = e + 1 := ⟨fu - 1, by omega⟩
          show rUp (fu + 1) dp2 pf2 K2 (-1) _ = _
          rw [rUp_step]
          split
          · rfl
          · rw [if_pos rfl]
    · exact ⟨K2, n2, w2, m2, by omega, x2, Or.inr ⟨by omega, eu⟩⟩
theorem DU_all {K : Rows} {n : Nat} (hw : WF K n) : ∀ (t : Tm) (i : Nat), Rep K n t i → looseT t = true → DU K n t i := by
  intro t
  induction t with
  | add a b iha ihb =>
    intro i hr hl
    obtain ⟨h1, h2, h3, j, l, h4, h5, h6, h7, h8, h9⟩ := hr
    refine down_pair (k := 5) hw h1 h3.1 (by decide) (by decide) h6 h7 h8 h9 (fun q => absurd q.1 (by decide)) (fun q => iha j h8 q) (fun q => ihb l h9 ?_) rfl rfl ?_
    · have hl' : (looseT a || looseT b) = true := hl
      rw [q] at hl'
      exact hl'
    · have e : freeT (.add a b : Tm) = max (freeT a) (freeT b - 1) := rfl
      rw [e]; omega
  | sub a b iha ihb =>
    intro i hr hl
    obtain ⟨h1, h2, h3, j, l, h4, h5, h6, h7, h8, h9⟩ := hr
    refine down_pair (k := 6) hw h1 h3.1 (by decide) (by decide) h6 h7 h8 h9 (fun q => absurd q.1 (by decide)) (fun q => iha j h8 q) (fun q => ihb l h9 ?_) rfl rfl ?_
    · have hl' : (looseT a || looseT b) = true := hl
      rw [q] at hl'
      exact hl'
    · have e : freeT (.sub a b : Tm) = max (freeT a) (freeT b - 1) := rfl
      rw [e]; omega
  | mul a b iha ihb =>
    intro i hr hl
    obtain ⟨h1, h2, h3, j, l, h4, h5, h6, h7, h8, h9⟩ := hr
    by_cases hL : isL a = true
    · obtain ⟨A, c, rfl⟩ := isL_ex hL
      intro f d0 pf hf hd
      obtain ⟨f, rfl⟩ : ∃ e, f = e + 1 := ⟨f - 1, by have := sizeT_pos (.mul (.sub A c) b : Tm); omega⟩
      have h8' := h8
      obtain ⟨g1, g2, g3, x, y, g4, g5, g6, g7, g8, g9⟩ := h8'
      have hsz : sizeT (.mul (.sub A c) b : Tm) = 1 + (1 + sizeT A + sizeT c) + sizeT b := rfl
      have hpA := sizeT_pos A
      have hst : stepT (.mul (.sub A c) b) = inst c b := rfl
      rw [hst, hsz]
      rw [hsz] at hd
      refine ⟨i, c, b, j, y, l, 0, pf, ?_, ?_, ?_, ?_, g9, h9, by omega, ?_, by omega, fun _ _ => rfl, by omega, Nat.le_refl _, ?_⟩
      · rw [rDown_step, rFirst_at hw h1, Option.bind_some, h6, rKind_at hw g1, Option.bind_some, if_pos (show K.2.1 j = 6 from g3.1), rKind_at hw h1, Option.bind_some, if_pos (show K.2.1 i = 7 from h3.1)]
        rfl
      · rw [rFirst_at hw h1, h6]
      · rw [rSecond_at hw g1, g7]
      · rw [rSecond_at hw h1, h7]
      · show freeT b ≤ max (freeT (.sub A c)) (freeT b) + _; omega
      · intro fu K1 n1 r pf2 dp2 w1 x1 m1 r1 hpf hroom hfu
        exact ⟨K1, n1, w1, Nat.le_refl _, Nat.le_refl _, Ext_refl _ _, Or.inl ⟨Rep_size _ r r1, r, r1, rfl⟩⟩
    · refine down_pair (k := 7) hw h1 h3.1 (by decide) (by decide) h6 h7 h8 h9 (fun q => hL q.2) (fun q => iha j h8 q) (fun q => ihb l h9 ?_) ?_ rfl ?_
      · have hl' : (looseT a || looseT b || isL a) = true := hl
        rw [q, show isL a = false by simpa using hL] at hl'
        simpa using hl'
      · show (if isL a = true then _ else _) = _
        rw [if_neg hL]
        rfl
      · have e : freeT (.mul a b : Tm) = max (freeT a) (freeT b) := rfl
        rw [e]; omega
  | _ => intro i hr hl; exact absurd hl (by simp [looseT])
