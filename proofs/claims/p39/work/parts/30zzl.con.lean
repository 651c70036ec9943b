/-! a new constructor -/
abbrev EntO : Type := Int32 × Int32 × (Nat → Int32) × (Nat → Int32) × (Nat → Int32) × (Nat → Int32) × (Nat → Int32) × (Nat → Int32) × Rows
def rEnt (fu : Nat) (cc : Int32) (ow pc pt tp rk cd : Nat → Int32) (K : Rows) (v1 v6 v7 v8 : Int32) : Option EntO := f_X7_enterConstructor_L84 fu cc ow pc pt tp rk cd K.1 K.2.1 K.2.2.1 K.2.2.2.1 K.2.2.2.2.1 K.2.2.2.2.2.1 K.2.2.2.2.2.2.1 K.2.2.2.2.2.2.2.1 K.2.2.2.2.2.2.2.2 v1 v6 v7 v8
theorem rEnt_step (fu : Nat) (cc : Int32) (ow pc pt tp rk cd : Nat → Int32) (K : Rows) (v1 v6 v7 v8 : Int32) : rEnt (fu + 1) cc ow pc pt tp rk cd K v1 v6 v7 v8 = (if v8 < 0 then (if inb v6 16 = true then (if inb v1 6 = true then (if inb v6 16 = true then (if inb v1 6 = true then (if inb v1 6 = true then some (v6, cc, ow, pc, pt, upd tp (Int32.toNatClampNeg v6) v7, upd rk (Int32.toNatClampNeg v6) (cd (Int32.toNatClampNeg v1)), upd cd (Int32.toNatClampNeg v1) ((cd (Int32.toNatClampNeg v1)) + 1), K) else none) else none) else none) else none) else none) else (if inb ((v6 * 3) + v8) 48 = true then (rLeaf K 2 (pt (Int32.toNatClampNeg ((v6 * 3) + v8)))).bind (fun q => (rPair q.2 5 q.1 v7).bind (fun z => rEnt fu cc ow pc pt tp rk cd z.2 v1 v6 z.1 (v8 + (-1)))) else none)) := rfl
theorem ent_end {fu c d i : Nat} {cc : Int32} {ow pc pt tp rk cd : Nat → Int32} {K : Rows} (hc : c < 16) (hd : d < 6) : rEnt (fu + 1) cc ow pc pt tp rk cd K (nz d) (nz c) (nz i) (nz 0 + (-1)) = some (nz c, cc, ow, pc, pt, upd tp c (nz i), upd rk c (cd d), upd cd d (cd d + 1), K) := by
  rw [rEnt_step, if_pos (by decide), if_pos (nz_inb hc (by decide)), if_pos (nz_inb hd (by decide)), if_pos (nz_inb hc (by decide)), if_pos (nz_inb hd (by decide)), if_pos (nz_inb hd (by decide)), nz_nat (show c < 2147483648 by omega), nz_nat (show d < 2147483648 by omega)]
theorem ent_loop {c d : Nat} {cc : Int32} {ow pc pt tp rk cd : Nat → Int32} {l : List Nat} (hc : c < 16) (hd : d < 6) (hl : l.length ≤ 2) (hpt : ∀ (k e : Nat), l[k]? = some e → pt (3 * c + k) = nz e ∧ e < 6) : ∀ (m fu i : Nat) (K : Rows) (n : Nat), m ≤ l.length → m < fu → WF K n → n + 2 * m ≤ 32768 → Rep K n (conType ((l.drop m).map dat) (dat d)) i →
    ∃ K' j, rEnt fu cc ow pc pt tp rk cd K (nz d) (nz c) (nz i) (nz m + (-1)) = some (nz c, cc, ow, pc, pt, upd tp c (nz j), upd rk c (cd d), upd cd d (cd d + 1), K') ∧ WF K' (n + 2 * m) ∧ Ext K K' n ∧ Rep K' (n + 2 * m) (conType (l.map dat) (dat d)) j := by
  intro m
  induction m with
  | zero =>
    intro fu i K n _ hf hw _ hr
    obtain ⟨fu, rfl⟩ : ∃ e, fu = e + 1 := ⟨fu - 1, by omega⟩
    exact ⟨K, i, ent_end hc hd, hw, Ext_refl K n, hr⟩
  | succ m ih =>
    intro fu i K n hm hf hw hn hr
    obtain ⟨fu, rfl⟩ : ∃ e, fu = e + 1 := ⟨fu - 1, by omega⟩
    have hml : m < l.length := hm
    obtain ⟨p1, p2⟩ := hpt m l[m] (List.getElem?_eq_getElem hml)
    obtain ⟨K1, a1, a2, a3, a4⟩ := leaf_arg (k := 2) (p := l[m]) hw (by omega) (by decide) (by decide) (by omega)
    have hr1 := Rep_ext a3 (Nat.le_succ n) _ _ hr
    have hz : sizeT (conType ((l.drop (m + 1)).map dat) (dat d)) ≤ 5 := by
      have hdl : (l.drop (m + 1)).length ≤ 2 := by rw [List.length_drop]; omega
      match h : l.drop (m + 1), hdl with
      | [], _ => exact (by decide : 1 ≤ 5)
      | [x], _ => exact (by decide : 3 ≤ 5)
      | [x, y], _ => exact Nat.le_refl 5
    obtain ⟨K2, b1, b2, b3, b4⟩ := pair_tree (k := 5) a2 (by omega) (by decide) (by decide) a4 hr1 (by show 1 + _ < 200; omega)
    have e : (l.drop m).map dat = dat l[m] :: (l.drop (m + 1)).map dat := by rw [List.drop_eq_getElem_cons hml]; rfl
    have b4' : Rep K2 (n + 1 + 1) (conType ((l.drop m).map dat) (dat d)) (n + 1) := by rw [e]; exact b4
    obtain ⟨K', j, r1, r2, r3, r4⟩ := ih fu (n + 1) K2 (n + 1 + 1) (by omega) (by omega) b2 (by omega) b4'
    refine ⟨K', j, ?_, ?_, Ext_trans a3 (Ext_trans b3 r3 (Nat.le_succ _)) (Nat.le_succ _), ?_⟩
    · have e3 : nz c * 3 + nz m = nz (3 * c + m) := by
        show nz c * nz 3 + nz m = _
        rw [nz_mul, nz_add, Nat.mul_comm]
      rw [nz_m1, rEnt_step, if_neg (nz_neg (by omega)), e3, if_pos (nz_inb (by omega) (by decide)), nz_nat (by omega), p1]
      show (rLeaf K (nz 2) (nz l[m])).bind _ = _
      rw [a1, Option.bind_some]
      show (rPair K1 (nz 5) (nz n) (nz i)).bind _ = _
      rw [b1, Option.bind_some]
      exact r1
    · rw [show n + 2 * (m + 1) = n + 1 + 1 + 2 * m by omega]; exact r2
    · rw [show n + 2 * (m + 1) = n + 1 + 1 + 2 * m by omega]; exact r4
def addC (A : SG) (d : Nat) (l : List Nat) : SG := (fun c => if c = sCc A then d else sOwn A c, fun c => if c = sCc A then l else sPrt A c, sCc A + 1, sDc A)
theorem cntd_addC (A : SG) (d : Nat) (l : List Nat) (e : Nat) : ∀ j, j ≤ sCc A → cntd (addC A d l) e j = cntd A e j := by
  intro j
  induction j with
  | zero => intro _; rfl
  | succ j ih =>
    intro h
    show cntd (addC A d l) e j + (if sOwn (addC A d l) j = e then 1 else 0) = cntd A e j + (if sOwn A j = e then 1 else 0)
    have e1 : sOwn (addC A d l) j = sOwn A j := if_neg (by omega)
    rw [ih (by omega), e1]
theorem conT_addC (A : SG) (d : Nat) (l : List Nat) {c : Nat} (h : c < sCc A) : conT (addC A d l) c = conT A c := by
  unfold conT
  have e1 : sOwn (addC A d l) c = sOwn A c := if_neg (by omega)
  have e2 : sPrt (addC A d l) c = sPrt A c := if_neg (by omega)
  rw [e1, e2]
theorem SigOK_addC {A : SG} {d : Nat} {l : List Nat} (h : SigOK A) (h1 : sCc A < 16) (hd : d < sDc A) (hl : l.length ≤ 2) (hl2 : ∀ e ∈ l, e < sDc A) : SigOK (addC A d l) := by
  refine ⟨h1, h.2.1, fun c hc => ?_⟩
  have hc' : c < sCc A + 1 := hc
  by_cases q : c = sCc A
  · have e1 : sOwn (addC A d l) c = d := if_pos q
    have e2 : sPrt (addC A d l) c = l := if_pos q
    rw [e1, e2]
    exact ⟨hd, hl, hl2⟩
  · have e1 : sOwn (addC A d l) c = sOwn A c := if_neg q
    have e2 : sPrt (addC A d l) c = sPrt A c := if_neg q
    rw [e1, e2]
    exact h.2.2 c (by omega)
def lp (k a b : Nat) : List Nat := if k = 0 then [] else if k = 1 then [a] else [a, b]
theorem enter_con {K : Rows} {n d k a b : Nat} {S : SS} {A : SG} (hw : WF K n) (h : SigC K n S A) (hok : SigOK A) (h1 : sCc A < 16) (hd : d < sDc A) (ha : a < sDc A) (hb : b < sDc A) (hk : k ≤ 2) (hn : n + 5 ≤ 32768) :
    ∃ K' S', g_X7_enterConstructor K S (nz d) (nz k) (nz a) (nz b) 7 = some (nz (sCc A), K', S') ∧ WF K' (n + 1 + 2 * k) ∧ Ext K K' n ∧ SigC K' (n + 1 + 2 * k) S' (addC A d (lp k a b)) ∧ S'.2.2.1 = S.2.2.1 := by
  obtain ⟨s1, s2, s3, s4⟩ := h
  have h6 := hok.2.1
  have hll : (lp k a b).length = k := by
    unfold lp
    match k, hk with
    | 0, _ => rfl
    | 1, _ => rfl
    | 2, _ => rfl
  have hlm : ∀ e ∈ lp k a b, e < sDc A := by
    intro e he
    unfold lp at he
    split at he
    · exact absurd he (List.not_mem_nil)
    · split at he
      · rcases List.mem_cons.mp he with rfl | he
        · exact ha
        · exact absurd he (List.not_mem_nil)
      · rcases List.mem_cons.mp he with rfl | he
        · exact ha
        · rcases List.mem_cons.mp he with rfl | he
          · exact hb
          · exact absurd he (List.not_mem_nil)
  obtain ⟨K1, a1, a2, a3, a4⟩ := leaf_arg (k := 2) (p := d) hw (by omega) (by decide) (by decide) (by omega)
  have hat : ∀ (i e : Nat), (lp k a b)[i]? = some e → (upd (upd (upd S.2.2.2.2.2.1 (sCc A * 3) (nz a)) (sCc A * 3 + 1) (nz b)) (sCc A * 3 + 2) 7) (3 * sCc A + i) = nz e ∧ e < 6 := by
    intro i e he
    have hi : i < k := by
      rcases Nat.lt_or_ge i k with q | q
      · exact q
      · rw [List.getElem?_eq_none (by omega)] at he; cases he
    have hm := hlm e (List.mem_of_getElem? he)
    refine ⟨?_, by omega⟩
    have hk12 : k = 1 ∨ k = 2 := by omega
    rcases hk12 with rfl | rfl
    · have e0 : i = 0 := by omega
      subst e0
      have ee : a = e := by injection he
      subst ee
      exact (if_neg (by omega)).trans ((if_neg (by omega)).trans (if_pos (by omega)))
    · have e0 : i = 0 ∨ i = 1 := by omega
      rcases e0 with rfl | rfl
      · have ee : a = e := by injection he
        subst ee
        exact (if_neg (by omega)).trans ((if_neg (by omega)).trans (if_pos (by omega)))
      · have ee : b = e := by injection he
        subst ee
        exact (if_neg (by omega)).trans (if_pos (by omega))
  have a4' : Rep K1 (n + 1) (conType (((lp k a b).drop k).map dat) (dat d)) n := by
    rw [List.drop_eq_nil_of_le (by omega)]
    exact a4
  obtain ⟨K', j, r1, r2, r3, r4⟩ := ent_loop (c := sCc A) (d := d) (cc := nz (sCc A) + 1) (ow := upd S.2.2.2.1 (sCc A) (nz d)) (pc := upd S.2.2.2.2.1 (sCc A) (nz k)) (tp := S.2.2.2.2.2.2.1) (rk := S.2.2.2.2.2.2.2.1) (cd := S.2.2.2.2.2.2.2.2) h1 (by omega) (by omega) hat k 100000 n K1 (n + 1) (by omega) (by omega) a2 (by omega) a4'
  refine ⟨K', (S.1, nz (sCc A) + 1, S.2.2.1, upd S.2.2.2.1 (sCc A) (nz d), upd S.2.2.2.2.1 (sCc A) (nz k), upd (upd (upd S.2.2.2.2.2.1 (sCc A * 3) (nz a)) (sCc A * 3 + 1) (nz b)) (sCc A * 3 + 2) 7, upd S.2.2.2.2.2.2.1 (sCc A) (nz j), upd S.2.2.2.2.2.2.2.1 (sCc A) (S.2.2.2.2.2.2.2.2 d), upd S.2.2.2.2.2.2.2.2 d (S.2.2.2.2.2.2.2.2 d + 1)), ?_, r2, Ext_trans a3 r3 (Nat.le_succ n), ?_, rfl⟩
  · have e0 : nz (sCc A) * 3 = nz (sCc A * 3) := nz_mul (sCc A) 3
    have e1 : nz (sCc A * 3) + 1 = nz (sCc A * 3 + 1) := nz_add _ 1
    have e2 : nz (sCc A * 3) + 2 = nz (sCc A * 3 + 2) := nz_add _ 2
    unfold g_X7_enterConstructor f_X7_enterConstructor
    rw [s2, e0, e1, e2, if_pos (nz_inb h1 (by decide)), if_pos (nz_inb h1 (by decide)), if_pos (nz_inb (by omega) (by decide)), if_pos (nz_inb (by omega) (by decide)), if_pos (nz_inb (by omega) (by decide)), nz_nat (show sCc A < 2147483648 by omega), nz_nat (show sCc A * 3 < 2147483648 by omega), nz_nat (show sCc A * 3 + 1 < 2147483648 by omega), nz_nat (show sCc A * 3 + 2 < 2147483648 by omega)]
    show Option.map _ ((rLeaf K (nz 2) (nz d)).bind _) = _
    rw [a1, Option.bind_some]
    show Option.map _ (rEnt 100000 (nz (sCc A) + 1) _ _ _ S.2.2.2.2.2.2.1 S.2.2.2.2.2.2.2.1 S.2.2.2.2.2.2.2.2 K1 (nz d) (nz (sCc A)) (nz n) (nz k - 1)) = _
    rw [show nz k - 1 = nz k + (-1) from Int32.sub_eq_add_neg _ _, r1]
    rfl
  · refine ⟨s1, nz_add _ 1, ?_, ?_⟩
    · intro c hc
      have hc' : c < sCc A + 1 := hc
      by_cases q : c = sCc A
      · have e1 : sOwn (addC A d (lp k a b)) c = d := if_pos q
        have e2 : sPrt (addC A d (lp k a b)) c = lp k a b := if_pos q
        have e3 : conT (addC A d (lp k a b)) c = conType ((lp k a b).map dat) (dat d) := by
          unfold conT; rw [e1, e2]
        rw [e1, e2, e3, cntd_addC A d _ d c (by omega), hll]
        subst q
        refine ⟨if_pos rfl, if_pos rfl, fun i e he => (hat i e he).1, (if_pos rfl).trans (s4 d hd), j, if_pos rfl, r4⟩
      · have hlt : c < sCc A := by omega
        have e1 : sOwn (addC A d (lp k a b)) c = sOwn A c := if_neg q
        have e2 : sPrt (addC A d (lp k a b)) c = sPrt A c := if_neg q
        obtain ⟨t1, t2, t3, t4, x, t5, t6⟩ := s3 c hlt
        have hpl := (hok.2.2 c hlt).2.1
        rw [e1, e2, conT_addC A d _ hlt, cntd_addC A d _ _ c (by omega)]
        refine ⟨(if_neg q).trans t1, (if_neg q).trans t2, ?_, (if_neg q).trans t4, x, (if_neg q).trans t5, Rep_ext (Ext_trans a3 r3 (Nat.le_succ n)) (by omega) _ x t6⟩
        intro i e he
        have hi : i < (sPrt A c).length := by
          rcases Nat.lt_or_ge i (sPrt A c).length with w | w
          · exact w
          · rw [List.getElem?_eq_none w] at he; cases he
        exact (if_neg (by omega)).trans ((if_neg (by omega)).trans ((if_neg (by omega)).trans (t3 i e he)))
    · intro e he
      show upd S.2.2.2.2.2.2.2.2 d (S.2.2.2.2.2.2.2.2 d + 1) e = nz (cntd (addC A d (lp k a b)) e (sCc A) + (if sOwn (addC A d (lp k a b)) (sCc A) = e then 1 else 0))
      have e1 : sOwn (addC A d (lp k a b)) (sCc A) = d := if_pos rfl
      rw [cntd_addC A d _ e _ (Nat.le_refl _), e1]
      by_cases q : e = d
      · subst q
        rw [if_pos rfl, s4 e hd]
        exact (if_pos rfl).trans (nz_add _ 1)
      · rw [if_neg (fun w => q w.symm), Nat.add_zero]
        exact (if_neg q).trans (s4 e he)
theorem has_data {K : Rows} {n d : Nat} {S : SS} {A : SG} (h : SigC K n S A) (h6 : sDc A ≤ 6) (hd : d < sDc A) : g_X7_hasData S (nz d) = some 1 := by
  unfold g_X7_hasData f_X7_hasData
  rw [h.1, if_neg (nz_neg (by omega)), if_neg (fun q => absurd ((nz_le (by omega) (by omega)).mp q) (by omega))]
  rfl
theorem was_split {K : Rows} {n d : Nat} {S : SS} {A : SG} (h : SigC K n S A) (h6 : sDc A ≤ 6) (hd : d < sDc A) (h0 : S.2.2.1 d = 0) : g_X7_wasSplit S (nz d) = some 0 := by
  unfold g_X7_wasSplit f_X7_wasSplit f_X7_hasData
  rw [h.1, if_neg (nz_neg (by omega)), if_neg (fun q => absurd ((nz_le (by omega) (by omega)).mp q) (by omega)), Option.bind_some, if_neg (by decide), if_pos (nz_inb (by omega) (by decide)), nz_nat (by omega), h0, if_pos rfl]
  rfl
theorem L_addConstructor {K : Rows} {n d k a b : Nat} {S : SS} {D : DS} {A : SG} (hw : WF K n) (h : SigC K n S A) (hok : SigOK A) (h1 : sCc A < 16) (hd : d < sDc A) (ha : a < sDc A) (hb : b < sDc A) (hk : k ≤ 2) (hn : n + 5 ≤ 32768) (h0 : S.2.2.1 d = 0) (hD : D.2.2 = 0) :
    ∃ K' S', f_L_addConstructor K S D (nz d) (nz k) (nz a) (nz b) 7 = some (nz (sCc A), K', S') ∧ WF K' (n + 1 + 2 * k) ∧ Ext K K' n ∧ SigC K' (n + 1 + 2 * k) S' (addC A d (lp k a b)) ∧ S'.2.2.1 = S.2.2.1 := by
  obtain ⟨K', S', r1, r2, r3, r4, r5⟩ := enter_con hw h hok h1 hd ha hb hk hn
  refine ⟨K', S', ?_, r2, r3, r4, r5⟩
  have h6 := hok.2.1
  have q1 := has_data h h6 hd
  have q2 := has_data h h6 ha
  have q3 := has_data h h6 hb
  have q4 := was_split h h6 hd h0
  have q5 : ¬ (16 : Int32) ≤ S.2.1 := by
    rw [h.2.1]
    exact fun q => absurd ((nz_le (i := 16) (by decide) (by omega)).mp q) (by omega)
  have z : ¬ (1 : Int32) = 0 := by decide
  have e : f_X11_addConstructor K S D (nz d) (nz k) (nz a) (nz b) 7 = some (0, nz (sCc A), K', S') := by
    unfold f_X11_addConstructor
    have hk3 : k = 0 ∨ k = 1 ∨ k = 2 := by omega
    rcases hk3 with rfl | rfl | rfl
    · rw [if_neg (show ¬ nz 0 < (0 : Int32) by decide), if_pos (show nz 0 ≤ (3 : Int32) by decide), q1, Option.bind_some, if_neg z, if_pos (show nz 0 < (1 : Int32) by decide), if_pos (show nz 0 < (2 : Int32) by decide), if_pos (show nz 0 < (3 : Int32) by decide), if_neg q5, q4, Option.bind_some, if_pos rfl, if_pos hD, r1]
      rfl
    · rw [if_neg (show ¬ nz 1 < (0 : Int32) by decide), if_pos (show nz 1 ≤ (3 : Int32) by decide), q1, Option.bind_some, if_neg z, if_neg (show ¬ nz 1 < (1 : Int32) by decide), q2, Option.bind_some, if_neg z, if_pos (show nz 1 < (2 : Int32) by decide), if_pos (show nz 1 < (3 : Int32) by decide), if_neg q5, q4, Option.bind_some, if_pos rfl, if_pos hD, r1]
      rfl
    · rw [if_neg (show ¬ nz 2 < (0 : Int32) by decide), if_pos (show nz 2 ≤ (3 : Int32) by decide), q1, Option.bind_some, if_neg z, if_neg (show ¬ nz 2 < (1 : Int32) by decide), q2, Option.bind_some, if_neg z, if_neg (show ¬ nz 2 < (2 : Int32) by decide), q3, Option.bind_some, if_neg z, if_pos (show nz 2 < (3 : Int32) by decide), if_neg q5, q4, Option.bind_some, if_pos rfl, if_pos hD, r1]
      rfl
  unfold f_L_addConstructor
  rw [e]
  rfl
def addD (A : SG) : SG := (sOwn A, sPrt A, sCc A, sDc A + 1)
theorem cntd_addD (A : SG) (d : Nat) : ∀ k, cntd (addD A) d k = cntd A d k := by
  intro k
  induction k with
  | zero => rfl
  | succ k ih =>
    show cntd (addD A) d k + (if sOwn A k = d then 1 else 0) = cntd A d k + (if sOwn A k = d then 1 else 0)
    rw [ih]
theorem SigOK_addD {A : SG} (h : SigOK A) (h6 : sDc A < 6) : SigOK (addD A) := by
  refine ⟨h.1, h6, fun c hc => ?_⟩
  obtain ⟨a1, a2, a3⟩ := h.2.2 c hc
  refine ⟨?_, a2, fun d hd => ?_⟩
  · show sOwn A c < sDc A + 1
    omega
  · have := a3 d hd
    show d < sDc A + 1
    omega
theorem L_addData {K : Rows} {n : Nat} {S : SS} {A : SG} (h : SigC K n S A) (h6 : sDc A < 6) (h0 : cntd A (sDc A) (sCc A) = 0) (h1 : S.2.2.2.2.2.2.2.2 (sDc A) = 0) : ∃ S', f_L_addData S = some (nz (sDc A), S') ∧ SigC K n S' (addD A) ∧ S'.2.2.1 = S.2.2.1 ∧ S'.2.2.2.2.2.2.2.2 = S.2.2.2.2.2.2.2.2 := by
  obtain ⟨s1, s2, s3, s4⟩ := h
  refine ⟨(nz (sDc A + 1), S.2), ?_, ⟨rfl, s2, fun c hc => by rw [cntd_addD]; exact s3 c hc, ?_⟩, rfl, rfl⟩
  · unfold f_L_addData f_X11_addData g_X7_enterData f_X7_enterData
    rw [if_pos (show S.1 < 6 by rw [s1]; exact (nz_lt (j := 6) (by omega) (by decide)).mpr h6)]
    have e : (nz (sDc A) + 1 : Int32) = nz (sDc A + 1) := nz_add _ 1
    have e2 : (nz (sDc A + 1) - 1 : Int32) = nz (sDc A) := nz_sub (i := sDc A + 1) (j := 1) (by omega)
    rw [s1, e, e2]
    rfl
  · intro e he
    have he' : e < sDc A + 1 := he
    rw [cntd_addD]
    show S.2.2.2.2.2.2.2.2 e = nz (cntd A e (sCc A))
    by_cases q : e = sDc A
    · subst q
      rw [h1, h0]; rfl
    · exact s4 e (by omega)
