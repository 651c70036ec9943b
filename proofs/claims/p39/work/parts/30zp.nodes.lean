/-! laying nodes, and what is asked of them, as the law asks it -/
theorem L_goalState {K : Rows} {n g : Nat} {S : SS} {D : DS} {P : PS} {A : SG} {B : FG} {G : GG} (h : CourtC K n S D P A B G) (ht : CourtT A B G) (hg : g < 1000000) : f_L_goalState D P (nz g) = some (if g < qN G then stW (qS G g) else -3000000) := by
  unfold f_L_goalState f_X11_goalState
  rw [goalAt_ok h.2.2.2.1 ht.2.2.1 hg, Option.bind_some]
  by_cases hlt : g < qN G
  · have hs := (h.2.2.2.2 g hlt).2.2.2.2.2.2.1
    have hb : qN G ≤ 40 := ht.2.2.1
    have hc : chb (stW (qS G g)) = true := by
      unfold stW
      split
      · decide
      · split <;> decide
    rw [if_pos hlt, if_pos (show ((0 : Int32), nz g).1 = 0 from rfl), if_pos (gix_at h.2.2.2.1 ht.2.2.1 hlt), nz_nat (by omega), hs, if_pos hc, Option.bind_some, if_pos (show ((0 : Int32), stW (qS G g)).1 = 0 from rfl), if_pos hlt]
  · rw [if_neg hlt, if_neg (show ¬ ((4 : Int32), (0 : Int32)).1 = 0 by decide), Option.bind_some, if_neg (show ¬ ((4 : Int32), (0 : Int32)).1 = 0 by decide), if_pos (show ((4 : Int32), (0 : Int32)).1 = 4 by decide), if_neg hlt]
theorem L_contextSize {K : Rows} {n g : Nat} {S : SS} {D : DS} {P : PS} {A : SG} {B : FG} {G : GG} (h : CourtC K n S D P A B G) (ht : CourtT A B G) (hg : g < 1000000) : f_L_contextSize D P (nz g) = some (if g < qN G then nz (qC G g).length else -3000000) := by
  unfold f_L_contextSize f_X11_contextSize
  rw [goalAt_ok h.2.2.2.1 ht.2.2.1 hg, Option.bind_some]
  by_cases hlt : g < qN G
  · have hs := (h.2.2.2.2 g hlt).2.2.1.1.1
    have hb : qN G ≤ 40 := ht.2.2.1
    rw [if_pos hlt, if_pos (show ((0 : Int32), nz g).1 = 0 from rfl), if_pos (gix_at h.2.2.2.1 ht.2.2.1 hlt), nz_nat (by omega), hs, Option.bind_some, if_pos (show ((0 : Int32), nz (qC G g).length).1 = 0 from rfl), if_pos hlt]
  · rw [if_neg hlt, if_neg (show ¬ ((4 : Int32), (0 : Int32)).1 = 0 by decide), Option.bind_some, if_neg (show ¬ ((4 : Int32), (0 : Int32)).1 = 0 by decide), if_pos (show ((4 : Int32), (0 : Int32)).1 = 4 by decide), if_neg hlt]
theorem L_openGoals {K : Rows} {n f : Nat} {S : SS} {D : DS} {P : PS} {A : SG} {B : FG} {G : GG} (h : CourtC K n S D P A B G) (ht : CourtT A B G) (hf : f < 1000000) : f_L_openGoals D P (nz f) = some (if f < fFc B then nz (opn G f (qN G)) else -3000000) := by
  unfold f_L_openGoals f_X11_openGoals
  rw [functionAt_ok h.2.2.1.1 ht.2.1.1 hf, Option.bind_some]
  by_cases hlt : f < fFc B
  · rw [if_pos hlt, if_pos (show ((0 : Int32), nz f).1 = 0 from rfl), if_pos (fix_at h.2.2.1.1 ht.2.1.1 hlt), open_ok h ht hf, Option.bind_some, Option.bind_some, if_pos (show ((0 : Int32), nz (opn G f (qN G))).1 = 0 from rfl), if_pos hlt]
  · rw [if_neg hlt, if_neg (show ¬ ((4 : Int32), (0 : Int32)).1 = 0 by decide), Option.bind_some, if_neg (show ¬ ((4 : Int32), (0 : Int32)).1 = 0 by decide), if_pos (show ((4 : Int32), (0 : Int32)).1 = 4 by decide), if_neg hlt]
theorem tel_at {K : Rows} {n m : Nat} {f : Nat → Int32} {Γ : List Tm} (h : Tel K n (nz m) f Γ) (hm : m = Γ.length) {un p : Nat} (hb : Γ.length ≤ 12) (hu : Γ.length ≤ un) (hp : p < Γ.length) : ∃ T j, Γ[Γ.length - 1 - p]? = some T ∧ f_X8_typeAt un (nz m) f (nz p) = some (nz j) ∧ f p = nz j ∧ Rep K n T j := by
  have hlt : Γ.length - 1 - p < Γ.length := by omega
  have e := List.getElem?_eq_getElem hlt
  obtain ⟨j, q1, q2⟩ := h.2 _ _ e
  rw [show Γ.length - 1 - (Γ.length - 1 - p) = p by omega] at q1
  refine ⟨_, j, e, ?_, q1, q2⟩
  have hin : inb (nz p) un = true := by
    unfold inb
    rw [nz_toInt (by omega)]
    exact decide_eq_true (by omega)
  unfold f_X8_typeAt
  rw [if_neg (nz_neg (by omega)), if_neg (fun hq => absurd ((nz_le (by omega) (by omega)).mp hq) (by omega)), if_pos hin, nz_nat (by omega), q1]
theorem ctx_at {K : Rows} {n g p : Nat} {P : PS} {Γ : List Tm} (h : Ctx K n P g Γ) (hg : g < 1000000) (hp : p < Γ.length) : ∃ T j, Γ[Γ.length - 1 - p]? = some T ∧ g_X8_typeAt_g P (nz g) (nz p) = some (nz j) ∧ P.2.2.2.2.2.2.2.2.2.2.2.1 g p = nz j ∧ Rep K n T j := by
  obtain ⟨h1, h2, h3⟩ := h
  have e := h1.1
  rw [e] at h1
  obtain ⟨T, j, q1, q2, q3, q4⟩ := tel_at h1 rfl h3 h2 hp
  refine ⟨T, j, q1, ?_, q3, q4⟩
  unfold g_X8_typeAt_g
  rw [nz_nat (by omega), e]
  exact q2
theorem needPlace_ok {K : Rows} {n g p : Nat} {D : DS} {P : PS} {Γ : List Tm} (h : Ctx K n P g Γ) (hg : g < 1000000) (hp : p < 1000000) : f_X11_needPlace D P (nz g) (nz p) = some (if p < Γ.length then 0 else 3) := by
  obtain ⟨h1, h2, h3⟩ := h
  unfold f_X11_needPlace
  rw [if_neg (nz_neg (by omega)), nz_nat (by omega), h1.1]
  by_cases hlt : p < Γ.length
  · rw [if_pos hlt, if_pos ((nz_lt (by omega) (by omega)).mpr hlt)]
  · rw [if_neg hlt, if_neg (fun hq => hlt ((nz_lt (by omega) (by omega)).mp hq))]
theorem L_contextType {K : Rows} {n g p : Nat} {S : SS} {D : DS} {P : PS} {A : SG} {B : FG} {G : GG} (h : CourtC K n S D P A B G) (ht : CourtT A B G) (hg : g < 1000000) (hp : p < 1000000) :
    (∀ T, g < qN G → (qC G g)[(qC G g).length - 1 - p]? = some T → p < (qC G g).length → f_L_contextType K D P (nz g) (nz p) = some (numT T)) ∧ (g < qN G → (qC G g).length ≤ p → f_L_contextType K D P (nz g) (nz p) = some (-2500000)) ∧ (qN G ≤ g → f_L_contextType K D P (nz g) (nz p) = some (-3000000)) := by
  have hb : qN G ≤ 40 := ht.2.2.1
  unfold f_L_contextType f_X11_contextType
  rw [goalAt_ok h.2.2.2.1 ht.2.2.1 hg, Option.bind_some]
  refine ⟨fun T hlt hT hpl => ?_, fun hlt hpl => ?_, fun hge => ?_⟩
  · obtain ⟨T', j, q1, q2, q3, q4⟩ := ctx_at (h.2.2.2.2 g hlt).2.2.1 hg hpl
    have e : T' = T := by rw [q1] at hT; injection hT
    subst e
    have hj := Rep_lt q4
    rw [if_pos hlt, if_pos (show ((0 : Int32), nz g).1 = 0 from rfl), if_pos (gix_at h.2.2.2.1 ht.2.2.1 hlt), needPlace_ok (h.2.2.2.2 g hlt).2.2.1 hg hp, if_pos hpl, Option.bind_some, if_pos rfl]
    show Option.bind (Option.bind (g_X8_typeAt_g P (nz g) (nz p)) _) _ = _
    rw [q2, Option.bind_some, g_num, rNum_at h.1 hj, Option.bind_some, Option.bind_some, (Rep_calls_loose q4).2.1, if_pos (show ((0 : Int32), numT T').1 = 0 from rfl)]
  · rw [if_pos hlt, if_pos (show ((0 : Int32), nz g).1 = 0 from rfl), if_pos (gix_at h.2.2.2.1 ht.2.2.1 hlt), needPlace_ok (h.2.2.2.2 g hlt).2.2.1 hg hp, if_neg (by omega), Option.bind_some]
    rfl
  · rw [if_neg (show ¬ g < qN G by omega)]
    rfl
theorem L_size {K : Rows} {n m k : Nat} {N : NS} {nt : Nat → Tm} (hw : WF K n) (h : NodeC K n N nt m) (hk : k < 1000000) : (k < m → f_X11_size K N (nz k) = some (0, nz (sizeT (nt k)))) ∧ (m ≤ k → f_L_size K N (nz k) = some (-2500000)) := by
  obtain ⟨t1, t2⟩ := termAt_ok h hk
  refine ⟨fun hlt => ?_, fun hge => ?_⟩
  · obtain ⟨j, q1, q2⟩ := t1 hlt
    unfold f_X11_size
    rw [q1, Option.bind_some, if_pos (show ((0 : Int32), nz j).1 = 0 from rfl), g_size]
    show (rSize K (nz j)).bind _ = _
    rw [rSize_at hw (Rep_lt q2), Option.bind_some, (Rep_calls_loose q2).1]
  · unfold f_L_size f_X11_size
    rw [t2 hge]
    rfl
theorem L_number {K : Rows} {n m k : Nat} {N : NS} {nt : Nat → Tm} (hw : WF K n) (h : NodeC K n N nt m) (hk : k < m) : f_X11_number K N (nz k) = some (0, numT (nt k)) := by
  obtain ⟨t1, t2⟩ := termAt_ok h (show k < 1000000 by have := h.2.1; omega)
  obtain ⟨j, q1, q2⟩ := t1 hk
  unfold f_X11_number
  rw [q1, Option.bind_some, if_pos (show ((0 : Int32), nz j).1 = 0 from rfl), g_num]
  show (rNum K (nz j)).bind _ = _
  rw [rNum_at hw (Rep_lt q2), Option.bind_some, (Rep_calls_loose q2).2.1]
/-- one more node -/
def Laid (o : Option (Int32 × TS × NS)) (K : Rows) (n : Nat) (N : NS) (nt : Nat → Tm) (m : Nat) (t : Tm) : Prop := ∃ K' N', o = some (nz m, K', N') ∧ WF K' (n + 1) ∧ Ext K K' n ∧ NodeC K' (n + 1) N' (up1 nt m t) (m + 1) ∧ N'.2.2 = N.2.2
theorem lay_row {K K' : Rows} {n m : Nat} {N : NS} {nt : Nat → Tm} {t : Tm} (hN : NodeC K n N nt m) (hm : m < 250) (hx : Ext K K' n) (hr : Rep K' (n + 1) t n) (hz : sizeT t ≤ 30) (hf : freeT t ≤ 20) : NodeC K' (n + 1) (upd N.1 m (nz n), nz (m + 1), N.2.2) (up1 nt m t) (m + 1) := by
  refine ⟨rfl, hm, ?_⟩
  intro k hk
  by_cases e : k = m
  · subst e
    rw [up1_eq]
    exact ⟨⟨n, if_pos rfl, hr⟩, hz, hf⟩
  · obtain ⟨⟨j, q1, q2⟩, q3⟩ := (NodeC_ext hN hx (Nat.le_succ n)).2.2 k (by omega)
    rw [up1_ne e]
    exact ⟨⟨j, (if_neg e).trans q1, q2⟩, q3⟩
theorem layLeaf_ok {K : Rows} {n m : Nat} {N : NS} {nt : Nat → Tm} {t : Tm} {p1 p2 : Int32} (hN : NodeC K n N nt m) (hm : m < 250) (hl : ∃ K', rLeaf K p1 p2 = some (nz n, K') ∧ WF K' (n + 1) ∧ Ext K K' n ∧ Rep K' (n + 1) t n) (hz : sizeT t ≤ 30) (hf : freeT t ≤ 20) :
    ∃ K' N', f_X11_layLeaf K N p1 p2 = some (0, nz m, K', N') ∧ WF K' (n + 1) ∧ Ext K K' n ∧ NodeC K' (n + 1) N' (up1 nt m t) (m + 1) ∧ N'.2.2 = N.2.2 := by
  obtain ⟨K', e1, e2, e3, e4⟩ := hl
  refine ⟨K', (upd N.1 m (nz n), nz (m + 1), N.2.2), ?_, e2, e3, lay_row hN hm e3 e4 hz hf, rfl⟩
  have c1 : nz m < 250 := (nz_lt (j := 250) (by omega) (by decide)).mpr hm
  have c2 : nz m + 1 - 1 = nz m := Int32.add_sub_cancel _ _
  unfold f_X11_layLeaf
  rw [hN.1, if_pos c1, g_leaf, e1, Option.bind_some, if_pos (nz_inb hm (by decide)), nz_nat (by omega), c2, show nz m + 1 = nz (m + 1) from nz_add m 1]
theorem L_universe {K : Rows} {n m l : Nat} {N : NS} {nt : Nat → Tm} (hw : WF K n) (hN : NodeC K n N nt m) (hm : m < 250) (hn : n < 32768) (hl : l ≤ 3) : Laid (f_L_universe K N (nz l)) K n N nt m (.arg (8 * l + 0)) := by
  obtain ⟨K', N', e1, e2⟩ := layLeaf_ok (p1 := 0) (p2 := nz l) (t := .arg (8 * l + 0)) hN hm (leaf_arg (k := 0) (p := l) hw hn (by decide) (by decide) (by omega)) (by show 1 ≤ 30; omega) (Nat.zero_le _)
  refine ⟨K', N', ?_, e2⟩
  unfold f_L_universe f_X11_universe
  rw [if_neg (nz_neg (by omega)), if_pos (show nz l ≤ (3 : Int32) from (nz_le (j := 3) (by omega) (by decide)).mpr hl), e1]
  rfl
theorem L_variable {K : Rows} {n m l : Nat} {N : NS} {nt : Nat → Tm} (hw : WF K n) (hN : NodeC K n N nt m) (hm : m < 250) (hn : n < 32768) (hl : l ≤ 15) : Laid (f_L_variable K N (nz l)) K n N nt m (.index l) := by
  obtain ⟨K', N', e1, e2⟩ := layLeaf_ok (p1 := 1) (p2 := nz l) (t := .index l) hN hm (leaf_var hw hn (by omega)) (by show 1 ≤ 30; omega) (by show l + 1 ≤ 20; omega)
  refine ⟨K', N', ?_, e2⟩
  unfold f_L_variable f_X11_variable
  rw [if_neg (nz_neg (by omega)), if_pos (show nz l ≤ (15 : Int32) from (nz_le (j := 15) (by omega) (by decide)).mpr hl), e1]
  rfl
theorem L_dataNode {K : Rows} {n m d : Nat} {N : NS} {S : SS} {A : SG} {nt : Nat → Tm} (hw : WF K n) (hS : SigC K n S A) (hN : NodeC K n N nt m) (hm : m < 250) (hn : n < 32768) (hd : d < sDc A) (hd6 : sDc A ≤ 6) : Laid (f_L_dataNode K S N (nz d)) K n N nt m (dat d) := by
  obtain ⟨K', N', e1, e2⟩ := layLeaf_ok (p1 := 2) (p2 := nz d) (t := dat d) hN hm (leaf_arg (k := 2) (p := d) hw hn (by decide) (by decide) (by omega)) (by show 1 ≤ 30; omega) (Nat.zero_le _)
  refine ⟨K', N', ?_, e2⟩
  unfold f_L_dataNode f_X11_dataNode g_X7_hasData f_X7_hasData
  rw [map_same, if_neg (nz_neg (by omega)), hS.1, if_neg (fun hq => absurd ((nz_le (by omega) (by omega)).mp hq) (by omega)), Option.bind_some, if_neg (by decide), e1]
  rfl
theorem L_constructorNode {K : Rows} {n m c : Nat} {N : NS} {S : SS} {A : SG} {nt : Nat → Tm} (hw : WF K n) (hS : SigC K n S A) (hN : NodeC K n N nt m) (hm : m < 250) (hn : n < 32768) (hc : c < sCc A) (hc6 : sCc A ≤ 16) : Laid (f_L_constructorNode K S N (nz c)) K n N nt m (cn c) := by
  obtain ⟨K', N', e1, e2⟩ := layLeaf_ok (p1 := 3) (p2 := nz c) (t := cn c) hN hm (leaf_arg (k := 3) (p := c) hw hn (by decide) (by decide) (by omega)) (by show 1 ≤ 30; omega) (Nat.zero_le _)
  refine ⟨K', N', ?_, e2⟩
  unfold f_L_constructorNode f_X11_constructorNode g_X7_hasConstructor f_X7_hasConstructor
  rw [map_same, if_neg (nz_neg (by omega)), hS.2.1, if_neg (fun hq => absurd ((nz_le (by omega) (by omega)).mp hq) (by omega)), Option.bind_some, if_neg (by decide), e1]
  rfl
theorem L_functionNode {K : Rows} {n m f fc : Nat} {N : NS} {D : DS} {nt : Nat → Tm} (hw : WF K n) (hD : D.1 = nz fc) (h8 : fc ≤ 8) (hN : NodeC K n N nt m) (hm : m < 250) (hn : n < 32768) (hf : f < fc) : Laid (f_L_functionNode K D N (nz f)) K n N nt m (fnn f) := by
  obtain ⟨K', N', e1, e2⟩ := layLeaf_ok (p1 := 4) (p2 := nz f) (t := fnn f) hN hm (leaf_arg (k := 4) (p := f) hw hn (by decide) (by decide) (by omega)) (by show 1 ≤ 30; omega) (Nat.zero_le _)
  refine ⟨K', N', ?_, e2⟩
  unfold f_L_functionNode f_X11_functionNode
  rw [functionAt_ok hD h8 (by omega), if_pos hf, Option.bind_some, if_pos (show ((0 : Int32), nz f).1 = 0 from rfl), if_pos (fix_at hD h8 hf), e1]
  rfl
theorem layPair_ok {K : Rows} {n m i j k : Nat} {N : NS} {nt : Nat → Tm} (hw : WF K n) (hN : NodeC K n N nt m) (hm : m < 250) (hn : n < 32768) (hk5 : 5 ≤ k) (hk : k < 8) (hi : i < m) (hj : j < m) :
    (1 + sizeT (nt i) + sizeT (nt j) ≤ 30 → ∃ K' N', f_X11_layPair K N (nz k) (nz i) (nz j) = some (0, nz m, K', N') ∧ WF K' (n + 1) ∧ Ext K K' n ∧ NodeC K' (n + 1) N' (up1 nt m (mkT k (nt i) (nt j))) (m + 1) ∧ N'.2.2 = N.2.2) ∧
    (30 < 1 + sizeT (nt i) + sizeT (nt j) → f_X11_layPair K N (nz k) (nz i) (nz j) = some (2, 0, K, N)) := by
  obtain ⟨a, a1, a2⟩ := (termAt_ok hN (show i < 1000000 by omega)).1 hi
  obtain ⟨b, b1, b2⟩ := (termAt_ok hN (show j < 1000000 by omega)).1 hj
  have za := (hN.2.2 i hi).2
  have zb := (hN.2.2 j hj).2
  have c1 : ¬ (250 : Int32) ≤ nz m := fun hq => absurd ((nz_le (i := 250) (by decide) (by omega)).mp hq) (by omega)
  have st : f_X11_layPair K N (nz k) (nz i) (nz j) = (if nz (1 + sizeT (nt i) + sizeT (nt j)) ≤ 30 then (Option.bind (rPair K (nz k) (nz a) (nz b)) (fun q_9 => (if inb (nz m) 250 = true then some (0, ((nz m + (1 : Int32)) - (1 : Int32)), q_9.2, ((upd N.1 (Int32.toNatClampNeg (nz m)) q_9.1), (nz m + (1 : Int32)), N.2.2)) else none))) else some (2, 0, K, N)) := by
    unfold f_X11_layPair
    rw [a1, Option.bind_some, if_pos (show ((0 : Int32), nz a).1 = 0 from rfl), b1, Option.bind_some, if_pos (show ((0 : Int32), nz b).1 = 0 from rfl), hN.1, if_neg c1, g_size, g_size]
    show (rSize K (nz a)).bind (fun q_6 => (rSize K (nz b)).bind (fun q_7 => _)) = _
    rw [rSize_at hw (Rep_lt a2), Option.bind_some, rSize_at hw (Rep_lt b2), Option.bind_some, (Rep_calls_loose a2).1, (Rep_calls_loose b2).1, show (1 : Int32) + nz (sizeT (nt i)) + nz (sizeT (nt j)) = nz (1 + sizeT (nt i) + sizeT (nt j)) by rw [show (1 : Int32) = nz 1 from rfl, nz_add, nz_add]]
    rw [g_pair]
  refine ⟨fun hs => ?_, fun hs => ?_⟩
  · obtain ⟨K', e1, e2, e3, e4⟩ := pair_tree hw hn hk5 hk a2 b2 (by omega)
    refine ⟨K', (upd N.1 m (nz n), nz (m + 1), N.2.2), ?_, e2, e3, lay_row hN hm e3 e4 (by rw [mkT_size]; exact hs) ?_, rfl⟩
    · rw [st, if_pos (show nz _ ≤ (30 : Int32) from (nz_le (j := 30) (by omega) (by decide)).mpr hs), e1, Option.bind_some, if_pos (nz_inb hm (by decide)), nz_nat (by omega), show nz m + 1 - 1 = nz m from Int32.add_sub_cancel _ _, show nz m + 1 = nz (m + 1) from nz_add m 1]
    · have : freeT (mkT k (nt i) (nt j)) ≤ max (freeT (nt i)) (freeT (nt j)) := by
        unfold mkT
        split
        · show max (freeT (nt i)) (freeT (nt j) - 1) ≤ _; omega
        · show max (freeT (nt i)) (freeT (nt j) - 1) ≤ _; omega
        · exact Nat.le_refl _
      omega
  · rw [st, if_neg (show ¬ nz _ ≤ (30 : Int32) from fun hq => absurd ((nz_le (j := 30) (by omega) (by decide)).mp hq) (by omega))]
theorem L_functions {K : Rows} {n m i j : Nat} {N : NS} {nt : Nat → Tm} (hw : WF K n) (hN : NodeC K n N nt m) (hm : m < 250) (hn : n < 32768) (hi : i < m) (hj : j < m) :
    (1 + sizeT (nt i) + sizeT (nt j) ≤ 30 → Laid (f_L_functions K N (nz i) (nz j)) K n N nt m (.add (nt i) (nt j))) ∧ (30 < 1 + sizeT (nt i) + sizeT (nt j) → f_L_functions K N (nz i) (nz j) = some (-1000000, K, N)) := by
  obtain ⟨h1, h2⟩ := layPair_ok (k := 5) hw hN hm hn (by decide) (by decide) hi hj
  refine ⟨fun hs => ?_, fun hs => ?_⟩
  · obtain ⟨K', N', e1, e2⟩ := h1 hs
    refine ⟨K', N', ?_, e2⟩
    have e1' : f_X11_layPair K N 5 (nz i) (nz j) = some (0, nz m, K', N') := e1
    unfold f_L_functions f_X11_functions
    rw [e1']
    rfl
  · have e1' : f_X11_layPair K N 5 (nz i) (nz j) = some (2, 0, K, N) := h2 hs
    unfold f_L_functions f_X11_functions
    rw [e1']
    rfl
theorem L_lambda {K : Rows} {n m i j : Nat} {N : NS} {nt : Nat → Tm} (hw : WF K n) (hN : NodeC K n N nt m) (hm : m < 250) (hn : n < 32768) (hi : i < m) (hj : j < m) :
    (1 + sizeT (nt i) + sizeT (nt j) ≤ 30 → Laid (f_L_lambda K N (nz i) (nz j)) K n N nt m (.sub (nt i) (nt j))) ∧ (30 < 1 + sizeT (nt i) + sizeT (nt j) → f_L_lambda K N (nz i) (nz j) = some (-1000000, K, N)) := by
  obtain ⟨h1, h2⟩ := layPair_ok (k := 6) hw hN hm hn (by decide) (by decide) hi hj
  refine ⟨fun hs => ?_, fun hs => ?_⟩
  · obtain ⟨K', N', e1, e2⟩ := h1 hs
    refine ⟨K', N', ?_, e2⟩
    have e1' : f_X11_layPair K N 6 (nz i) (nz j) = some (0, nz m, K', N') := e1
    unfold f_L_lambda f_X11_lambda
    rw [e1']
    rfl
  · have e1' : f_X11_layPair K N 6 (nz i) (nz j) = some (2, 0, K, N) := h2 hs
    unfold f_L_lambda f_X11_lambda
    rw [e1']
    rfl
theorem L_apply {K : Rows} {n m i j : Nat} {N : NS} {nt : Nat → Tm} (hw : WF K n) (hN : NodeC K n N nt m) (hm : m < 250) (hn : n < 32768) (hi : i < m) (hj : j < m) :
    (1 + sizeT (nt i) + sizeT (nt j) ≤ 30 → Laid (f_L_apply K N (nz i) (nz j)) K n N nt m (.mul (nt i) (nt j))) ∧ (30 < 1 + sizeT (nt i) + sizeT (nt j) → f_L_apply K N (nz i) (nz j) = some (-1000000, K, N)) := by
  obtain ⟨h1, h2⟩ := layPair_ok (k := 7) hw hN hm hn (by decide) (by decide) hi hj
  refine ⟨fun hs => ?_, fun hs => ?_⟩
  · obtain ⟨K', N', e1, e2⟩ := h1 hs
    refine ⟨K', N', ?_, e2⟩
    have e1' : f_X11_layPair K N 7 (nz i) (nz j) = some (0, nz m, K', N') := e1
    unfold f_L_apply f_X11_apply
    rw [e1']
    rfl
  · have e1' : f_X11_layPair K N 7 (nz i) (nz j) = some (2, 0, K, N) := h2 hs
    unfold f_L_apply f_X11_apply
    rw [e1']
    rfl
