/-! split -/
theorem opn_upd {G G' : GG} {f g0 Nn : Nat} (hF : ∀ k, k < Nn → qF G' k = qF G k) (hS : ∀ k, k < Nn → k ≠ g0 → qS G' k = qS G k) (h0 : qF G g0 = f) (hs0 : qS G g0 = 0) (hs1 : qS G' g0 ≠ 0) : ∀ k, k ≤ Nn → opn G' f k + (if g0 < k then 1 else 0) = opn G f k := by
  intro k
  induction k with
  | zero => intro _; rfl
  | succ k ih =>
    intro hk
    have e := ih (by omega)
    have e1 : opn G' f (k + 1) = opn G' f k + (if qF G' k = f ∧ qS G' k = 0 then 1 else 0) := rfl
    have e2 : opn G f (k + 1) = opn G f k + (if qF G k = f ∧ qS G k = 0 then 1 else 0) := rfl
    rw [e1, e2, hF k (by omega)]
    by_cases q : k = g0
    · subst q
      rw [if_neg (fun w => hs1 w.2), if_pos (show k < k + 1 from Nat.lt_succ_self k), if_pos (show qF G k = f ∧ qS G k = 0 from ⟨h0, hs0⟩)]
      rw [if_neg (Nat.lt_irrefl k)] at e
      omega
    · rw [hS k (by omega) q]
      by_cases w : g0 < k
      · rw [if_pos w] at e
        rw [if_pos (show g0 < k + 1 by omega)]
        omega
      · rw [if_neg w] at e
        rw [if_neg (show ¬ g0 < k + 1 by omega)]
        omega
theorem opn_new {G' : GG} {f q0 : Nat} : ∀ j, (∀ i, i < j → qF G' (q0 + i) = f ∧ qS G' (q0 + i) = 0) → opn G' f (q0 + j) = opn G' f q0 + j := by
  intro j
  induction j with
  | zero => intro _; rfl
  | succ j ih =>
    intro h
    show opn G' f (q0 + j) + (if qF G' (q0 + j) = f ∧ qS G' (q0 + j) = 0 then 1 else 0) = opn G' f q0 + (j + 1)
    rw [ih (fun i hi => h i (by omega)), if_pos (h j (Nat.lt_succ_self j))]
    omega
theorem DtB_spine {v : Nat} : ∀ (l : List Tm) (h : Tm), DtB v h → (∀ a ∈ l, DtB v a) → DtB v (spine h l)
  | [], h, hh, _ => hh
  | a :: l, h, hh, hl => DtB_spine l (.mul h a) ⟨hh, hl a (List.mem_cons_self)⟩ (fun b hb => hl b (List.mem_cons_of_mem _ hb))
theorem DtB_argv {v : Nat} : ∀ (m x : Nat), ∀ a ∈ argv m x, DtB v a
  | 0, x, a, h => absurd h (List.not_mem_nil)
  | m + 1, x, a, h => by
    rcases List.mem_cons.mp h with rfl | h
    · trivial
    · exact DtB_argv m x a h
theorem DtB_thS {v x m c : Nat} (k : Nat) : DtB v (thS x m (cn c) k) := by
  unfold thS
  split
  · trivial
  · split
    · refine DtB_spine _ _ ?_ (DtB_argv m x)
      show (8 * c + 3) % 8 = 2 → (8 * c + 3) / 8 < v
      omega
    · trivial
theorem DtB_child {v : Nat} {Γ Γ' : List Tm} {pl c : Nat} {l : List Tm} (h : ChildL Γ Γ' pl (cn c) l) (hΓ : ∀ T ∈ Γ, DtB v T) (hl : ∀ T ∈ l, DtB v T) : ∀ T ∈ Γ', DtB v T := by
  obtain ⟨outs, rfl, h1, h2⟩ := h
  intro T hT
  rcases List.mem_append.mp (List.mem_reverse.mp hT) with q | q
  · exact hΓ T (List.mem_reverse.mp (List.mem_of_mem_take q))
  · rcases List.mem_append.mp q with q | q
    · exact hl T q
    · obtain ⟨j, hj⟩ := List.getElem?_of_mem q
      have hjl : j < outs.length := by
        rcases Nat.lt_or_ge j outs.length with w | w
        · exact w
        · rw [List.getElem?_eq_none w] at hj; cases hj
      have ho : (Γ.reverse.drop (pl + 1))[j]? = some (Γ.reverse.drop (pl + 1))[j] := List.getElem?_eq_getElem (by omega)
      exact DtB_nf (DtB_sbs _ _ (hΓ _ (List.mem_reverse.mp (List.mem_of_mem_drop (List.mem_of_getElem? ho)))) DtB_thS) (h2 j _ T ho hj)
theorem MainI_spl {K K' : TS} {n n' : Nat} {S S' : SS} {D D' : DS} {P P' : PS} {A : SG} {B : FG} {G : GG} {N : NS} {nt : Nat → Tm} {m g pl d : Nat} {f1 f2 f3 f3' : IA} {v2 : Nat} {Cf : Nat → List Tm} {Tf : Nat → Tm} (h : MainI K n S D P A B G N nt m f1 f2 f3 v2) (hg : g < qN G) (hs : qS G g = 0) (hch : ∀ c, c < sCc A → sOwn A c = d → ChildL (qC G g) (Cf c) pl (cn c) ((sPrt A c).map dat)) (hx : Ext K K' n) (hn : n ≤ n') (hD : D'.2.2 = D.2.2)
    (hC : CourtC K' n' S' D' P' A B (splG A G g pl d Cf Tf)) (hT : CourtT A B (splG A G g pl d Cf Tf)) (hf3 : ∀ g', g' < qN G + cntd A d (sCc A) → f3' g' = nz (qF (splG A G g pl d Cf Tf) g')) : MainI K' n' S' D' P' A B (splG A G g pl d Cf Tf) N nt m f1 f2 f3' v2 := by
  obtain ⟨h1, h2, h3, h4, h5, h6, h7, h9, h10, h11, h12⟩ := h
  refine ⟨hC, hT, NodeC_ext h3 hx hn, h4, h5, ?_, h7, h9, h10, hf3, ?_⟩
  · rw [hD]
    have q := h2.2.2.2.1 g hg
    exact AccOK_spl h6 (AccOK_open h6 (by have := h2.2.1.1; have := q.1; omega) hg hs)
  · intro g' hg' T hT'
    have hg2 : g' < qN G + cntd A d (sCc A) := hg'
    have hT2 : T ∈ (if g' < qN G then qC G g' else Cf (conOf A d (g' - qN G) (sCc A))) := hT'
    by_cases q : g' < qN G
    · rw [if_pos q] at hT2
      exact h12 g' q T hT2
    · rw [if_neg q] at hT2
      obtain ⟨k1, k2, k3⟩ := conOf_ok (A := A) (d := d) (r := g' - qN G) (sCc A) (by omega)
      refine DtB_child (hch _ k1 k2) (h12 g hg) ?_ T hT2
      intro X hX
      obtain ⟨e, e1, rfl⟩ := List.mem_map.mp hX
      exact DtB_dat (by have := (h2.1.2.2 _ k1).2.2 e e1; omega)
theorem cut962_end {xs : IA} {L fu kc ks : Nat} {K : TS} {F : FS} {U : US} {S : SS} {D : DS} {R : RS} {M : MS} {N : NS} {P : PS} {f1 f2 f3 : IA} {v2 v4 v5 v6 v13 v14 vg r i : Int32} {w : Int64} (hr : r ≤ i) (hc : 3 ≤ kc) (hs : 18 ≤ ks)
    (h13 : LM xs L fu 13 (kc - 3) (ks - 18) K F U S D R M N P f1 f2 f3 v2 v4 v5 v6 v13 v14 0 0 0 0 0 0 w = some 1) : f_law_L xs L (fu + 1) 11 kc ks K F U S D R M N P f1 f2 f3 v2 0 v4 v5 v6 0 0 0 0 0 0 v13 v14 0 0 vg 0 0 0 0 0 r i 0 w = some 1 := by
  show f_law_962 (f_law_L xs L fu) xs L kc ks K F U S D R M N P f1 f2 f3 v2 0 v4 v5 v6 0 0 0 0 0 0 v13 v14 0 0 vg 0 0 0 0 0 r i 0 w = some 1
  unfold f_law_962
  rw [if_pos ⟨hc, hs⟩, if_pos hr]
  exact h13
theorem cut962_loop {xs : IA} {L fl cl sl : Nat} {K : TS} {n : Nat} {F : FS} {U : US} {S : SS} {D : DS} {R : RS} {M : MS} {N : NS} {P : PS} {A : SG} {B : FG} {G : GG} {f1 f2 : IA} {v2 v4 v6 v13 v14 : Int32} {w : Int64} {g q0 c : Nat} (hC : CourtC K n S D P A B G) (hT : CourtT A B G) (hN : qN G = q0 + c) (hg : g < q0) (hlen : 1 ≤ (qC G g).length) (hnew : ∀ j, j < c → qS G (q0 + j) = 0 ∧ (qC G g).length - 1 ≤ (qC G (q0 + j)).length ∧ qF G (q0 + j) = qF G g)
    (h13 : ∀ (fu kc ks : Nat) (f3 : IA), fl ≤ fu → cl ≤ kc → sl ≤ ks → (∀ g', g' < qN G → f3 g' = nz (qF G g')) → LM xs L fu 13 kc ks K F U S D R M N P f1 f2 f3 v2 v4 (nz (qN G)) v6 v13 v14 0 0 0 0 0 0 w = some 1) :
    ∀ (r fu kc ks i : Nat) (f3 : IA), i + r = c → fl + r + 1 ≤ fu → cl + 3 * (r + 1) ≤ kc → sl + 18 * (r + 1) ≤ ks → (∀ g', g' < q0 + i → f3 g' = nz (qF G g')) → f_law_L xs L fu 11 kc ks K F U S D R M N P f1 f2 f3 v2 0 v4 (nz (q0 + i)) v6 0 0 0 0 0 0 v13 v14 0 0 (nz g) 0 0 0 0 0 (nz c) (nz i) 0 w = some 1 := by
  have h40 := hT.2.2.1
  have h12 : (qC G g).length ≤ 12 := (hT.2.2.2.1 g (by omega)).2.1
  intro r
  induction r with
  | zero =>
    intro fu kc ks i f3 hi hf hc hs h3
    obtain ⟨fu, rfl⟩ : ∃ e, fu = e + 1 := ⟨fu - 1, by omega⟩
    have e : q0 + i = qN G := by omega
    rw [e]
    exact cut962_end ((nz_le (by omega) (by omega)).mpr (by omega)) (by omega) (by omega) (h13 fu _ _ f3 (by omega) (by omega) (by omega) (by rw [← e]; exact h3))
  | succ r ih =>
    intro fu kc ks i f3 hi hf hc hs h3
    obtain ⟨fu, rfl⟩ : ∃ e, fu = e + 1 := ⟨fu - 1, by omega⟩
    obtain ⟨n1, n2, n3⟩ := hnew i (by omega)
    have hl2 : (qC G (q0 + i)).length ≤ 12 := (hT.2.2.2.1 (q0 + i) (by omega)).2.1
    have nx := ih fu (kc - 3) (ks - 18) (i + 1) (upd f3 (q0 + i) (f3 g)) (by omega) (by omega) (by omega) (by omega) (by
      intro g' hg'
      by_cases q : g' = q0 + i
      · rw [q, upd_at, h3 g (by omega), n3]
      · rw [upd_ne q]; exact h3 g' (by omega))
    show f_law_962 (f_law_L xs L fu) xs L kc ks K F U S D R M N P f1 f2 f3 v2 0 v4 (nz (q0 + i)) v6 0 0 0 0 0 0 v13 v14 0 0 (nz g) 0 0 0 0 0 (nz c) (nz i) 0 w = some 1
    unfold f_law_962
    rw [if_pos ⟨by omega, by omega⟩, if_neg (fun w => absurd ((nz_le (by omega) (by omega)).mp w) (by omega)), if_pos (nz_inb (by omega) (by decide)), if_pos (nz_inb (by omega) (by decide)), nz_nat (show q0 + i < 2147483648 by omega), nz_nat (show g < 2147483648 by omega), show nz (q0 + i) + 1 = nz (q0 + (i + 1)) from nz_add (q0 + i) 1, show nz i + 1 = nz (i + 1) from nz_add i 1, L_goalState hC hT (by omega), if_pos (show q0 + i < qN G by omega), n1, Option.bind_some, if_pos (show stW 0 = 111 from rfl), L_contextSize hC hT (by omega), if_pos (show q0 + i < qN G by omega), Option.bind_some, L_contextSize hC hT (by omega), if_pos (show g < qN G by omega), Option.bind_some, show nz (qC G g).length - (1 : Int32) = nz ((qC G g).length - 1) from nz_sub (j := 1) hlen, if_pos ((nz_le (by omega) (by omega)).mpr n2)]
    exact nx
