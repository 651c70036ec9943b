/-! declare -/
theorem DtB_doms {v : Nat} : ∀ (l : List Tm) (R : Tm), DtB v (conType l R) → ∀ T ∈ l, DtB v T
  | [], R, _, T, hT => absurd hT (List.not_mem_nil)
  | a :: l, R, h, T, hT => by
    rcases List.mem_cons.mp hT with rfl | hT
    · exact h.1
    · exact DtB_doms l R h.2 T hT
theorem upd_at (f : IA) (i : Nat) (v : Int32) : upd f i v i = v := if_pos rfl
theorem upd_ne {f : IA} {i j : Nat} {v : Int32} (h : j ≠ i) : upd f i v j = f j := if_neg h
theorem MainI_decl {K K' : TS} {n n' : Nat} {S : SS} {D D' : DS} {P P' : PS} {A : SG} {B : FG} {G : GG} {N : NS} {nt : Nat → Tm} {m a : Nat} {f1 f2 f3 : IA} {v2 : Nat} {l : List Tm} {Rr : Tm} (h : MainI K n S D P A B G N nt m f1 f2 f3 v2) (ha : a < m) (hnf : nf (nt a) = some (conType l Rr)) (hx : Ext K K' n) (hn : n ≤ n') (hD : D'.2.2 = D.2.2) (h8 : fFc B < 8)
    (hC : CourtC K' n' S D' P' A (decB B (conType l Rr) l.length (qN G)) (decG G (fFc B) l Rr)) (hT : CourtT A (decB B (conType l Rr) l.length (qN G)) (decG G (fFc B) l Rr)) : MainI K' n' S D' P' A (decB B (conType l Rr) l.length (qN G)) (decG G (fFc B) l Rr) N nt m f1 f2 (upd f3 (qN G) (nz (fFc B))) v2 := by
  obtain ⟨h1, h2, h3, h4, h5, h6, h7, h9, h10, h11, h12⟩ := h
  have hu : DtB v2 (conType l Rr) := DtB_nf (h4 a ha) hnf
  refine ⟨hC, hT, NodeC_ext h3 hx hn, h4, ?_, ?_, h7, h9, h10, ?_, ?_⟩
  · intro f hf
    have hf' : f < fFc B + 1 := hf
    show DtB v2 (up1 (fTy B) (fFc B) (conType l Rr) f)
    by_cases q : f = fFc B
    · rw [q, up1_eq]; exact hu
    · rw [up1_ne q]; exact h5 f (by omega)
  · rw [hD]
    exact AccOK_dec h6 h8
  · intro g hg
    have hg' : g < qN G + 1 := hg
    show _ = nz (up1 (qF G) (qN G) (fFc B) g)
    by_cases q : g = qN G
    · rw [q, up1_eq, upd_at]
    · rw [up1_ne q, upd_ne q]; exact h11 g (by omega)
  · intro g hg T hT
    have hg' : g < qN G + 1 := hg
    have hT' : T ∈ up1 (qC G) (qN G) l.reverse g := hT
    by_cases q : g = qN G
    · rw [q, up1_eq] at hT'
      exact DtB_doms l Rr hu T (List.mem_reverse.mp hT')
    · rw [up1_ne q] at hT'
      exact h12 g (by omega) T hT'
theorem cut740_no {xs : IA} {L fu kc ks : Nat} {K : TS} {F : FS} {U : US} {S : SS} {D : DS} {R : RS} {M : MS} {N : NS} {P : PS} {f1 f2 f3 : IA} {v2 v4 v5 v6 v13 v14 va r : Int32} {w : Int64} (hr : ¬ r = v6) (hc : 8 ≤ kc) (hs : 48 ≤ ks)
    (h13 : LM xs L fu 13 (kc - 8) (ks - 48) K F U S D R M N P f1 f2 f3 v2 v4 v5 v6 v13 v14 0 0 0 0 0 0 w = some 1) : f_law_L xs L (fu + 1) 9 kc ks K F U S D R M N P f1 f2 f3 v2 0 v4 v5 v6 0 0 0 0 0 0 v13 v14 va 0 0 0 0 r 0 0 0 0 0 w = some 1 := by
  show f_law_740 (f_law_L xs L fu) xs L kc ks K F U S D R M N P f1 f2 f3 v2 0 v4 v5 v6 0 0 0 0 0 0 v13 v14 va 0 0 0 0 r 0 0 0 0 0 w = some 1
  unfold f_law_740
  rw [if_pos ⟨hc, hs⟩, if_neg hr]
  exact h13
theorem cut740_yes {xs : IA} {L fu kc ks : Nat} {K : TS} {n : Nat} {F : FS} {U : US} {S : SS} {D : DS} {R : RS} {M : MS} {N : NS} {P : PS} {A : SG} {B : FG} {G : GG} {nt : Nat → Tm} {m a gc fc : Nat} {f1 f2 f3 : IA} {v2 : Nat} {v13 v14 : Int32} {w : Int64} {u : Tm} (h : MainI K n S D P A B G N nt m f1 f2 (upd f3 gc (nz fc)) v2) (ha : a < m) (hm : m < 249) (hn : n + 8200 ≤ 32768) (hB : fFc B = fc + 1) (hG : qN G = gc + 1) (hu : fTy B fc = u) (hnf : nf (nt a) = some u) (hc : 8 ≤ kc) (hs : 48 ≤ ks)
    (h13 : ∀ (K' : TS) (N' : NS) (F' : FS) (U' : US), N'.2.2 = N.2.2 → MainI K' (n + 1) S D P A B G N' (up1 nt m (fnn fc)) (m + 1) f1 f2 (upd f3 gc (nz fc)) v2 → LM xs L fu 13 (kc - 8) (ks - 48) K' F' U' S D R M N' P f1 f2 (upd f3 gc (nz fc)) (nz v2) (nz (m + 1)) (nz (gc + 1)) (nz (fc + 1)) v13 v14 0 0 0 0 0 0 w = some 1) :
    f_law_L xs L (fu + 2) 9 kc ks K F U S D R M N P f1 f2 f3 (nz v2) 0 (nz m) (nz gc) (nz fc) 0 0 0 0 0 0 v13 v14 (nz a) 0 0 0 0 (nz fc) 0 0 0 0 0 w = some 1 := by
  have h8 := h.2.1.2.1.1
  have h40 := h.2.1.2.2.1
  obtain ⟨z80, lo, -⟩ := nfT_some 21 _ _ hnf
  obtain ⟨K', N', e1, e5, hI⟩ := MainI_lay h (L_functionNode (f := fc) h.1.1 h.1.2.2.1.1 h8 h.2.2.1 (by omega) (by omega) (by omega)) (show (8 * fc + 4) % 8 = 2 → (8 * fc + 4) / 8 < v2 by omega)
  have ety : (tyT (tbl A B) (up1 nt m (fnn fc) m) []).bind nf = some u := by
    have e : tyT (tbl A B) (fnn fc) [] = some u := by
      show (if (8 * fc + 4) % 8 = 0 then _ else if (8 * fc + 4) % 8 = 2 then _ else if (8 * fc + 4) % 8 = 1 then _ else tbl A B (8 * fc + 4)) = _
      rw [if_neg (by omega), if_neg (by omega), if_neg (by omega), tbl_fun (by omega), hu]
    rw [up1_eq, e]
    exact nf_self z80 lo
  have enf : nf (up1 nt m (fnn fc) a) = some u := by rw [up1_ne (by omega)]; exact hnf
  obtain ⟨K2, F2, U2, a1, a2, a3⟩ := L_typeOf hI.1 hI.2.1 hI.2.2.1 (Nat.lt_succ_self m) (by omega) F U
  have h2 := MainI_ext hI a2 a3
  obtain ⟨K3, F3, b1, b2, b3⟩ := L_normal h2.1.1 h2.2.2.1 (show a < m + 1 by omega) (by omega) F2
  have h3 := MainI_ext h2 b2 b3
  obtain ⟨K4, F4, U4, r, c1, c2, c3, c4, c5⟩ := X_isOf h3.1 h3.2.1 h3.2.2.1 (Nat.lt_succ_self m) (show a < m + 1 by omega) (by omega) F3 U2
  have h4 := MainI_ext h3 c2 c3
  have hr : ¬ r = 0 := c5.mpr ⟨u, ety, enf⟩
  have fin := h13 K4 N' F4 U4 e5 h4
  rw [ety] at a1
  rw [enf] at b1
  show f_law_740 (f_law_L xs L (fu + 1)) xs L kc ks K F U S D R M N P f1 f2 f3 (nz v2) 0 (nz m) (nz gc) (nz fc) 0 0 0 0 0 0 v13 v14 (nz a) 0 0 0 0 (nz fc) 0 0 0 0 0 w = some 1
  unfold f_law_740
  rw [if_pos ⟨hc, hs⟩, if_pos rfl, if_pos (nz_inb (by omega) (by decide)), nz_nat (show gc < 2147483648 by omega), show nz gc + 1 = nz (gc + 1) from nz_add gc 1, show nz fc + 1 = nz (fc + 1) from nz_add fc 1, e1, Option.bind_some, if_neg (show ¬ nz m = 250 from nz_ne (c := 250) (by omega) (by decide) (by omega)), if_pos (show ((nz m, K', N') : Int32 × TS × NS).1 = nz m from rfl), if_neg (show ¬ ((nz m, K', N') : Int32 × TS × NS).1 < 0 from nz_neg (by omega))]
  show Option.bind (f_L_typeOf K' F U S D N' P (nz m)) _ = _
  rw [a1, Option.bind_some]
  show Option.bind (f_L_normal K2 F2 N' (nz a)) _ = _
  rw [b1, Option.bind_some]
  show (if ansN (some u) = ansN (some u) then Option.bind (f_X11_isOf K3 F3 U2 S D N' P (nz m) (nz a)) _ else _) = _
  rw [if_pos rfl, c1, Option.bind_some]
  show (if (0 : Int32) = 0 then (if r = 0 then _ else _) else _) = _
  rw [if_pos rfl, if_neg hr]
  show f_law_821 (f_law_L xs L fu) xs L (kc - 8) (ks - 48) K4 F4 U4 S D R M N' P f1 f2 (upd f3 gc (nz fc)) (nz v2) 0 (nz m) (nz (gc + 1)) (nz (fc + 1)) 0 0 0 0 0 0 v13 v14 0 0 0 0 0 0 (nz m) 0 0 0 0 w = some 1
  unfold f_law_821
  rw [if_pos ⟨Nat.zero_le _, Nat.zero_le _⟩, laid_ok (by omega), Option.bind_some]
  exact fin
theorem opn_none {G : GG} {f : Nat} : ∀ k, (∀ g, g < k → qF G g < f) → opn G f k = 0 := by
  intro k h
  exact (opn_zero k).mpr (fun g hg w => absurd (h g hg) (by omega))
theorem opn_agree {G G' : GG} {f : Nat} : ∀ k, (∀ g, g < k → qF G' g = qF G g ∧ qS G' g = qS G g) → opn G' f k = opn G f k := by
  intro k
  induction k with
  | zero => intro _; rfl
  | succ k ih =>
    intro h
    obtain ⟨h1, h2⟩ := h k (Nat.lt_succ_self k)
    show opn G' f k + (if qF G' k = f ∧ qS G' k = 0 then 1 else 0) = opn G f k + (if qF G k = f ∧ qS G k = 0 then 1 else 0)
    rw [ih (fun g hg => h g (by omega)), h1, h2]
theorem decl_ok {xs : IA} {L t fl cl sl fu kc ks : Nat} {K : TS} {n : Nat} {F : FS} {U : US} {S : SS} {D : DS} {R : RS} {M : MS} {N : NS} {P : PS} {A : SG} {B : FG} {G : GG} {nt : Nat → Tm} {m a : Nat} {f1 f2 f3 : IA} {v2 : Nat} (ht : t < 36) (E : End13 xs L t fl cl sl) (hv : v2 ≤ 3) (h : TurnI K n S D P A B G N nt m f1 f2 f3 v2 t) (ha : a < m) (hf : fl + 2 ≤ fu) (hc : cl + 212 ≤ kc) (hs : sl + 6057 ≤ ks) :
    br_decl (f_law_L xs L fu) xs L kc ks K F U S D R M N P f1 f2 f3 (nz v2) (nz m) (nz (qN G)) (nz (fFc B)) (nz t) (nz (42 + 5 * t)) N.2.2 (nz a) = some 1 := by
  obtain ⟨fu, rfl⟩ : ∃ e, fu = e + 2 := ⟨fu - 2, by omega⟩
  obtain ⟨r1, r2, r3⟩ := TurnI_room h (by omega)
  obtain ⟨hI, hm1, hm2, hn⟩ := h
  have h8 := hI.2.1.2.1.1
  have h40 := hI.2.1.2.2.1
  obtain ⟨K1, F1, U1, D1, P1, r, e, hr⟩ := L_declare hI.1 hI.2.1 hI.2.2.1 ha (by omega) F U
  unfold br_decl
  rw [e, Option.bind_some]
  rcases hr with ⟨hr, rfl, rfl, hw, hx⟩ | ⟨l, Rr, n', rfl, q8, q40, hnf, hun, l1, l4, hfr, n1, n2, hw, hx, hD, hC⟩
  · have hneg : r < 0 := by rcases hr with rfl | rfl <;> decide
    show (if r < 0 then _ else _) = _
    rw [if_pos hneg]
    refine cut740_no (fu := fu + 1) (fun w => nz_neg (show fFc B < 2147483648 by omega) (by rw [← w]; exact hneg)) (by omega) (by omega) ?_
    exact E _ _ _ K1 n F1 U1 S D1 R M N P1 A B G nt m f1 f2 f3 v2 (by omega) (by omega) (by omega) hv ⟨MainI_ext hI hw hx, hm1, by omega, by omega⟩
  · obtain ⟨z80, lo, -⟩ := nfT_some 21 _ _ hnf
    have hT := court_declare hI.2.1 l1 l4 hfr z80 lo q40 q8
    have hI' := MainI_decl hI ha hnf hx n1 (by rw [hD]) q8 hC hT
    have hN1 := hI'.2.2.1
    obtain ⟨K2, F2, U2, rr, b1, b2, b3, b4⟩ := L_level hC hT hN1 ha (by omega) F1 U1
    have hrr : 0 ≤ rr := by
      apply b4
      intro q
      apply hun
      cases hX : (tyT (tbl A B) (nt a) []).bind nf with
      | none => rfl
      | some X =>
        rw [fill_mono (dec_ex A B (conType l Rr) l.length (qN G)) hX] at q
        exact q
    have hcs : f_L_contextSize D1 P1 (nz (qN G)) = some (nz l.length) := by
      rw [L_contextSize hC hT (by omega), if_pos (show qN G < qN (decG G (fFc B) l Rr) from Nat.lt_succ_self _)]
      show some (nz (up1 (qC G) (qN G) l.reverse (qN G)).length) = _
      rw [up1_eq, List.length_reverse]
    have hop : f_L_openGoals D1 P1 (nz (fFc B)) = some (nz 1) := by
      rw [L_openGoals hC hT (by omega), if_pos (show fFc B < fFc (decB B (conType l Rr) l.length (qN G)) from Nat.lt_succ_self _)]
      have e1 : opn (decG G (fFc B) l Rr) (fFc B) (qN G) = 0 := opn_none _ (fun g hg => by
        rw [(dec_same G (fFc B) l Rr g hg).1]
        exact (hI.2.1.2.2.2.1 g hg).1)
      show some (nz (opn (decG G (fFc B) l Rr) (fFc B) (qN G) + (if up1 (qF G) (qN G) (fFc B) (qN G) = fFc B ∧ up1 (qS G) (qN G) 0 (qN G) = 0 then 1 else 0))) = _
      rw [e1, up1_eq, up1_eq, if_pos ⟨rfl, rfl⟩]
    have hgs : f_L_goalState D1 P1 (nz (qN G)) = some 111 := by
      rw [L_goalState hC hT (by omega), if_pos (show qN G < qN (decG G (fFc B) l Rr) from Nat.lt_succ_self _)]
      show some (stW (up1 (qS G) (qN G) 0 (qN G))) = _
      rw [up1_eq]
      rfl
    show (if nz (fFc B) < 0 then _ else (if nz (fFc B) = nz (fFc B) then Option.bind (f_L_level K1 F1 U1 S D1 N P1 (nz a)) _ else _)) = _
    rw [if_neg (nz_neg (by omega)), if_pos rfl, b1, Option.bind_some]
    show (if rr < 0 then _ else Option.bind (f_L_contextSize D1 P1 (nz (qN G))) _) = _
    rw [if_neg (Int32.not_lt.mpr hrr), hcs, Option.bind_some, if_neg (show ¬ nz l.length < (1 : Int32) from fun w => absurd ((nz_lt (j := 1) (by omega) (by decide)).mp w) (by omega)), Option.bind_some, if_neg (show ¬ (4 : Int32) < nz l.length from fun w => absurd ((nz_lt (i := 4) (by decide) (by omega)).mp w) (by omega))]
    show Option.bind (f_L_openGoals D1 P1 (nz (fFc B))) _ = _
    rw [hop, Option.bind_some, if_pos (show nz 1 = 1 from rfl)]
    show Option.bind (f_L_goalState D1 P1 (nz (qN G))) _ = _
    rw [hgs, Option.bind_some, if_pos rfl]
    have eNB : NB (qN G + 1) = NB (qN G) + (416 + 4 * qN G) := rfl
    refine cut740_yes (fu := fu) (u := conType l Rr) (MainI_ext hI' b2 b3) ha (by omega) (by omega) rfl rfl (up1_eq _ _ _) hnf (by omega) (by omega) ?_
    intro K' N' F' U' g1 g2
    have fin := E fu (kc - 204 - 8) (ks - 6009 - 48) K' (n' + 1) F' U' S D1 R M N' P1 A _ _ _ (m + 1) f1 f2 _ v2 (by omega) (by omega) (by omega) hv ⟨g2, by omega, by omega, by
      show n' + 1 ≤ 30 + (m + 1) + 2 * (t + 1) + NB (qN G + 1)
      omega⟩
    rw [← g1]
    exact fin
