/-! fill, auto, reopen -/
theorem up1_up1 {α : Type} (f : Nat → α) (i : Nat) (a b : α) : up1 (up1 f i a) i b = up1 f i b := by
  funext j
  by_cases q : j = i
  · rw [q, up1_eq, up1_eq]
  · rw [up1_ne q, up1_ne q, up1_ne q]
theorem setS_setS (G : GG) (g s s' : Nat) (r r' : Tm) : setS (setS G g s r) g s' r' = setS G g s' r' := by
  show ((qF G, qC G, qT G, qP G, up1 (up1 (qS G) g s) g s', up1 (up1 (qR G) g r) g r', qPl G, qCh G, qN G) : GG) = (qF G, qC G, qT G, qP G, up1 (qS G) g s', up1 (qR G) g r', qPl G, qCh G, qN G)
  rw [up1_up1, up1_up1]
theorem opn_fill {G : GG} {g : Nat} {r : Tm} (hg : g < qN G) (hs : qS G g = 0) : opn (setS G g 2 r) (qF G g) (qN G) + 1 = opn G (qF G g) (qN G) := by
  have q := opn_upd (G := G) (G' := setS G g 2 r) (f := qF G g) (g0 := g) (Nn := qN G) (fun _ _ => rfl) (fun k _ hne => up1_ne hne) rfl hs (by
    show up1 (qS G) g 2 g ≠ 0
    rw [up1_eq]
    decide) (qN G) (Nat.le_refl _)
  rw [if_pos hg] at q
  exact q
theorem open_acc0 {K : TS} {n : Nat} {S : SS} {D : DS} {P : PS} {A : SG} {B : FG} {G : GG} {N : NS} {nt : Nat → Tm} {m g : Nat} {f1 f2 f3 : IA} {v2 : Nat} (h : MainI K n S D P A B G N nt m f1 f2 f3 v2) (hg : g < qN G) (hs : qS G g = 0) : acc0 D (qF G g) ∧ accB D.2.2 (qF G g) = false := by
  have h8 : qF G g < 8 := by
    have q := (h.2.1.2.2.2.1 g hg).1
    have := h.2.1.2.1.1
    omega
  have e := AccOK_open h.2.2.2.2.2.1 h8 hg hs
  exact ⟨(bit_iff D.2.2 h8).mpr e, e⟩
theorem cut1141_neg {xs : IA} {L fu kc ks : Nat} {K : TS} {F : FS} {U : US} {S : SS} {D : DS} {R : RS} {M : MS} {N : NS} {P : PS} {f1 f2 f3 : IA} {v2 v4 v5 v6 v13 v14 va vg vw r : Int32} {w : Int64} (hr : r < 0) (hc : 8 ≤ kc) (hs : 48 ≤ ks)
    (h13 : LM xs L fu 13 (kc - 8) (ks - 48) K F U S D R M N P f1 f2 f3 v2 v4 v5 v6 v13 v14 0 0 0 0 0 0 w = some 1) : f_law_L xs L (fu + 1) 12 kc ks K F U S D R M N P f1 f2 f3 v2 0 v4 v5 v6 0 0 0 0 0 0 v13 v14 va 0 vg vw 0 0 0 r 0 0 0 w = some 1 := by
  show f_law_1141 (f_law_L xs L fu) xs L kc ks K F U S D R M N P f1 f2 f3 v2 0 v4 v5 v6 0 0 0 0 0 0 v13 v14 va 0 vg vw 0 0 0 r 0 0 0 w = some 1
  unfold f_law_1141
  rw [if_pos ⟨hc, hs⟩, if_pos hr]
  exact h13
/-- a goal that was filled is opened and filled again -/
theorem cut1141_fill {xs : IA} {L fl cl sl fu kc ks : Nat} {K : TS} {n : Nat} {F : FS} {U : US} {S : SS} {D : DS} {R : RS} {M : MS} {N : NS} {P : PS} {A : SG} {B : FG} {G : GG} {nt : Nat → Tm} {m g a x14 : Nat} {f1 f2 f3 : IA} {v2 : Nat} {v4 v5 v6 v13 : Int32} {w : Int64} (hL : L < 1000000) (hx14 : x14 < 900000) (hG : MainI K n S D P A B (setS G g 2 (nt a)) N nt m f1 f2 f3 v2) (hg : g < qN G) (ha : a < m) (hfi : fillable D A B G g (nt a)) (hac : acc0 D (qF G g)) (hn : n + 8100 ≤ 32768) (hf : fl + 1 ≤ fu) (hc : cl + 8 ≤ kc) (hs : sl + 48 ≤ ks)
    (h13 : ∀ (fu kc ks : Nat) (K' : TS) (F' : FS) (U' : US) (P' : PS), fl ≤ fu → cl ≤ kc → sl ≤ ks → MainI K' n S D P' A B (setS G g 2 (nt a)) N nt m f1 f2 f3 v2 → LM xs L fu 13 kc ks K' F' U' S D R M N P' f1 f2 f3 (nz v2) v4 v5 v6 v13 (nz x14) 0 0 0 0 0 0 w = some 1) :
    f_law_L xs L fu 12 kc ks K F U S D R M N P f1 f2 f3 (nz v2) 0 v4 v5 v6 0 0 0 0 0 0 v13 (nz x14) (nz a) 0 (nz g) (10 : Int32) 0 0 0 (nz (opn (setS G g 2 (nt a)) (qF G g) (qN G))) 0 0 0 w = some 1 := by
  obtain ⟨fu, rfl⟩ : ∃ e, fu = e + 1 := ⟨fu - 1, by omega⟩
  have h40 : qN G ≤ 40 := hG.2.1.2.2.1
  have hol := opn_le (setS G g 2 (nt a)) (qF G g) (qN G)
  obtain ⟨y, y1, y2⟩ := L_some xs L (k := x14 + 4) (m := 3) hL (by omega) (by omega) (by omega)
  show f_law_1141 (f_law_L xs L fu) xs L kc ks K F U S D R M N P f1 f2 f3 (nz v2) 0 v4 v5 v6 0 0 0 0 0 0 v13 (nz x14) (nz a) 0 (nz g) (10 : Int32) 0 0 0 (nz (opn (setS G g 2 (nt a)) (qF G g) (qN G))) 0 0 0 w = some 1
  unfold f_law_1141
  rw [if_pos ⟨by omega, by omega⟩, if_neg (nz_neg (by omega)), show nz x14 + (4 : Int32) = nz (x14 + 4) from nz_add _ 4, show f_L_some xs L (nz (x14 + 4)) 3 = some (nz y) from y2, Option.bind_some]
  by_cases q : nz y = 0
  · rw [if_pos q]
    have eR : qR (setS G g 2 (nt a)) g = nt a := up1_eq _ _ _
    obtain ⟨P2, c1, c2, c3⟩ := L_reopen (g := g) hG.1 hG.2.1 hg (up1_eq _ _ _) hac
    rw [eR, setS_setS] at c2 c3
    rw [eR] at c1
    have hI2 : MainI K n S D P2 A B (setS G g 0 (nt a)) N nt m f1 f2 f3 v2 := by
      obtain ⟨h1, h2, h3, h4, h5, h6, h7⟩ := hG
      refine ⟨c3, c2, h3, h4, h5, ?_, h7⟩
      have e := AccOK_reopen (g := g) (r := nt a) h6 ((bit_iff D.2.2 (show qF G g < 8 by
        have q1 := (h2.2.2.2.1 g hg).1
        have q2 := h2.2.1.1
        have q3 : qF G g < fFc B := q1
        omega)).mp hac)
      rw [setS_setS] at e
      exact e
    have hfi2 : fillable D A B (setS G g 0 (nt a)) g (nt a) := ⟨hg, up1_eq _ _ _, hfi.2.2.1, hfi.2.2.2⟩
    obtain ⟨K3, F3, U3, P3, d1, d2, d3, d4, d5⟩ := (L_fill (g := g) hI2.1 hI2.2.1 hI2.2.2.1 ha (by omega) hn F U).1 hfi2
    rw [setS_setS] at d1 d4 d5
    have hI3 : MainI K3 n S D P3 A B (setS G g 2 (nt a)) N nt m f1 f2 f3 v2 := by
      have e := MainI_set (g := g) (s := 2) (r := nt a) hI2 d3 (Nat.le_refl n) (by rw [setS_setS]; exact d5) (by rw [setS_setS]; exact d4) (Or.inl (by decide))
      rw [setS_setS] at e
      exact e
    have zz := (L_size hG.1.1 hG.2.2.1 (show a < 1000000 by have := hG.2.2.1.2.1; omega)).1 ha
    have gs := L_goalState (g := g) hI2.1 hI2.2.1 (by omega)
    rw [if_pos (show g < qN (setS G g 0 (nt a)) from hg), show qS (setS G g 0 (nt a)) g = 0 from up1_eq _ _ _] at gs
    rw [c1, Option.bind_some, if_pos rfl, zz, Option.bind_some]
    show (if (0 : Int32) = 0 then (if nz (sizeT (nt a)) = nz (sizeT (nt a)) then Option.bind (f_L_goalState D P2 (nz g)) _ else _) else _) = _
    rw [if_pos rfl, if_pos rfl, gs, Option.bind_some, if_pos (show stW 0 = 111 from rfl), if_pos rfl]
    show Option.bind (f_L_fill K F U S D N P2 (nz g) (nz a)) _ = _
    rw [d1, Option.bind_some]
    show (if nz (opn (setS G g 2 (nt a)) (qF G g) (qN G)) = nz (opn (setS G g 2 (nt a)) (qF G g) (qN G)) then _ else _) = _
    rw [if_pos rfl]
    exact h13 fu _ _ K3 F3 U3 P3 (by omega) (by omega) (by omega) hI3
  · rw [if_neg q]
    exact h13 fu _ _ K F U P (by omega) (by omega) (by omega) hG
theorem cut1141_auto {xs : IA} {L fl cl sl fu kc ks : Nat} {K : TS} {n : Nat} {F : FS} {U : US} {S : SS} {D : DS} {R : RS} {M : MS} {N : NS} {P : PS} {A : SG} {B : FG} {G : GG} {nt : Nat → Tm} {m g a i x14 : Nat} {f1 f2 f3 : IA} {v2 : Nat} {v4 v5 v6 v13 : Int32} {w : Int64} {X : Tm} (hX : X = .index ((qC G g).length - 1 - i)) (hL : L < 1000000) (hx14 : x14 < 900000) (hG : MainI K n S D P A B (setS G g 2 X) N nt m f1 f2 f3 v2) (hg : g < qN G) (hfi : fitD (qC G g) (qT G g) (qC G g).length = some i) (hi : i < 1000) (hac : acc0 D (qF G g)) (hn : n + 8100 ≤ 32768) (hf : fl + 1 ≤ fu) (hc : cl + 8 ≤ kc) (hs : sl + 48 ≤ ks)
    (h13 : ∀ (fu kc ks : Nat) (K' : TS) (n' : Nat) (F' : FS) (U' : US) (P' : PS), fl ≤ fu → cl ≤ kc → sl ≤ ks → n' ≤ n + 1 → MainI K' n' S D P' A B (setS G g 2 X) N nt m f1 f2 f3 v2 → LM xs L fu 13 kc ks K' F' U' S D R M N P' f1 f2 f3 (nz v2) v4 v5 v6 v13 (nz x14) 0 0 0 0 0 0 w = some 1) :
    f_law_L xs L fu 12 kc ks K F U S D R M N P f1 f2 f3 (nz v2) 0 v4 v5 v6 0 0 0 0 0 0 v13 (nz x14) (nz a) 0 (nz g) (11 : Int32) 0 0 0 (nz i) 0 0 0 w = some 1 := by
  obtain ⟨fu, rfl⟩ : ∃ e, fu = e + 1 := ⟨fu - 1, by omega⟩
  have h40 : qN G ≤ 40 := hG.2.1.2.2.1
  obtain ⟨y, y1, y2⟩ := L_some xs L (k := x14 + 4) (m := 3) hL (by omega) (by omega) (by omega)
  show f_law_1141 (f_law_L xs L fu) xs L kc ks K F U S D R M N P f1 f2 f3 (nz v2) 0 v4 v5 v6 0 0 0 0 0 0 v13 (nz x14) (nz a) 0 (nz g) (11 : Int32) 0 0 0 (nz i) 0 0 0 w = some 1
  unfold f_law_1141
  rw [if_pos ⟨by omega, by omega⟩, if_neg (nz_neg (by omega)), show nz x14 + (4 : Int32) = nz (x14 + 4) from nz_add _ 4, show f_L_some xs L (nz (x14 + 4)) 3 = some (nz y) from y2, Option.bind_some]
  by_cases q : nz y = 0
  · rw [if_pos q]
    have eR : qR (setS G g 2 X) g = X := up1_eq _ _ _
    obtain ⟨P2, c1, c2, c3⟩ := L_reopen (g := g) hG.1 hG.2.1 hg (up1_eq _ _ _) hac
    rw [eR, setS_setS] at c2 c3
    rw [eR, show sizeT X = 1 by rw [hX]; rfl] at c1
    have hI2 : MainI K n S D P2 A B (setS G g 0 X) N nt m f1 f2 f3 v2 := by
      obtain ⟨h1, h2, h3, h4, h5, h6, h7⟩ := hG
      refine ⟨c3, c2, h3, h4, h5, ?_, h7⟩
      have e := AccOK_reopen (g := g) (r := X) h6 ((bit_iff D.2.2 (show qF G g < 8 by
        have q1 := (h2.2.2.2.1 g hg).1
        have q2 := h2.2.1.1
        have q3 : qF G g < fFc B := q1
        omega)).mp hac)
      rw [setS_setS] at e
      exact e
    obtain ⟨K3, P3, d1, d2, d3, d4, d5⟩ := (L_auto (g := g) hI2.1 hI2.2.1 (by omega) (by omega)).1 i hg (up1_eq _ _ _) hfi
    have d4' : CourtT A B (setS (setS G g 0 X) g 2 X) := by rw [hX]; rw [hX] at d4; exact d4
    have d5' : CourtC K3 (n + 1) S D P3 A B (setS (setS G g 0 X) g 2 X) := by rw [hX]; rw [hX] at d5; exact d5
    have hI3 : MainI K3 (n + 1) S D P3 A B (setS G g 2 X) N nt m f1 f2 f3 v2 := by
      have e := MainI_set (g := g) (s := 2) (r := X) hI2 d3 (Nat.le_succ n) d5' d4' (Or.inl (by decide))
      rw [setS_setS] at e
      exact e
    have gs := L_goalState (g := g) hI2.1 hI2.2.1 (by omega)
    rw [if_pos (show g < qN (setS G g 0 X) from hg), show qS (setS G g 0 X) g = 0 from up1_eq _ _ _] at gs
    rw [c1, Option.bind_some, if_neg (by decide)]
    show (if nz 1 = 1 then Option.bind (f_L_goalState D P2 (nz g)) _ else _) = _
    rw [if_pos (show nz 1 = 1 from rfl), gs, Option.bind_some, if_pos (show stW 0 = 111 from rfl), if_neg (by decide)]
    show Option.bind (f_L_auto K D P2 (nz g)) _ = _
    rw [d1, Option.bind_some]
    show (if nz i = nz i then _ else _) = _
    rw [if_pos rfl]
    exact h13 fu _ _ K3 (n + 1) F U P3 (by omega) (by omega) (by omega) (Nat.le_refl _) hI3
  · rw [if_neg q]
    exact h13 fu _ _ K n F U P (by omega) (by omega) (by omega) (Nat.le_succ n) hG
