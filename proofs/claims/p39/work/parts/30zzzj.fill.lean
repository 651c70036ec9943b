theorem fil_ok {xs : IA} {L t fl cl sl fu kc ks : Nat} {K : TS} {n : Nat} {F : FS} {U : US} {S : SS} {D : DS} {R : RS} {M : MS} {N : NS} {P : PS} {A : SG} {B : FG} {G : GG} {nt : Nat → Tm} {m g a wh : Nat} {f1 f2 f3 : IA} {v2 : Nat} (hL : L < 1000000) (ht : t < 36) (E : End13 xs L t fl cl sl) (hv : v2 ≤ 3) (h : TurnI K n S D P A B G N nt m f1 f2 f3 v2 t) (ha : a < m) (hg : g ≤ qN G) (hw1 : 10 ≤ wh) (hw2 : wh < 12) (hf : fl + 1 ≤ fu) (hc : cl + 212 ≤ kc) (hs : sl + 6057 ≤ ks) :
    br_fil (f_law_L xs L fu) xs L kc ks K F U S D R M N P f1 f2 f3 (nz v2) (nz m) (nz (qN G)) (nz (fFc B)) (nz t) (nz (42 + 5 * t)) N.2.2 (nz a) (nz g) (nz wh) = some 1 := by
  obtain ⟨r1, r2, r3⟩ := TurnI_room h (by omega)
  obtain ⟨hI, hm1, hm2, hn⟩ := h
  have h8 := hI.2.1.2.1.1
  have h40 := hI.2.1.2.2.1
  have no : ∀ (r : Int32) (K' : TS) (F' : FS) (U' : US) (P' : PS), r < 0 → P' = P → WF K' n → Ext K K' n → f_law_L xs L fu 12 (kc - 204) (ks - 6009) K' F' U' S D R M N P' f1 f2 f3 (nz v2) 0 (nz m) (nz (qN G)) (nz (fFc B)) 0 0 0 0 0 0 (nz t) (nz (42 + 5 * t)) (nz a) 0 (nz g) (nz wh) 0 0 0 r 0 0 0 N.2.2 = some 1 := by
    rintro r K' F' U' P' w1 rfl w2 w3
    obtain ⟨fu, rfl⟩ : ∃ e, fu = e + 1 := ⟨fu - 1, by omega⟩
    exact cut1141_neg w1 (by omega) (by omega) (E fu _ _ K' n F' U' S D R M N P' A B G nt m f1 f2 f3 v2 (by omega) (by omega) (by omega) hv ⟨MainI_ext hI w2 w3, hm1, by omega, by omega⟩)
  unfold br_fil
  by_cases hgl : g < qN G
  · have hgo := hI.2.1.2.2.2.1 g hgl
    have hf6 : qF G g < 1000000 := by have := hgo.1; omega
    have hol := opn_le G (qF G g) (qN G)
    rw [if_neg (fun w => absurd ((nz_le (by omega) (by omega)).mp w) (by omega)), if_pos (nz_inb (by omega) (by decide)), nz_nat (show g < 2147483648 by omega), hI.2.2.2.2.2.2.2.2.2.1 g hgl, L_openGoals hI.1 hI.2.1 hf6, if_pos hgo.1, Option.bind_some, L_goalState hI.1 hI.2.1 (by omega), if_pos hgl, Option.bind_some]
    have after : ∀ (K' : TS) (n' : Nat) (P' : PS) (X : Tm), qS G g = 0 → Ext K K' n → n ≤ n' → CourtT A B (setS G g 2 X) → CourtC K' n' S D P' A B (setS G g 2 X) → MainI K' n' S D P' A B (setS G g 2 X) N nt m f1 f2 f3 v2 ∧ f_L_goalState D P' (nz g) = some 102 ∧ f_L_openGoals D P' (nz (qF G g)) = some (nz (opn G (qF G g) (qN G)) - (1 : Int32)) := by
      intro K' n' P' X hs0 hx hn' hT hC
      refine ⟨MainI_set hI hx hn' hC hT (Or.inl (by decide)), ?_, ?_⟩
      · rw [L_goalState hC hT (by omega), if_pos (show g < qN (setS G g 2 X) from hgl), show qS (setS G g 2 X) g = 2 from up1_eq _ _ _]
        rfl
      · rw [L_openGoals hC hT hf6, if_pos hgo.1]
        have q := opn_fill (r := X) hgl hs0
        show some (nz (opn (setS G g 2 X) (qF G g) (qN G))) = _
        rw [show nz (opn G (qF G g) (qN G)) - (1 : Int32) = nz (opn G (qF G g) (qN G) - 1) from nz_sub (j := 1) (by omega), ← q, Nat.add_sub_cancel]
    by_cases h10 : wh = 10
    · subst h10
      rw [if_pos (show nz 10 = 10 from rfl)]
      by_cases hfi : fillable D A B G g (nt a)
      · obtain ⟨K', F', U', P', e, e1, e2, e3, e4⟩ := (L_fill (g := g) hI.1 hI.2.1 hI.2.2.1 ha (by omega) (by omega) F U).1 hfi
        have hs0 := hfi.2.1
        obtain ⟨b1, b2, b3⟩ := after K' n P' (nt a) hs0 e2 (Nat.le_refl n) e3 e4
        have hop := opn_fill (r := nt a) hgl hs0
        have ho : nz (opn (setS G g 2 (nt a)) (qF G g) (qN G)) = nz (opn G (qF G g) (qN G)) - (1 : Int32) := by
          rw [show nz (opn G (qF G g) (qN G)) - (1 : Int32) = nz (opn G (qF G g) (qN G) - 1) from nz_sub (j := 1) (by omega), ← hop, Nat.add_sub_cancel]
        rw [e, Option.bind_some]
        show (if nz (opn (setS G g 2 (nt a)) (qF G g) (qN G)) < 0 then _ else (if stW (qS G g) = 111 then Option.bind (f_L_goalState D P' (nz g)) _ else _)) = _
        rw [if_neg (nz_neg (by omega)), if_pos (stW_open.mpr hs0), b2, Option.bind_some, if_pos rfl, if_pos (nz_inb (by omega) (by decide))]
        show Option.bind (f_L_openGoals D P' (nz (qF G g))) _ = _
        rw [b3, Option.bind_some, if_pos rfl, if_pos (show nz 10 = 10 from rfl)]
        show (if nz (opn (setS G g 2 (nt a)) (qF G g) (qN G)) = nz (opn G (qF G g) (qN G)) - (1 : Int32) then _ else _) = _
        rw [if_pos ho]
        refine cut1141_fill (fl := fl) (cl := cl) (sl := sl) hL (by omega) b1 hgl ha hfi (open_acc0 hI hgl hs0).1 (by omega) hf (by omega) (by omega) ?_
        intro fu' kc' ks' K2 F2 U2 P2 g1 g2 g3 g4
        exact E fu' kc' ks' K2 n F2 U2 S D R M N P2 A B (setS G g 2 (nt a)) nt m f1 f2 f3 v2 g1 g2 g3 hv ⟨g4, hm1, by omega, by
          show n ≤ 30 + m + 2 * (t + 1) + NB (qN G)
          omega⟩
      · obtain ⟨K', F', U', r, e, e1, e2, e3⟩ := (L_fill (g := g) hI.1 hI.2.1 hI.2.2.1 ha (by omega) (by omega) F U).2 hfi
        rw [e, Option.bind_some]
        show (if r < 0 then _ else _) = _
        rw [if_pos e1]
        exact no r K' F' U' P e1 rfl e2 e3
    · obtain rfl : wh = 11 := by omega
      rw [if_neg (show ¬ nz 11 = 10 from by decide)]
      by_cases hau : g < qN G ∧ qS G g = 0 ∧ fitD (qC G g) (qT G g) (qC G g).length ≠ none
      · obtain ⟨i, hi⟩ : ∃ i, fitD (qC G g) (qT G g) (qC G g).length = some i := by
          cases hq : fitD (qC G g) (qT G g) (qC G g).length with
          | none => exact absurd hq hau.2.2
          | some i => exact ⟨i, rfl⟩
        have hs0 := hau.2.1
        have hi12 := (fitD_some _ _ hi).1
        have h12 : (qC G g).length ≤ 12 := hgo.2.1
        obtain ⟨K', P', e, e1, e2, e3, e4⟩ := (L_auto (g := g) hI.1 hI.2.1 (by omega) (by omega)).1 i hgl hs0 hi
        obtain ⟨b1, b2, b3⟩ := after K' (n + 1) P' _ hs0 e2 (Nat.le_succ n) e3 e4
        rw [e, Option.bind_some]
        show (if nz i < 0 then _ else (if stW (qS G g) = 111 then Option.bind (f_L_goalState D P' (nz g)) _ else _)) = _
        rw [if_neg (nz_neg (by omega)), if_pos (stW_open.mpr hs0), b2, Option.bind_some, if_pos rfl, if_pos (nz_inb (by omega) (by decide))]
        show Option.bind (f_L_openGoals D P' (nz (qF G g))) _ = _
        rw [b3, Option.bind_some, if_pos rfl, if_neg (show ¬ nz 11 = 10 from by decide)]
        refine cut1141_auto (fl := fl) (cl := cl) (sl := sl) rfl hL (by omega) b1 hgl hi (by omega) (open_acc0 hI hgl hs0).1 (by omega) hf (by omega) (by omega) ?_
        intro fu' kc' ks' K2 n2 F2 U2 P2 g1 g2 g3 g0 g4
        exact E fu' kc' ks' K2 n2 F2 U2 S D R M N P2 A B (setS G g 2 (.index ((qC G g).length - 1 - i))) nt m f1 f2 f3 v2 g1 g2 g3 hv ⟨g4, hm1, by omega, by
          show n2 ≤ 30 + m + 2 * (t + 1) + NB (qN G)
          omega⟩
      · obtain ⟨K', r, e, e1, e2, e3⟩ := (L_auto (g := g) hI.1 hI.2.1 (by omega) (by omega)).2 hau
        rw [e, Option.bind_some]
        show (if r < 0 then _ else _) = _
        rw [if_pos e1]
        exact no r K' F U P e1 rfl e2 e3
  · rw [if_pos ((nz_le (by omega) (by omega)).mpr (by omega)), L_goalState hI.1 hI.2.1 (by omega), Option.bind_some]
    by_cases h10 : wh = 10
    · subst h10
      rw [if_pos (show nz 10 = 10 from rfl)]
      obtain ⟨K', F', U', r, e, e1, e2, e3⟩ := (L_fill (g := g) (k := a) hI.1 hI.2.1 hI.2.2.1 ha (by omega) (by omega) F U).2 (fun w => hgl w.1)
      rw [e, Option.bind_some]
      show (if r < 0 then _ else _) = _
      rw [if_pos e1]
      exact no r K' F' U' P e1 rfl e2 e3
    · obtain rfl : wh = 11 := by omega
      rw [if_neg (show ¬ nz 11 = 10 from by decide)]
      obtain ⟨K', r, e, e1, e2, e3⟩ := (L_auto (g := g) hI.1 hI.2.1 (by omega) (by omega)).2 (fun w => hgl w.1)
      rw [e, Option.bind_some]
      show (if r < 0 then _ else _) = _
      rw [if_pos e1]
      exact no r K' F U P e1 rfl e2 e3
