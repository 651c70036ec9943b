theorem ct_any {K : TS} {n g p : Nat} {S : SS} {D : DS} {P : PS} {A : SG} {B : FG} {G : GG} (h : CourtC K n S D P A B G) (ht : CourtT A B G) (hg : g < 1000000) (hp : p < 1000000) : ∃ ct, f_L_contextType K D P (nz g) (nz p) = some ct ∧ ∀ T, g < qN G → p < (qC G g).length → (qC G g)[(qC G g).length - 1 - p]? = some T → ct = numT T := by
  obtain ⟨a1, a2, a3⟩ := L_contextType h ht hg hp
  by_cases q : g < qN G
  · by_cases w : p < (qC G g).length
    · have ho : (qC G g)[(qC G g).length - 1 - p]? = some (qC G g)[(qC G g).length - 1 - p] := List.getElem?_eq_getElem (by omega)
      refine ⟨_, a1 _ q ho w, ?_⟩
      intro T _ _ hT
      rw [ho] at hT
      injection hT with hT
      rw [hT]
    · exact ⟨_, a2 q (by omega), fun T _ w' => absurd w' w⟩
  · exact ⟨_, a3 (by omega), fun T w' => absurd w' q⟩
theorem spl_ok {xs : IA} {L t fl cl sl fu kc ks : Nat} {K : TS} {n : Nat} {F : FS} {U : US} {S : SS} {D : DS} {R : RS} {M : MS} {N : NS} {P : PS} {A : SG} {B : FG} {G : GG} {nt : Nat → Tm} {m g : Nat} {f1 f2 f3 : IA} {v2 : Nat} (hL : L < 1000000) (ht : t < 36) (E : End13 xs L t fl cl sl) (hv : v2 ≤ 3) (h : TurnI K n S D P A B G N nt m f1 f2 f3 v2 t) (hg : g ≤ qN G) (hf : fl + 17 ≤ fu) (hc : cl + 255 ≤ kc) (hs : sl + 6315 ≤ ks) :
    br_spl (f_law_L xs L fu) xs L kc ks K F U S D R M N P f1 f2 f3 (nz v2) (nz m) (nz (qN G)) (nz (fFc B)) (nz t) (nz (42 + 5 * t)) N.2.2 (nz g) = some 1 := by
  obtain ⟨r1, r2, r3⟩ := TurnI_room h (by omega)
  obtain ⟨hI, hm1, hm2, hn⟩ := h
  have h8 := hI.2.1.2.1.1
  have h40 := hI.2.1.2.2.1
  have hNB : NB 40 = 19760 := by decide
  obtain ⟨p, p1, p2⟩ := L_some xs L (k := 42 + 5 * t + 4) (m := 3) hL (by omega) (by omega) (by omega)
  obtain ⟨ct, ct1, ct2⟩ := ct_any hI.1 hI.2.1 (show g < 1000000 by omega) (show p < 1000000 by omega)
  obtain ⟨K1, F1, S1, D1, P1, r, e, hr⟩ := L_split hI.1 hI.2.1 (show g < 1000000 by omega) (show p < 1000000 by omega) (by omega) F
  have no : r < 0 → S1 = S → D1 = D → WF K1 n → Ext K K1 n → CourtC K1 n S D P1 A B G → f_law_L xs L fu 11 (kc - 204) (ks - 6009) K1 F1 U S1 D1 R M N P1 f1 f2 f3 (nz v2) 0 (nz m) (nz (qN G)) (nz (fFc B)) 0 0 0 0 0 0 (nz t) (nz (42 + 5 * t)) 0 0 (nz g) 0 0 0 0 0 r 0 0 N.2.2 = some 1 := by
    rintro w1 rfl rfl w4 w5 w6
    obtain ⟨fu, rfl⟩ : ∃ e, fu = e + 1 := ⟨fu - 1, by omega⟩
    obtain ⟨b1, b2, b3, b4⟩ := hI
    exact cut962_end (Int32.le_of_lt w1) (by omega) (by omega) (E fu _ _ K1 n F1 U S1 D1 R M N P1 A B G nt m f1 f2 f3 v2 (by omega) (by omega) (by omega) hv ⟨⟨w6, b2, NodeC_ext b3 w5 (Nat.le_refl n), b4⟩, hm1, by omega, by omega⟩)
  unfold br_spl
  rw [show nz (42 + 5 * t) + (4 : Int32) = nz (42 + 5 * t + 4) from nz_add _ 4, show f_L_some xs L (nz (42 + 5 * t + 4)) 3 = some (nz p) from p2, Option.bind_some, ct1, Option.bind_some]
  by_cases hgl : g < qN G
  · have hgo := hI.2.1.2.2.2.1 g hgl
    rw [if_neg (fun w => absurd ((nz_le (by omega) (by omega)).mp w) (by omega)), if_pos (nz_inb (by omega) (by decide)), nz_nat (show g < 2147483648 by omega), hI.2.2.2.2.2.2.2.2.2.1 g hgl, L_openGoals hI.1 hI.2.1 (show qF G g < 1000000 by have := hgo.1; omega), if_pos hgo.1, Option.bind_some, e, Option.bind_some]
    rcases hr with ⟨w1, w2, w3, w4, w5, w6⟩ | ⟨d, Cf, Tf, n', rfl, w1, hs0, hpl, hd, hT, hch, hw, hx, n1, n2, hD, hC⟩
    · show (if r < 0 then _ else _) = _
      rw [if_pos w1]
      exact no w1 w2 w3 w4 w5 w6
    · have h16 := hI.2.1.1.1
      have hcl := cntd_le A d (sCc A)
      have hdv : d < v2 := by
        have q := hI.2.2.2.2.2.2.2.2.2.2 g hgl (dat d) (List.mem_of_getElem? hd)
        have q' : (8 * d + 2) / 8 < v2 := q (by omega)
        omega
      have ect : ct = nz (101 + d) := by
        rw [ct2 _ hgl hpl hd]
        show sa_0 ((8 * d + 2) % 8) + nz ((8 * d + 2) / 8) = _
        rw [show (8 * d + 2) % 8 = 2 by omega, show (8 * d + 2) / 8 = d by omega]
        exact nz_add 101 d
      have hNc : qN (splG A G g p d Cf Tf) = qN G + cntd A d (sCc A) := rfl
      have hN40 := hT.2.2.1
      have sm := spl_same A G g p d Cf Tf
      have hS1 : qS (splG A G g p d Cf Tf) g = 1 := by
        show (if g < qN G then (if g = g then 1 else qS G g) else 0) = 1
        rw [if_pos hgl, if_pos rfl]
      have hnewF : ∀ j, j < cntd A d (sCc A) → qF (splG A G g p d Cf Tf) (qN G + j) = qF G g ∧ qS (splG A G g p d Cf Tf) (qN G + j) = 0 := by
        intro j hj
        have hn' : ¬ qN G + j < qN G := by omega
        exact ⟨if_neg hn', if_neg hn'⟩
      have hopn : opn (splG A G g p d Cf Tf) (qF G g) (qN G + cntd A d (sCc A)) + 1 = opn G (qF G g) (qN G) + cntd A d (sCc A) := by
        rw [opn_new _ hnewF]
        have q := opn_upd (G := G) (G' := splG A G g p d Cf Tf) (f := qF G g) (g0 := g) (Nn := qN G) (fun k hk => (sm k hk).1) (fun k hk hne => by
          show (if k < qN G then (if k = g then 1 else qS G k) else 0) = _
          rw [if_pos hk, if_neg hne]) rfl hs0 (by rw [hS1]; decide) (qN G) (Nat.le_refl _)
        rw [if_pos hgl] at q
        omega
      have hol := opn_le G (qF G g) (qN G)
      have hf2 : f2 d = nz (cntd A d (sCc A)) := hI.2.2.2.2.2.2.2.2.1 d hdv
      subst ect
      show (if nz (cntd A d (sCc A)) < 0 then _ else _) = _
      rw [if_neg (nz_neg (by omega)), if_neg (show ¬ nz (101 + d) < (101 : Int32) from fun w => absurd ((nz_lt (j := 101) (by omega) (by decide)).mp w) (by omega)), if_neg (show ¬ (101 : Int32) + nz v2 ≤ nz (101 + d) from fun w => by
        rw [show (101 : Int32) + nz v2 = nz (101 + v2) from nz_add 101 v2] at w
        exact absurd ((nz_le (by omega) (by omega)).mp w) (by omega)), show nz (101 + d) - (101 : Int32) = nz d from (nz_sub (i := 101 + d) (j := 101) (by omega)).trans (congrArg nz (by omega)), if_pos (nz_inb (show d < 3 by omega) (by decide)), nz_nat (show d < 2147483648 by omega), hf2, if_pos rfl]
      show Option.bind (f_L_goalState D1 P1 (nz g)) _ = _
      rw [L_goalState hC hT (by omega), if_pos (show g < qN (splG A G g p d Cf Tf) by omega), hS1, Option.bind_some, if_pos (show stW 1 = 115 from rfl), if_pos (nz_inb (by omega) (by decide))]
      show Option.bind (f_L_openGoals D1 P1 (nz (qF G g))) _ = _
      rw [L_openGoals hC hT (show qF G g < 1000000 by have := hgo.1; omega), if_pos hgo.1, Option.bind_some, if_pos (show nz (opn (splG A G g p d Cf Tf) (qF G g) (qN (splG A G g p d Cf Tf))) = nz (opn G (qF G g) (qN G)) - (1 : Int32) + nz (cntd A d (sCc A)) from by
        have hpos : 1 ≤ opn G (qF G g) (qN G) := by
          rcases Nat.eq_zero_or_pos (opn G (qF G g) (qN G)) with z | z
          · exact absurd ⟨rfl, hs0⟩ ((opn_zero _).mp z g hgl)
          · exact z
        rw [show nz (opn G (qF G g) (qN G)) - (1 : Int32) = nz (opn G (qF G g) (qN G) - 1) from nz_sub (j := 1) hpos, nz_add, hNc]
        congr 1
        omega)]
      refine cut962_loop (fl := fl) (cl := cl) (sl := sl) (n := n') (g := g) (q0 := qN G) (c := cntd A d (sCc A)) hC hT hNc hgl ?_ ?_ ?_ (cntd A d (sCc A)) fu (kc - 204) (ks - 6009) 0 f3 (by omega) (by omega) (by omega) (by omega) ?_
      · rw [(sm g hgl).2.1]; omega
      · intro j hj
        refine ⟨(hnewF j hj).2, ?_, by rw [(hnewF j hj).1, (sm g hgl).1]⟩
        have hn' : ¬ qN G + j < qN G := by omega
        have ec : qC (splG A G g p d Cf Tf) (qN G + j) = Cf (conOf A d (qN G + j - qN G) (sCc A)) := if_neg hn'
        obtain ⟨k1, k2, k3⟩ := conOf_ok (A := A) (d := d) (r := qN G + j - qN G) (sCc A) (by omega)
        have q := (ChildL_C hpl (hch _ k1 k2)).1
        rw [ec, (sm g hgl).2.1]
        omega
      · intro fu' kc' ks' f3' g1 g2 g3 g4
        exact E fu' kc' ks' K1 n' F1 U S1 D1 R M N P1 A B _ nt m f1 f2 f3' v2 g1 g2 g3 hv ⟨MainI_spl hI hgl hs0 hch hx n1 (by rw [hD]) hC hT g4, hm1, by omega, by
          show n' ≤ 30 + m + 2 * (t + 1) + NB (qN G + cntd A d (sCc A))
          omega⟩
      · intro g' hg'
        rw [(sm g' hg').1]
        exact hI.2.2.2.2.2.2.2.2.2.1 g' hg'
  · rw [if_pos ((nz_le (by omega) (by omega)).mpr (by omega)), e, Option.bind_some]
    rcases hr with ⟨w1, w2, w3, w4, w5, w6⟩ | ⟨d, Cf, Tf, n', w0, w1, w2⟩
    · show (if r < 0 then _ else _) = _
      rw [if_pos w1]
      exact no w1 w2 w3 w4 w5 w6
    · exact absurd w1 hgl
