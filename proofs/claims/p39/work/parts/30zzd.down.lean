/-! the way down the splits -/
theorem cpy_in {f g : Nat → Int32} {sp dp n j : Nat} (h : dp ≤ j) (h2 : j < dp + n) : va_cpy f g sp dp n j = f (sp + (j - dp)) := by
  unfold va_cpy
  exact if_pos ⟨h, h2⟩
theorem cpy_out {f g : Nat → Int32} {sp dp n j : Nat} (h : j < dp ∨ dp + n ≤ j) : va_cpy f g sp dp n j = g j := by
  unfold va_cpy
  exact if_neg (fun q => by omega)
theorem rank_ok {K : Rows} {n c : Nat} {S : SS} {A : SG} (h : SigC K n S A) (h16 : sCc A ≤ 16) (hc : c < sCc A) : g_X7_rankOf S (nz c) = some (nz (cntd A (sOwn A c) c)) := by
  obtain ⟨a1, a2, a3, a4⟩ := h
  unfold g_X7_rankOf f_X7_rankOf
  rw [map_same, if_neg (nz_neg (by omega)), a2, if_neg (fun hq => absurd ((nz_le (by omega) (by omega)).mp hq) (by omega)), if_pos (nz_inb (by omega) (by decide)), nz_nat (by omega), (a3 c hc).2.2.2.1]
/-- the arguments of the value come to their places, the last one first -/
theorem args_place {K : Rows} {n pl : Nat} {S : SS} {D : DS} {P : PS} {M : MS} {v1 v4 v6 : Int32} {h0 : Tm} (hw : WF K n) : ∀ (args : List Tm) (f : Nat) (va : Nat → Int32) (vc : Int32) (vr : Nat), Rep K n (spine h0 args) vr → pl + args.length ≤ 12 → args.length < f →
    ∃ va' vr', f_X5_goDown_L111 f K S D (mkM M va vc) P v1 (nz pl) (nz vr) v4 v6 (nz args.length + (-1)) = f_X5_goDown_L111 (f - args.length) K S D (mkM M va' vc) P v1 (nz pl) (nz vr') v4 v6 (nz 0 + (-1)) ∧ (∀ (i : Nat) (a : Tm), args[i]? = some a → ∃ j, va' (pl + i) = nz j ∧ Rep K n a j) ∧ ∀ y, (y < pl ∨ pl + args.length ≤ y) → va' y = va y := by
  have hn := hw.2.1
  have key : ∀ (m : Nat) (args : List Tm), args.length = m → ∀ (f : Nat) (va : Nat → Int32) (vc : Int32) (vr : Nat), Rep K n (spine h0 args) vr → pl + args.length ≤ 12 → args.length < f →
    ∃ va' vr', f_X5_goDown_L111 f K S D (mkM M va vc) P v1 (nz pl) (nz vr) v4 v6 (nz args.length + (-1)) = f_X5_goDown_L111 (f - args.length) K S D (mkM M va' vc) P v1 (nz pl) (nz vr') v4 v6 (nz 0 + (-1)) ∧ (∀ (i : Nat) (a : Tm), args[i]? = some a → ∃ j, va' (pl + i) = nz j ∧ Rep K n a j) ∧ ∀ y, (y < pl ∨ pl + args.length ≤ y) → va' y = va y := by
    intro m
    induction m with
    | zero =>
      intro args hm f va vc vr hr hpl hf
      have e : args = [] := List.length_eq_zero_iff.mp hm
      subst e
      exact ⟨va, vr, rfl, fun i a q => by simp at q, fun y _ => rfl⟩
    | succ m ih =>
      intro args hm f va vc vr hr hpl hf
      obtain ⟨f, rfl⟩ : ∃ e, f = e + 1 := ⟨f - 1, by omega⟩
      have hne : args ≠ [] := fun q => by rw [q] at hm; cases hm
      have es := List.dropLast_concat_getLast hne
      have hl : args.dropLast.length = m := by rw [List.length_dropLast]; omega
      rw [← es, spine_append] at hr
      have hr' := hr
      obtain ⟨h1, h2, h3, j, l, a4, a5, a6, a7, a8, a9⟩ := hr'
      have hc1 : ¬ nz m < 0 := nz_neg (by omega)
      have st : f_X5_goDown_L111 (f + 1) K S D (mkM M va vc) P v1 (nz pl) (nz vr) v4 v6 (nz args.length + (-1)) = f_X5_goDown_L111 f K S D (mkM M (upd va (pl + m) (nz l)) vc) P v1 (nz pl) (nz j) v4 v6 (nz m + (-1)) := by
        rw [hm, nz_m1]
        conv => lhs; unfold f_X5_goDown_L111
        rw [if_neg hc1, g_second, rSecond_at hw h1, Option.bind_some, a7, nz_add, if_pos (nz_inb (by omega) (by decide)), g_first, rFirst_at hw h1, Option.bind_some, a6, nz_nat (by omega)]
        rfl
      obtain ⟨va', vr', r1, r2, r3⟩ := ih args.dropLast hl f (upd va (pl + m) (nz l)) vc j a8 (by omega) (by omega)
      refine ⟨va', vr', ?_, ?_, ?_⟩
      · rw [st]
        rw [hl] at r1
        rw [r1, hm, show f + 1 - (m + 1) = f - m by omega]
      · intro i a hi
        rw [← es, List.getElem?_append, hl] at hi
        by_cases q : i < m
        · rw [if_pos q] at hi; exact r2 i a hi
        · rw [if_neg q] at hi
          have e0 : i - m = 0 := by
            rcases Nat.eq_zero_or_pos (i - m) with w | w
            · exact w
            · rw [List.getElem?_eq_none (by rw [List.length_singleton]; omega)] at hi; cases hi
          rw [e0] at hi
          have ea : args.getLast hne = a := by simpa using hi
          have ei : i = m := by omega
          subst ei
          rw [← ea]
          exact ⟨l, (r3 _ (Or.inr (by omega))).trans (if_pos rfl), a9⟩
      · intro y hy
        rw [r3 y (by omega)]
        exact if_neg (by omega)
  intro args f va vc vr hr hpl hf
  exact key args.length args rfl f va vc vr hr hpl hf
/-- what is asked of values: closed, in their places -/
def ValsC (K : Rows) (n cnt : Nat) (wv : Nat → Int32) (σ : Nat → Tm) : Prop := Vals K n cnt wv σ ∧ ∀ k, freeT (σ k) = 0
theorem freeT_spine : ∀ (l : List Tm) (h : Tm), freeT (spine h l) = 0 → freeT h = 0 ∧ ∀ a ∈ l, freeT a = 0
  | [], h, hf => ⟨hf, fun a ha => absurd ha (List.not_mem_nil)⟩
  | b :: l, h, hf => by
    obtain ⟨g1, g2⟩ := freeT_spine l (.mul h b) hf
    have g1' : max (freeT h) (freeT b) = 0 := g1
    refine ⟨by omega, ?_⟩
    intro a ha
    rcases List.mem_cons.mp ha with rfl | ha
    · omega
    · exact g2 a ha
theorem goDown_yes {K : Rows} {n g c : Nat} {S : SS} {D : DS} {P : PS} {A : SG} {B : FG} {G : GG} {M : MS} {va : Nat → Int32} {σ : Nat → Tm} {args : List Tm} (hC : CourtC K n S D P A B G) (ht : CourtT A B G) (hg : g < qN G) (hS1 : qS G g = 1) (hv : ValsC K n (qC G g).length va σ) (hc : c < sCc A) (hd : (qC G g)[qX G g]? = some (dat (sOwn A c)))
    (hval : σ (qX G g) = spine (cn c) args) (hlen : args.length = (sPrt A c).length) :
    ∃ va' h, h < qN G ∧ g < h ∧ f_X5_goDown K S D (mkM M va (nz (qC G g).length)) P (nz g) = some (nz h, mkM M va' (nz (qC G h).length)) ∧ qF G h = qF G g ∧ qP G h = (qP G g).map (fun p => sbs p (chS A (qX G g) c)) ∧ ValsC K n (qC G h).length va' (sgS (qX G g) args σ) := by
  have hgo := ht.2.2.2.1 g hg
  obtain ⟨d, s1, s2, s3, s4⟩ := hgo.2.2.2.2.2.2.2.2 hS1
  have ed : d = sOwn A c := by
    rw [s2] at hd
    have e : dat d = dat (sOwn A c) := by injection hd
    have e2 : 8 * d + 2 = 8 * sOwn A c + 2 := by injection e
    omega
  subst ed
  obtain ⟨k1, k2, k3, k4⟩ := s4 c hc rfl
  obtain ⟨y1, y2, y3, y4, y5, y6, y7, y8, y9⟩ := hC.2.2.2.2 g hg
  obtain ⟨z1, z2⟩ := y9 hS1
  have h16 := ht.1.1
  have hm2 := (ht.1.2.2 c hc).2.1
  have h40 := ht.2.2.1
  have hl12 := hgo.2.1
  have hh12 := (ht.2.2.2.1 _ k1).2.1
  have hD2 := hC.2.2.2.1
  have hn := hC.1.2.1
  have hX : qX G g = (qC G g).length - 1 - qPl G g := rfl
  obtain ⟨jv, v1, v2⟩ := hv.1 (qX G g) (by omega)
  rw [show (qC G g).length - 1 - qX G g = qPl G g by omega] at v1
  rw [hval] at v2
  obtain ⟨jh, e1, e2⟩ := rHead_at hC.1 v2
  have e3 := rArgs_at hC.1 v2
  rw [headc_spine] at e2
  rw [nargs_spine] at e3
  have e2' : Rep K n (cn c) jh := e2
  have ena : nargs (cn c) + args.length = args.length := Nat.zero_add _
  rw [ena] at e3
  obtain ⟨q1, q2, q3, q4, q5⟩ := e2'
  have hk3 : K.2.1 jh = 3 := by
    have q6 := q5.1
    rw [show (8 * c + 3) % 8 = 3 by omega] at q6
    exact q6
  have hfc : K.2.2.1 jh = nz c := by rw [q4]; congr 1; omega
  have hgi : Int32.toNatClampNeg (nz g) = g := nz_nat (by omega)
  have hpi : Int32.toNatClampNeg (nz (qPl G g)) = qPl G g := nz_nat (by omega)
  have hafter : nz (qC G g).length - 1 + nz args.length = nz ((qC G g).length - 1 + args.length) := by rw [show (1 : Int32) = nz 1 from rfl, nz_sub (by omega), nz_add]
  have hcp : cpok (nz (qPl G g) + 1) (nz (qPl G g) + nz args.length) (nz (qC G g).length - nz (qPl G g) - 1) 12 12 = true := by
    unfold cpok
    rw [show (1 : Int32) = nz 1 from rfl, nz_add, nz_add, nz_sub (by omega), nz_sub (by omega), nz_nat (by omega), nz_nat (by omega), nz_nat (by omega)]
    exact decide_eq_true ⟨nz_neg (by omega), nz_neg (by omega), nz_neg (by omega), by omega, by omega⟩
  obtain ⟨va', vr', r1, r2, r3⟩ := args_place (S := S) (D := D) (P := P) (M := M) (v1 := nz g) (v4 := nz jh) (v6 := nz ((qC G g).length - 1 + args.length)) (pl := qPl G g) hC.1 args 100000 (va_cpy va va (qPl G g + 1) (qPl G g + args.length) ((qC G g).length - qPl G g - 1)) (nz (qC G g).length) jv v2 (by omega) (by omega)
  have hend : f_X5_goDown_L111 (100000 - args.length) K S D (mkM M va' (nz (qC G g).length)) P (nz g) (nz (qPl G g)) (nz vr') (nz jh) (nz ((qC G g).length - 1 + args.length)) (nz 0 + (-1)) = some (nz (qCh G g + cntd A (sOwn A c) c), mkM M va' (nz ((qC G g).length - 1 + args.length))) := by
    obtain ⟨f, hf⟩ : ∃ f, 100000 - args.length = f + 1 := ⟨99999 - args.length, by omega⟩
    rw [hf]
    conv => lhs; unfold f_X5_goDown_L111
    rw [if_pos (by decide), g_first, rFirst_at hC.1 q1, Option.bind_some, hfc, rank_ok hC.2.1 h16 hc, Option.bind_some, hgi, z2, nz_add, goal_at hD2 h40 (by omega), if_pos k1, Option.bind_some, if_neg (nz_neg (by omega)), if_pos (gix_at hD2 h40 k1)]
    rfl
  have elen : (qC G (qCh G g + cntd A (sOwn A c) c)).length = (qC G g).length - 1 + args.length := by omega
  refine ⟨va', qCh G g + cntd A (sOwn A c) c, k1, by omega, ?_, k2, k3, ?_, ?_⟩
  · unfold f_X5_goDown
    rw [hgi, z1, if_neg (nz_neg (by omega))]
    have hvc : (mkM M va (nz (qC G g).length)).2.2.2.2.1 = nz (qC G g).length := rfl
    have hva : (mkM M va (nz (qC G g).length)).2.2.2.1 = va := rfl
    rw [hvc, hva, if_pos ((nz_lt (by omega) (by omega)).mpr s1), if_pos (nz_inb (by omega) (by decide)), hpi, v1, Option.bind_some, g_head, e1, Option.bind_some, g_args, e3, Option.bind_some, g_kind, rKind_at hC.1 q1, Option.bind_some, if_pos hk3, hafter, if_pos (show nz _ ≤ (12 : Int32) from (nz_le (j := 12) (by omega) (by decide)).mpr (by omega)), if_pos hcp]
    have hidx : Int32.toNatClampNeg (nz (qPl G g) + 1) = qPl G g + 1 ∧ Int32.toNatClampNeg (nz (qPl G g) + nz args.length) = qPl G g + args.length ∧ Int32.toNatClampNeg (nz (qC G g).length - nz (qPl G g) - 1) = (qC G g).length - qPl G g - 1 := by
      rw [show (1 : Int32) = nz 1 from rfl, nz_add, nz_add, nz_sub (by omega), nz_sub (by omega)]
      exact ⟨nz_nat (by omega), nz_nat (by omega), nz_nat (by omega)⟩
    rw [hidx.1, hidx.2.1, hidx.2.2, show nz args.length - 1 = nz args.length + (-1) from Int32.sub_eq_add_neg _ _]
    have r1' : f_X5_goDown_L111 100000 K S D (M.1, M.2.1, M.2.2.1, va_cpy va va (qPl G g + 1) (qPl G g + args.length) ((qC G g).length - qPl G g - 1), nz (qC G g).length, M.2.2.2.2.2) P (nz g) (nz (qPl G g)) (nz jv) (nz jh) (nz ((qC G g).length - 1 + args.length)) (nz args.length + (-1)) = some (nz (qCh G g + cntd A (sOwn A c) c), mkM M va' (nz ((qC G g).length - 1 + args.length))) := r1.trans hend
    rw [elen]
    exact r1'
  · intro k hk
    rw [elen] at hk ⊢
    unfold sgS
    by_cases c1 : k < qX G g
    · rw [if_pos c1]
      obtain ⟨j, w1, w2⟩ := hv.1 k (by omega)
      refine ⟨j, ?_, w2⟩
      rw [r3 _ (Or.inr (by omega)), cpy_in (by omega) (by omega), ← w1]
      exact congrArg va (by omega)
    · rw [if_neg c1]
      by_cases c2 : k < qX G g + args.length
      · rw [if_pos c2]
        have hi : qX G g + args.length - 1 - k < args.length := by omega
        have ea := List.getElem?_eq_getElem hi
        obtain ⟨j, w1, w2⟩ := r2 _ _ ea
        refine ⟨j, ?_, by rw [ea]; exact w2⟩
        rw [← w1]
        exact congrArg va' (by omega)
      · rw [if_neg c2]
        obtain ⟨j, w1, w2⟩ := hv.1 (k - args.length + 1) (by omega)
        refine ⟨j, ?_, w2⟩
        rw [r3 _ (Or.inl (by omega)), cpy_out (Or.inl (by omega)), ← w1]
        exact congrArg va (by omega)
  · intro k
    unfold sgS
    split
    · exact hv.2 k
    · split
      · rename_i c1 c2
        have hi : qX G g + args.length - 1 - k < args.length := by omega
        rw [List.getElem?_eq_getElem hi]
        have hf := hv.2 (qX G g)
        rw [hval] at hf
        exact (freeT_spine args (cn c) hf).2 _ (List.getElem_mem hi)
      · exact hv.2 _
theorem goDown_no {K : Rows} {n g : Nat} {S : SS} {D : DS} {P : PS} {A : SG} {B : FG} {G : GG} {M : MS} {va : Nat → Int32} {σ : Nat → Tm} (hC : CourtC K n S D P A B G) (ht : CourtT A B G) (hg : g < qN G) (hS1 : qS G g = 1) (hv : ValsC K n (qC G g).length va σ) (hno : ∀ c, headc (σ (qX G g)) ≠ cn c) :
    f_X5_goDown K S D (mkM M va (nz (qC G g).length)) P (nz g) = some (-1, mkM M va (nz (qC G g).length)) := by
  have hgo := ht.2.2.2.1 g hg
  obtain ⟨d, s1, s2, s3, s4⟩ := hgo.2.2.2.2.2.2.2.2 hS1
  obtain ⟨y1, y2, y3, y4, y5, y6, y7, y8, y9⟩ := hC.2.2.2.2 g hg
  obtain ⟨z1, z2⟩ := y9 hS1
  have h40 := ht.2.2.1
  have hl12 := hgo.2.1
  have hX : qX G g = (qC G g).length - 1 - qPl G g := rfl
  obtain ⟨jv, v1, v2⟩ := hv.1 (qX G g) (by omega)
  rw [show (qC G g).length - 1 - qX G g = qPl G g by omega] at v1
  obtain ⟨jh, e1, e2⟩ := rHead_at hC.1 v2
  have e3 := rArgs_at hC.1 v2
  have hgi : Int32.toNatClampNeg (nz g) = g := nz_nat (by omega)
  have hpi : Int32.toNatClampNeg (nz (qPl G g)) = qPl G g := nz_nat (by omega)
  have hk8 : kdT (headc (σ (qX G g))) < 8 := by rcases (Rep_view e2).2 with w | w <;> omega
  have hk3 : ¬ K.2.1 jh = 3 := by
    intro q
    rw [(Rep_view e2).1] at q
    have hk : kdT (headc (σ (qX G g))) = 3 := (nz_inj (by omega) (by decide)).mp (show nz _ = nz 3 from q)
    rcases (Rep_view e2).2 with w | w
    · have w4 := w.2.2.2
      rw [hk, if_neg (by decide)] at w4
      exact hno _ w4
    · omega
  unfold f_X5_goDown
  rw [hgi, z1, if_neg (nz_neg (by omega))]
  have hvc : (mkM M va (nz (qC G g).length)).2.2.2.2.1 = nz (qC G g).length := rfl
  have hva : (mkM M va (nz (qC G g).length)).2.2.2.1 = va := rfl
  rw [hvc, hva, if_pos ((nz_lt (by omega) (by omega)).mpr s1), if_pos (nz_inb (by omega) (by decide)), hpi, v1, Option.bind_some, g_head, e1, Option.bind_some, g_args, e3, Option.bind_some, g_kind, rKind_at hC.1 (Rep_lt e2), Option.bind_some, if_neg hk3]
