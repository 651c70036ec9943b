/-! the clause by the splits: the same as by order, for a call that has a type -/
def tbX (A : SG) (B : FG) (m : Nat) : Option Tm := if m % 8 = 3 then (if m / 8 < sCc A then some (conT A (m / 8)) else some (.arg 0)) else tbl A B m
theorem tbX_ok {A : SG} {B : FG} (hB : FunOK B) : TBok (tbX A B) := by
  intro m T h
  unfold tbX at h
  split at h
  · rename_i h1
    split at h
    · have e : conT A (m / 8) = T := by injection h
      refine ⟨Or.inl h1, fun σ => ?_⟩
      rw [← e]
      exact sbs_zero (freeT_conType _ _) σ
    · have e : Jvm.Term.arg 0 = T := by injection h
      refine ⟨Or.inl h1, fun σ => ?_⟩
      rw [← e]; rfl
  · exact tbl_ok hB m T h
theorem tbX_ex (A : SG) (B : FG) : Ex (tbl A B) (tbX A B) := by
  intro m T h
  unfold tbX
  by_cases h1 : m % 8 = 3
  · rw [if_pos h1]
    unfold tbl at h
    rw [if_pos h1] at h
    split at h
    · rename_i h2
      rw [if_pos h2]; exact h
    · cases h
  · rw [if_neg h1]; exact h
theorem court_FOK {A : SG} {B : FG} {G : GG} (h : CourtT A B G) : FOK (frOf (Cls G)) := fr_ok (court_COK h)
/-- a value at the place of a split is whole, if a constructor stands at its head -/
theorem split_value {A : SG} {B : FG} {G : GG} {g : Nat} {σ : Nat → Tm} {T : Tm} (ht : CourtT A B G) (hg : g < qN G) (hS1 : qS G g = 1) (hty : Typ (frOf (Cls G)) (tyOf (tbX A B)) (sbs (qL G g) σ) [] T) {c : Nat} {args : List Tm} (hval : σ (qX G g) = spine (cn c) args) :
    c < sCc A ∧ (qC G g)[qX G g]? = some (dat (sOwn A c)) ∧ args.length = (sPrt A c).length := by
  have hgo := ht.2.2.2.1 g hg
  obtain ⟨d, s1, s2, s3, s4⟩ := hgo.2.2.2.2.2.2.2.2 hS1
  have ok := court_FOK ht
  have hi := hgo.2.2.2.2.2.2.1 _ _ ok (tbX_ok ht.2.1) (tbX_ex A B)
  obtain ⟨h1, -⟩ := hi [] σ T hty
  have h2 := h1 _ _ s2
  rw [ren_c (isC_dat d), sbs_c (isC_dat d), hval] at h2
  by_cases hc : c < sCc A
  · have hty : tyOf (tbX A B) (cn c) = some (conType ((sPrt A c).map dat) (dat (sOwn A c))) := tbX_ex A B _ _ (tbl_con hc)
    obtain ⟨g1, g2, -⟩ := Typ_canon ok (isC_cn c) hty (dats_isC _) (isC_dat _) (isC_dat _) h2
    refine ⟨hc, ?_, by rw [g2, List.length_map]⟩
    rw [s2, ← g1]
  · have hty : tyOf (tbX A B) (cn c) = some (conType [] (.arg 0)) := by
      show tbX A B (8 * c + 3) = _
      unfold tbX
      rw [if_pos (by omega), show (8 * c + 3) / 8 = c by omega, if_neg hc]
      rfl
    obtain ⟨g1, -⟩ := Typ_canon ok (isC_cn c) hty (fun D hD => absurd hD (List.not_mem_nil)) (show isC (.arg 0 : Tm) = true from rfl) (isC_dat _) h2
    have e : 0 = 8 * d + 2 := by injection g1
    omega
theorem only_below {A : SG} {B : FG} {G : GG} {g g' : Nat} {σ σ' : Nat → Tm} {args : List Tm} (ht : CourtT A B G) (hg : g < qN G) (hg' : g' < qN G) (hF : qF G g = qF G g') (h2 : qS G g' = 2) (hm : (qP G g).map (fun p => sbs p σ) = args) (hm' : (qP G g').map (fun p => sbs p σ') = args) : g = g' ∨ Below A G g g' := by
  rcases ht.2.2.2.2.1 g g' hg hg' hF (by omega) with q | q | q
  · exact Or.inl q
  · exact (NM_no (ht.2.2.2.1 g hg).2.2.2.2.2.1.2.1 (ht.2.2.2.1 g' hg').2.2.2.2.2.1.2.1 q (hm.trans hm'.symm)).elim
  · exact Or.inr q
theorem splits_loop {K : Rows} {n f : Nat} {S : SS} {D : DS} {P : PS} {A : SG} {B : FG} {G : GG} {M : MS} {args : List Tm} {T : Tm} (hC : CourtC K n S D P A B G) (ht : CourtT A B G) (hty : Typ (frOf (Cls G)) (tyOf (tbX A B)) (spine (fnn f) args) [] T) :
    ∀ (k fu g turn : Nat) (va : Nat → Int32) (σ : Nat → Tm), g < qN G → qN G ≤ g + k → turn ≤ g → k + 3 < fu → qF G g = f → (qP G g).map (fun p => sbs p σ) = args → ValsC K n (qC G g).length va σ →
      (∃ g' va' σ', g' < qN G ∧ qS G g' = 2 ∧ qF G g' = f ∧ (qP G g').map (fun p => sbs p σ') = args ∧ ValsC K n (qC G g').length va' σ' ∧ f_X5_clauseBySplits_L55 fu K S D (mkM M va (nz (qC G g).length)) P (nz g) (nz turn) = some (nz g', mkM M va' (nz (qC G g').length))) ∨
      (∃ va' vc', f_X5_clauseBySplits_L55 fu K S D (mkM M va (nz (qC G g).length)) P (nz g) (nz turn) = some (-1, mkM M va' vc') ∧ ∀ g', g' < qN G → qS G g' = 2 → qF G g' = f → ∀ σ', (qP G g').map (fun p => sbs p σ') ≠ args) := by
  intro k
  have hD2 := hC.2.2.2.1
  have h40 := ht.2.2.1
  induction k with
  | zero => intro fu g turn va σ h1 h2; omega
  | succ k ih =>
    intro fu g turn va σ hg hk htn hfu hF hm hv
    obtain ⟨fu, rfl⟩ : ∃ e, fu = e + 1 := ⟨fu - 1, by omega⟩
    obtain ⟨y1, y2, y3, y4, y5, y6, y7, y8, y9⟩ := hC.2.2.2.2 g hg
    have hgo := ht.2.2.2.1 g hg
    have c1 : ¬ (40 : Int32) ≤ nz turn := fun hq => absurd ((nz_le (i := 40) (by decide) (by omega)).mp hq) (by omega)
    have st : f_X5_clauseBySplits_L55 (fu + 1) K S D (mkM M va (nz (qC G g).length)) P (nz g) (nz turn) = (if stW (qS G g) = 115 then (Option.bind (f_X5_goDown K S D (mkM M va (nz (qC G g).length)) P (nz g)) (fun q_15 => (if q_15.1 < 0 then (f_X5_clauseBySplits_L55 fu K S D q_15.2 P (-1) (nz (turn + 1))) else (if gix D q_15.1 = true then (f_X5_clauseBySplits_L55 fu K S D q_15.2 P q_15.1 (nz (turn + 1))) else none)))) else (if stW (qS G g) = 102 then some (nz g, mkM M va (nz (qC G g).length)) else some (-1, mkM M va (nz (qC G g).length)))) := by
      conv => lhs; unfold f_X5_clauseBySplits_L55
      rw [if_neg (nz_neg (by omega)), if_pos (gix_at hD2 h40 hg), if_neg c1, nz_nat (show g < 2147483648 by omega), y7, show nz turn + 1 = nz (turn + 1) from nz_add turn 1]
    rw [st]
    have hq : qS G g = 0 ∨ qS G g = 1 ∨ qS G g = 2 := by omega
    rcases hq with hq | hq | hq
    · rw [hq, if_neg (by decide), if_neg (by decide)]
      refine Or.inr ⟨va, _, rfl, ?_⟩
      intro g' h1 h2 h3 σ' h4
      rcases only_below ht hg h1 (hF.trans h3.symm) h2 hm h4 with q | q
      · rw [q] at hq; omega
      · have q1 := q.1
        rw [hq] at q1; cases q1
    · rw [hq, if_pos (by decide)]
      have hL : sbs (qL G g) σ = spine (fnn f) args := by rw [sbs_qL, hF, hm]
      obtain ⟨d, s1, -⟩ := hgo.2.2.2.2.2.2.2.2 hq
      have hxl : qX G g < (qC G g).length := by unfold qX; omega
      by_cases hcon : ∃ c, headc (σ (qX G g)) = cn c
      · obtain ⟨c, hc⟩ := hcon
        obtain ⟨l, hl1, hl2⟩ := spine_of (σ (qX G g))
        rw [hc] at hl1
        obtain ⟨e1, e2, e3⟩ := split_value ht hg hq (by rw [hL]; exact hty) hl1
        obtain ⟨va', h, d1, d2, d3, d4, d5, d6⟩ := goDown_yes (M := M) hC ht hg hq hv e1 e2 hl1 e3
        rw [d3, Option.bind_some, if_neg (show ¬ ((nz h, mkM M va' (nz (qC G h).length)) : Int32 × MS).1 < 0 from nz_neg (by omega)), if_pos (show gix D ((nz h, mkM M va' (nz (qC G h).length)) : Int32 × MS).1 = true from gix_at hD2 h40 d1)]
        refine ih fu h (turn + 1) va' _ d1 (by omega) (by omega) (by omega) (d4.trans hF) ?_ d6
        rw [d5, List.map_map, ← hm]
        congr 1
        funext p
        show sbs (sbs p (chS A (qX G g) c)) (sgS (qX G g) l σ) = sbs p σ
        unfold chS
        rw [← e3]
        exact down_takes (isC_cn c) hl1
      · have hno : ∀ c, headc (σ (qX G g)) ≠ cn c := fun c q => hcon ⟨c, q⟩
        obtain ⟨fu, rfl⟩ : ∃ e, fu = e + 1 := ⟨fu - 1, by omega⟩
        rw [goDown_no (M := M) hC ht hg hq hv hno, Option.bind_some, if_pos (show ((-1, mkM M va (nz (qC G g).length)) : Int32 × MS).1 < 0 from (by decide : (-1 : Int32) < 0))]
        refine Or.inr ⟨va, nz (qC G g).length, ?_, ?_⟩
        · conv => lhs; unfold f_X5_clauseBySplits_L55
          rw [if_pos (by decide)]
          split <;> rfl
        · intro g' h1 h2 h3 σ' h4
          rcases only_below ht hg h1 (hF.trans h3.symm) h2 hm h4 with q | ⟨q1, c, θ, q2, q3, q4⟩
          · rw [q] at hq; omega
          · have hLL : sbs (sbs (sbs (qL G g) (thS (qX G g) (sPrt A c).length (cn c))) θ) σ' = sbs (qL G g) σ := by
              rw [hL, ← h4, q4]
              unfold qL chS
              rw [← map_qL, ← map_qL, ← map_qL, hF]
            obtain ⟨w1, -⟩ := down_only (con := conB) (fn := fnB) (qL_lhsS hgo) ((hgo.2.2.2.2.2.1.2.2.2.1 _).mpr hxl) (isC_cn c) hLL
            exact hno c w1
    · rw [hq, if_neg (by decide), if_pos (by decide)]
      exact Or.inl ⟨g, va, σ, hg, hq, hF, hm, hv, rfl⟩
theorem copy_given {K : Rows} {n f r : Nat} {S : SS} {D : DS} {P : PS} {M : MS} {fg gc : Nat} (hD2 : D.2.1 = nz gc) (h40 : gc ≤ 40) (hfg : P.2.2.1 f = nz fg) (hfgc : fg < gc) (hf : f < 1000000) (hr : r ≤ 4) : ∀ (k fu i : Nat) (va : Nat → Int32), i + k = r → k < fu → (∀ x, x < i → va x = M.2.2.1 x) →
    ∃ va', f_X5_clauseBySplits_L10 fu K S D (mkM M va (nz r)) P (nz f) (nz i) = f_X5_clauseBySplits_L55 100000 K S D (mkM M va' (nz r)) P (nz fg) 0 ∧ ∀ x, x < r → va' x = M.2.2.1 x := by
  intro k
  induction k with
  | zero =>
    intro fu i va hi hfu h
    obtain ⟨fu, rfl⟩ : ∃ e, fu = e + 1 := ⟨fu - 1, by omega⟩
    obtain rfl : i = r := by omega
    refine ⟨va, ?_, h⟩
    have hvc : (mkM M va (nz i)).2.2.2.2.1 = nz i := rfl
    conv => lhs; unfold f_X5_clauseBySplits_L10
    rw [hvc, if_pos ((nz_le (by omega) (by omega)).mpr (Nat.le_refl _)), nz_nat (by omega), hfg, goal_at hD2 h40 (by omega), if_pos hfgc, Option.bind_some, if_neg (nz_neg (by omega)), if_pos (gix_at hD2 h40 hfgc)]
  | succ k ih =>
    intro fu i va hi hfu h
    obtain ⟨fu, rfl⟩ : ∃ e, fu = e + 1 := ⟨fu - 1, by omega⟩
    have hvc : (mkM M va (nz r)).2.2.2.2.1 = nz r := rfl
    have c1 : ¬ nz r ≤ nz i := fun hq => absurd ((nz_le (by omega) (by omega)).mp hq) (by omega)
    have c2 : ¬ (4 : Int32) ≤ nz i := fun hq => absurd ((nz_le (i := 4) (by decide) (by omega)).mp hq) (by omega)
    have st : f_X5_clauseBySplits_L10 (fu + 1) K S D (mkM M va (nz r)) P (nz f) (nz i) = f_X5_clauseBySplits_L10 fu K S D (mkM M (upd va i (M.2.2.1 i)) (nz r)) P (nz f) (nz (i + 1)) := by
      conv => lhs; unfold f_X5_clauseBySplits_L10
      rw [hvc, if_neg c1, if_neg c2, if_pos (nz_inb (by omega) (by decide)), if_pos (nz_inb (by omega) (by decide)), nz_nat (by omega), show nz i + 1 = nz (i + 1) from nz_add i 1]
      rfl
    rw [st]
    refine ih fu (i + 1) _ (by omega) (by omega) ?_
    intro x hx
    by_cases e : x = i
    · rw [e]; exact if_pos rfl
    · exact (if_neg e).trans (h x (by omega))
theorem splits_ok {K : Rows} {n f : Nat} {S : SS} {D : DS} {P : PS} {A : SG} {B : FG} {G : GG} {M : MS} {args : List Tm} {T : Tm} (hC : CourtC K n S D P A B G) (ht : CourtT A B G) (hf : f < fFc B) (hty : Typ (frOf (Cls G)) (tyOf (tbX A B)) (spine (fnn f) args) [] T) (hgv : Given K n M.2.2.1 args) (hlen : args.length = fAr B f) (hcl : ∀ a ∈ args, freeT a = 0) :
    (∃ g' va' σ', g' < qN G ∧ qS G g' = 2 ∧ qF G g' = f ∧ (qP G g').map (fun p => sbs p σ') = args ∧ ValsC K n (qC G g').length va' σ' ∧ f_X5_clauseBySplits K S D M P (nz f) = some (nz g', mkM M va' (nz (qC G g').length))) ∨
    (∃ va' vc', f_X5_clauseBySplits K S D M P (nz f) = some (-1, mkM M va' vc') ∧ ∀ g', g' < qN G → qS G g' = 2 → qF G g' = f → ∀ σ', (qP G g').map (fun p => sbs p σ') ≠ args) := by
  have hD2 := hC.2.2.2.1
  have h40 := ht.2.2.1
  have h8 := ht.2.1.1
  obtain ⟨-, p1, p2⟩ := hC.2.2.1.2 f hf
  obtain ⟨f1, f2, f3⟩ := ht.2.2.2.2.2 f hf
  have hr4 : fAr B f ≤ 4 := by
    obtain ⟨l, R, q1, q2, q3, q4, -⟩ := ht.2.1.2 _ hf
    omega
  have hgo := ht.2.2.2.1 _ f1
  have hl : (qC G (fFg B f)).length = fAr B f := by
    have hocc := hgo.2.2.2.2.2.1.2.2.2.1
    have e : ∀ k, k < fAr B f ↔ k < (qC G (fFg B f)).length := by
      intro k
      rw [← hocc k]
      unfold qL
      rw [f3, occ_spine_argv]
      exact ⟨fun q => Or.inr ⟨Nat.zero_le _, by omega⟩, fun q => q.elim (fun q => absurd q (occ_c rfl k)) (fun q => by omega)⟩
    have e1 := e (fAr B f)
    have e2 := e (qC G (fFg B f)).length
    omega
  obtain ⟨va', r1, r2⟩ := copy_given (K := K) (n := n) (S := S) (M := M) hD2 h40 p2 f1 (show f < 1000000 by omega) hr4 (fAr B f) 100000 0 M.2.2.2.1 (by omega) (by omega) (fun x h => absurd h (by omega))
  have start : f_X5_clauseBySplits K S D M P (nz f) = f_X5_clauseBySplits_L55 100000 K S D (mkM M va' (nz (qC G (fFg B f)).length)) P (nz (fFg B f)) (nz 0) := by
    rw [hl]
    unfold f_X5_clauseBySplits
    rw [nz_nat (show f < 2147483648 by omega), p1]
    exact r1
  rw [start]
  have hat : ∀ k, k < fAr B f → ∃ a, args[fAr B f - 1 - k]? = some a := fun k hk => ⟨_, List.getElem?_eq_getElem (show fAr B f - 1 - k < args.length by omega)⟩
  refine splits_loop (M := M) (σ := fun k => if k < fAr B f then (args[fAr B f - 1 - k]?).getD (dat 0) else dat 0) hC ht hty 41 100000 (fFg B f) 0 va' f1 (by omega) (Nat.zero_le _) (by omega) f2 ?_ ⟨?_, ?_⟩
  · rw [f3]
    refine map_ext (by rw [argv_length]; exact hlen) ?_
    intro x p a hp ha
    have hx : x < fAr B f := by
      rcases Nat.lt_or_ge x (fAr B f) with q | q
      · exact q
      · rw [List.getElem?_eq_none (by rw [argv_length]; exact q)] at hp; cases hp
    rw [argv_at _ _ _ hx, Nat.zero_add] at hp
    have e : Jvm.Term.index (fAr B f - 1 - x) = p := by injection hp
    rw [← e]
    show (if fAr B f - 1 - x < fAr B f then (args[fAr B f - 1 - (fAr B f - 1 - x)]?).getD (dat 0) else dat 0) = a
    rw [if_pos (by omega), show fAr B f - 1 - (fAr B f - 1 - x) = x by omega, ha]
    rfl
  · intro k hk
    rw [hl] at hk ⊢
    obtain ⟨a, ha⟩ := hat k hk
    obtain ⟨j, j1, j2⟩ := hgv _ a ha
    refine ⟨j, (r2 _ (by omega)).trans j1, ?_⟩
    show Rep K n (if k < fAr B f then (args[fAr B f - 1 - k]?).getD (dat 0) else dat 0) j
    rw [if_pos hk, ha]
    exact j2
  · intro k
    show freeT (if k < fAr B f then (args[fAr B f - 1 - k]?).getD (dat 0) else dat 0) = 0
    by_cases hk : k < fAr B f
    · obtain ⟨a, ha⟩ := hat k hk
      rw [if_pos hk, ha]
      exact hcl a (List.mem_of_getElem? ha)
    · rw [if_neg hk]; rfl
