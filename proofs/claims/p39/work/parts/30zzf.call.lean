/-! the right side for a call -/
def mkG (M : MS) (gv : Nat → Int32) : MS := (M.1, M.2.1, gv, M.2.2.2)
def mkV (M : MS) (gv va : Nat → Int32) (vc : Int32) : MS := (M.1, M.2.1, gv, va, vc, M.2.2.2.2.2)
theorem g_wv {K K' : Rows} {M : MS} {p d x : Int32} (h : rWV 200 M.2.2.2.2.1 M.2.2.2.1 K p d = some (x, M.2.2.2.2.1, M.2.2.2.1, K')) : g_X5_withValues K M p d = some (x, K', M) := by
  have e : g_X5_withValues K M p d = (rWV 200 M.2.2.2.2.1 M.2.2.2.1 K p d).map (fun z => (z.1, z.2.2.2, (M.1, M.2.1, M.2.2.1, z.2.2.1, z.2.1, M.2.2.2.2.2.1, M.2.2.2.2.2.2.1, M.2.2.2.2.2.2.2.1, M.2.2.2.2.2.2.2.2))) := by
    unfold g_X5_withValues rWV
    rfl
  rw [e, h]
  rfl
theorem Cls_fires {A : SG} {B : FG} {G : GG} {g f : Nat} {σ : Nat → Tm} {args : List Tm} (ht : CourtT A B G) (hg : g < qN G) (h2 : qS G g = 2) (hF : qF G g = f) (hm : (qP G g).map (fun p => sbs p σ) = args) : frOf (Cls G) (spine (fnn f) args) = some (sbs (qR G g) σ) :=
  (frOf_iff (court_COK ht)).mpr ⟨qL G g, qR G g, ⟨g, hg, h2, rfl, rfl⟩, σ, by rw [sbs_qL, hF, hm], rfl⟩
theorem Cls_none {A : SG} {B : FG} {G : GG} {f : Nat} {args : List Tm} (ht : CourtT A B G) (hlen : args.length = fAr B f) (h : ∀ g', g' < qN G → qS G g' = 2 → qF G g' = f → ∀ σ', (qP G g').map (fun p => sbs p σ') ≠ args) : frOf (Cls G) (spine (fnn f) args) = none := by
  cases hq : frOf (Cls G) (spine (fnn f) args) with
  | none => rfl
  | some r =>
    obtain ⟨P, R, ⟨g, g1, g2, rfl, rfl⟩, σ, e1, e2⟩ := (frOf_iff (court_COK ht)).mp hq
    rw [sbs_qL] at e1
    have hf : fnn (qF G g) = fnn f := by
      have q := congrArg headc e1
      rw [headc_spine, headc_spine] at q
      exact q
    have hf' := fnn_inj hf
    have hl : ((qP G g).map (fun p => sbs p σ)).length = args.length := by
      rw [List.length_map, (ht.2.2.2.1 g g1).2.2.2.2.2.1.1, hf', hlen]
    obtain ⟨-, e3⟩ := spine_inj _ _ _ _ hl e1
    exact absurd e3 (h g g1 g2 hf' σ)
theorem sub_free {con : Tm → Bool} : ∀ (p : Tm) (v : Bool) (σ : Nat → Tm), patB con p v → freeT (sbs p σ) = 0 → ∀ k, occ p k → freeT (σ k) = 0 := by
  intro p
  refine tm_ind (P := fun p => ∀ (v : Bool) (σ : Nat → Tm), patB con p v → freeT (sbs p σ) = 0 → ∀ k, occ p k → freeT (σ k) = 0) ?_ ?_ ?_ ?_ ?_ p
  · intro i v σ _ h k hk
    have e : i = k := hk
    subst e
    exact h
  · intro t hc v σ _ _ k hk; exact absurd hk (occ_c hc k)
  · intro a b _ _ v σ h; exact h.elim
  · intro a b _ _ v σ h; exact h.elim
  · rintro a b ha hb v σ ⟨h1, h2⟩ h k hk
    have h' : max (freeT (sbs a σ)) (freeT (sbs b σ)) = 0 := h
    rcases hk with hk | hk
    · exact ha false σ h1 (by omega) k hk
    · exact hb true σ h2 (by omega) k hk
/-- the clause by order, its values closed -/
theorem order_closed {K : Rows} {n f : Nat} {S : SS} {D : DS} {P : PS} {A : SG} {B : FG} {G : GG} {M : MS} {args : List Tm} (hC : CourtC K n S D P A B G) (ht : CourtT A B G) (hf : f < fFc B) (hgv : Given K n M.2.2.1 args) (hlen : args.length = fAr B f) (hcl : ∀ a ∈ args, freeT a = 0) :
    (∃ g' va' σ', g' < qN G ∧ qS G g' = 2 ∧ qF G g' = f ∧ (qP G g').map (fun p => sbs p σ') = args ∧ ValsC K n (qC G g').length va' σ' ∧ f_X5_clauseByOrder K D M P (nz f) = some (nz g', K, mkM M va' (nz (qC G g').length))) ∨
    (∃ va' vc', f_X5_clauseByOrder K D M P (nz f) = some (-1, K, mkM M va' vc') ∧ ∀ g', g' < qN G → qS G g' = 2 → qF G g' = f → ∀ σ', (qP G g').map (fun p => sbs p σ') ≠ args) := by
  rcases order_ok hC ht hf hgv hlen with ⟨g', va', σ, h1, h2, h3, h4, h5, h6⟩ | h
  · left
    have hgo := ht.2.2.2.1 g' h1
    obtain ⟨b1, b2, b3, b4, b5⟩ := hgo.2.2.2.2.2.1
    have hin : ∀ k, k < (qC G g').length → ∃ (x : Nat) (p : Tm), (qP G g')[x]? = some p ∧ occ p k := by
      intro k hk
      rcases (occ_spine _ _ k).mp ((b4 k).mpr hk) with q | ⟨p, hp, q⟩
      · exact absurd q (occ_c rfl k)
      · obtain ⟨x, hx⟩ := List.getElem?_of_mem hp
        exact ⟨x, p, hx, q⟩
    have hst : ∀ (x : Nat) (p : Tm), (qP G g')[x]? = some p → freeT (sbs p σ) = 0 := by
      intro x p hp
      refine hcl _ ?_
      rw [← h4]
      exact List.mem_map.mpr ⟨p, List.mem_of_getElem? hp, rfl⟩
    refine ⟨g', va', fun k => if k < (qC G g').length then σ k else dat 0, h1, h2, h3, ?_, ⟨?_, ?_⟩, h6⟩
    · rw [← h4]
      apply List.map_congr_left
      intro p hp
      refine sbs_occ_pat p true _ _ (b2 p hp) (fun k hk => if_pos ?_)
      exact (b4 k).mp ((occ_spine _ _ k).mpr (Or.inr ⟨p, hp, hk⟩))
    · intro k hk
      obtain ⟨x, p, hx, ho⟩ := hin k hk
      obtain ⟨j, j1, j2⟩ := h5 x p hx k ho
      refine ⟨j, j1, ?_⟩
      show Rep K n (if k < (qC G g').length then σ k else dat 0) j
      rw [if_pos hk]
      exact j2
    · intro k
      show freeT (if k < (qC G g').length then σ k else dat 0) = 0
      by_cases hk : k < (qC G g').length
      · rw [if_pos hk]
        obtain ⟨x, p, hx, ho⟩ := hin k hk
        exact sub_free p true σ (b2 p (List.mem_of_getElem? hx)) (hst x p hx) k ho
      · rw [if_neg hk]; rfl
  · exact Or.inr h
/-- what a call comes to: its right side, or nothing -/
def CallR (o : Option (Int32 × TS × MS)) (K : Rows) (n : Nat) (M : MS) (R : Option Tm) : Prop :=
  ∃ K' n' gv va vc x, o = some (x, K', mkV M gv va vc) ∧ WF K' n' ∧ n ≤ n' ∧ n' ≤ n + 30 ∧ Ext K K' n ∧ ((∃ r m, R = some r ∧ sizeT r ≤ 200 ∧ x = nz m ∧ Rep K' n' r m) ∨ ((∀ r, R = some r → 200 < sizeT r) ∧ x = -1))
theorem with_ok {K : Rows} {n g f : Nat} {S : SS} {D : DS} {P : PS} {A : SG} {B : FG} {G : GG} {M : MS} {gv va : Nat → Int32} {σ : Nat → Tm} {args : List Tm} (hC : CourtC K n S D P A B G) (ht : CourtT A B G) (hg : g < qN G) (h2 : qS G g = 2) (hF : qF G g = f) (hm : (qP G g).map (fun p => sbs p σ) = args) (hv : ValsC K n (qC G g).length va σ) (hroom : n + 30 ≤ 32768) :
    CallR (Option.bind (g_X5_withValues K (mkV M gv va (nz (qC G g).length)) (P.2.2.2.2.2.2.1 g) 0) (fun q_6 => some (q_6.1, q_6.2.1, q_6.2.2))) K n M (frOf (Cls G) (spine (fnn f) args)) := by
  obtain ⟨y1, y2, y3, y4, y5, y6, y7, y8, y9⟩ := hC.2.2.2.2 g hg
  obtain ⟨j, j1, j2⟩ := y8 h2
  have hgo := ht.2.2.2.1 g hg
  have hfo := hgo.2.2.2.2.2.2.2.1 h2
  have hsc := fill_scope hfo
  have tr := rWV_made (wv := va) hgo.2.1 hv.2 (qR G g) 200 K n j 0 hC.1 j2 hv.1 (by have := hfo.2.1; omega) (by omega) (by have := hfo.2.1; omega) (by have := hfo.2.1; omega)
  rw [ptn_zero] at tr
  obtain ⟨K', n', w1, w2, w3, w4, w5⟩ := tr
  rw [Cls_fires ht hg h2 hF hm, j1, show (0 : Int32) = nz 0 from rfl]
  rcases w5 with ⟨s1, m, s2, s3⟩ | ⟨s1, s2⟩
  · refine ⟨K', n', gv, va, nz (qC G g).length, nz m, ?_, w1, w2, by have := hfo.2.1; omega, w4, Or.inl ⟨_, m, rfl, s1, rfl, s3⟩⟩
    rw [g_wv (M := mkV M gv va (nz (qC G g).length)) s2, Option.bind_some]
  · refine ⟨K', n', gv, va, nz (qC G g).length, -1, ?_, w1, w2, by have := hfo.2.1; omega, w4, Or.inr ⟨fun r hr => ?_, rfl⟩⟩
    · rw [g_wv (M := mkV M gv va (nz (qC G g).length)) s2, Option.bind_some]
    · have e : sbs (qR G g) σ = r := by injection hr
      rw [← e]; exact s1
theorem dispatch_ok {K : Rows} {n f : Nat} {S : SS} {D : DS} {P : PS} {A : SG} {B : FG} {G : GG} {M : MS} {gv : Nat → Int32} {args : List Tm} {T : Tm} (hC : CourtC K n S D P A B G) (ht : CourtT A B G) (hf : f < fFc B) (hty : Typ (frOf (Cls G)) (tyOf (tbX A B)) (spine (fnn f) args) [] T) (hgv : Given K n gv args) (hlen : args.length = fAr B f) (hcl : ∀ a ∈ args, freeT a = 0) (hroom : n + 30 ≤ 32768) :
    CallR (if (mkG M gv).2.2.2.2.2.2.2.2 = 0 then (Option.bind (f_X5_clauseByOrder K D (mkG M gv) P (nz f)) (fun q_3 => (if q_3.1 < 0 then some ((-1), q_3.2.1, q_3.2.2) else (if gix D q_3.1 = true then (Option.bind (g_X5_withValues q_3.2.1 q_3.2.2 (P.2.2.2.2.2.2.1 (Int32.toNatClampNeg q_3.1)) 0) (fun q_6 => some (q_6.1, q_6.2.1, q_6.2.2))) else none)))) else (Option.bind (f_X5_clauseBySplits K S D (mkG M gv) P (nz f)) (fun q_7 => (if q_7.1 < 0 then some ((-1), K, q_7.2) else (if gix D q_7.1 = true then (Option.bind (g_X5_withValues K q_7.2 (P.2.2.2.2.2.2.1 (Int32.toNatClampNeg q_7.1)) 0) (fun q_10 => some (q_10.1, q_10.2.1, q_10.2.2))) else none))))) K n M (frOf (Cls G) (spine (fnn f) args)) := by
  have hD2 := hC.2.2.2.1
  have h40 := ht.2.2.1
  have none_case : ∀ va vc, (∀ g', g' < qN G → qS G g' = 2 → qF G g' = f → ∀ σ', (qP G g').map (fun p => sbs p σ') ≠ args) → CallR (some ((-1 : Int32), K, mkV M gv va vc)) K n M (frOf (Cls G) (spine (fnn f) args)) := by
    intro va vc h
    rw [Cls_none ht hlen h]
    exact ⟨K, n, gv, va, vc, -1, rfl, hC.1, Nat.le_refl _, by omega, Ext_refl K n, Or.inr ⟨fun r hr => (by cases hr), rfl⟩⟩
  by_cases hb : (mkG M gv).2.2.2.2.2.2.2.2 = 0
  · rw [if_pos hb]
    rcases order_closed (M := mkG M gv) hC ht hf hgv hlen hcl with ⟨g', va', σ', h1, h2, h3, h4, h5, h6⟩ | ⟨va', vc', h1, h2⟩
    · rw [h6, Option.bind_some, if_neg (show ¬ ((nz g', K, mkM (mkG M gv) va' (nz (qC G g').length)) : Int32 × Rows × MS).1 < 0 from nz_neg (by omega)), if_pos (show gix D ((nz g', K, mkM (mkG M gv) va' (nz (qC G g').length)) : Int32 × Rows × MS).1 = true from gix_at hD2 h40 h1), show Int32.toNatClampNeg ((nz g', K, mkM (mkG M gv) va' (nz (qC G g').length)) : Int32 × Rows × MS).1 = g' from nz_nat (by omega)]
      exact with_ok (gv := gv) hC ht h1 h2 h3 h4 h5 hroom
    · rw [h1, Option.bind_some, if_pos (show ((-1, K, mkM (mkG M gv) va' vc') : Int32 × Rows × MS).1 < 0 from (by decide : (-1 : Int32) < 0))]
      exact none_case va' vc' h2
  · rw [if_neg hb]
    rcases splits_ok (M := mkG M gv) hC ht hf hty hgv hlen hcl with ⟨g', va', σ', h1, h2, h3, h4, h5, h6⟩ | ⟨va', vc', h1, h2⟩
    · rw [h6, Option.bind_some, if_neg (show ¬ ((nz g', mkM (mkG M gv) va' (nz (qC G g').length)) : Int32 × MS).1 < 0 from nz_neg (by omega)), if_pos (show gix D ((nz g', mkM (mkG M gv) va' (nz (qC G g').length)) : Int32 × MS).1 = true from gix_at hD2 h40 h1), show Int32.toNatClampNeg ((nz g', mkM (mkG M gv) va' (nz (qC G g').length)) : Int32 × MS).1 = g' from nz_nat (by omega)]
      exact with_ok (gv := gv) hC ht h1 h2 h3 h4 h5 hroom
    · rw [h1, Option.bind_some, if_pos (show ((-1, mkM (mkG M gv) va' vc') : Int32 × MS).1 < 0 from (by decide : (-1 : Int32) < 0))]
      exact none_case va' vc' h2
theorem given_loop {K : Rows} {n f : Nat} {S : SS} {D : DS} {P : PS} {M : MS} {h0 : Tm} (hw : WF K n) : ∀ (m : Nat) (args rest : List Tm) (fu : Nat) (gv : Nat → Int32) (vr : Nat), args.length = m → args.length + rest.length ≤ 4 → m < fu → Rep K n (spine h0 args) vr → (∀ (x : Nat) (a : Tm), rest[x]? = some a → ∃ j, gv (args.length + x) = nz j ∧ Rep K n a j) →
    ∃ gv' vr', f_X5_rightSideFor_L11 fu K S D (mkG M gv) P (nz f) (nz f) (nz vr) (nz m + (-1)) = f_X5_rightSideFor_L11 (fu - m) K S D (mkG M gv') P (nz f) (nz f) (nz vr') (nz 0 + (-1)) ∧ Given K n gv' (args ++ rest) := by
  intro m
  have hn := hw.2.1
  induction m with
  | zero =>
    intro args rest fu gv vr hm hl hf hr hg
    have e : args = [] := List.length_eq_zero_iff.mp hm
    subst e
    refine ⟨gv, vr, rfl, fun x a hx => ?_⟩
    obtain ⟨j, j1, j2⟩ := hg x a hx
    rw [List.length_nil, Nat.zero_add] at j1
    exact ⟨j, j1, j2⟩
  | succ m ih =>
    intro args rest fu gv vr hm hl hf hr hg
    obtain ⟨fu, rfl⟩ : ∃ e, fu = e + 1 := ⟨fu - 1, by omega⟩
    have hne : args ≠ [] := fun q => by rw [q] at hm; cases hm
    have es := List.dropLast_concat_getLast hne
    have hld : args.dropLast.length = m := by rw [List.length_dropLast]; omega
    rw [← es, spine_append] at hr
    have hr' := hr
    obtain ⟨h1, h2, h3, j, l, a4, a5, a6, a7, a8, a9⟩ := hr'
    have c1 : ¬ (4 : Int32) ≤ nz m := fun hq => absurd ((nz_le (i := 4) (by decide) (by omega)).mp hq) (by omega)
    have st : f_X5_rightSideFor_L11 (fu + 1) K S D (mkG M gv) P (nz f) (nz f) (nz vr) (nz (m + 1) + (-1)) = f_X5_rightSideFor_L11 fu K S D (mkG M (upd gv m (nz l))) P (nz f) (nz f) (nz j) (nz m + (-1)) := by
      rw [nz_m1]
      conv => lhs; unfold f_X5_rightSideFor_L11
      rw [if_neg (nz_neg (by omega)), if_neg c1, g_second, rSecond_at hw h1, Option.bind_some, a7, if_pos (nz_inb (by omega) (by decide)), g_first, rFirst_at hw h1, Option.bind_some, a6, nz_nat (by omega)]
      rfl
    obtain ⟨gv', vr', r1, r2⟩ := ih args.dropLast (args.getLast hne :: rest) fu (upd gv m (nz l)) j hld (by rw [hld, List.length_cons]; omega) (by omega) a8 (by
      intro x a hx
      rw [hld]
      cases x with
      | zero =>
        have e : args.getLast hne = a := by simpa using hx
        subst e
        exact ⟨l, if_pos rfl, a9⟩
      | succ x =>
        obtain ⟨j', q1, q2⟩ := hg x a (by simpa using hx)
        refine ⟨j', ?_, q2⟩
        rw [show m + (x + 1) = args.length + x by omega]
        exact (if_neg (by omega)).trans q1)
    refine ⟨gv', vr', ?_, ?_⟩
    · rw [st, r1, show fu + 1 - (m + 1) = fu - m by omega]
    · have ea : args.dropLast ++ args.getLast hne :: rest = args ++ rest := by
        rw [List.append_cons, es]
      rw [← ea]; exact r2
theorem call_ok {K : Rows} {n f vr : Nat} {S : SS} {D : DS} {P : PS} {A : SG} {B : FG} {G : GG} {M : MS} {args : List Tm} {T : Tm} (hC : CourtC K n S D P A B G) (ht : CourtT A B G) (hf : f < fFc B) (hr : Rep K n (spine (fnn f) args) vr) (hty : Typ (frOf (Cls G)) (tyOf (tbX A B)) (spine (fnn f) args) [] T) (hlen : args.length = fAr B f) (hcl : ∀ a ∈ args, freeT a = 0) (hroom : n + 30 ≤ 32768) :
    CallR (f_X5_rightSideFor K S D M P (nz f) (nz f) (nz vr)) K n M (frOf (Cls G) (spine (fnn f) args)) := by
  have h8 := ht.2.1.1
  obtain ⟨-, p1, p2⟩ := hC.2.2.1.2 f hf
  have hr4 : fAr B f ≤ 4 := by
    obtain ⟨l, R, q1, q2, q3, q4, -⟩ := ht.2.1.2 _ hf
    omega
  obtain ⟨gv', vr', r1, r2⟩ := given_loop (f := f) (S := S) (D := D) (P := P) (M := M) hC.1 args.length args [] 100000 M.2.2.1 vr rfl (by rw [List.length_nil]; omega) (by omega) hr (fun x a hx => by simp at hx)
  rw [List.append_nil] at r2
  have e : f_X5_rightSideFor K S D M P (nz f) (nz f) (nz vr) = f_X5_rightSideFor_L11 (100000 - args.length) K S D (mkG M gv') P (nz f) (nz f) (nz vr') (nz 0 + (-1)) := by
    unfold f_X5_rightSideFor
    rw [nz_nat (show f < 2147483648 by omega), p1, show nz (fAr B f) - 1 = nz args.length + (-1) by rw [hlen]; exact Int32.sub_eq_add_neg _ _]
    exact r1
  obtain ⟨fu, hfu⟩ : ∃ fu, 100000 - args.length = fu + 1 := ⟨99999 - args.length, by omega⟩
  rw [e, hfu]
  conv => arg 1; unfold f_X5_rightSideFor_L11
  rw [if_pos (by decide : nz 0 + (-1) < 0)]
  exact dispatch_ok hC ht hf hty r2 hlen hcl hroom
