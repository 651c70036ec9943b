/-! the clauses of a court run together; a new function -/
def Cls (G : GG) (P R : Tm) : Prop := ∃ g, g < qN G ∧ qS G g = 2 ∧ P = qL G g ∧ R = qR G g
theorem spine_inj : ∀ (l l' : List Tm) (h h' : Tm), l.length = l'.length → spine h l = spine h' l' → h = h' ∧ l = l'
  | [], [], h, h', _, e => ⟨e, rfl⟩
  | [], _ :: _, _, _, hl, _ => by cases hl
  | _ :: _, [], _, _, hl, _ => by cases hl
  | a :: l, b :: l', h, h', hl, e => by
    obtain ⟨e1, e2⟩ := spine_inj l l' (.mul h a) (.mul h' b) (by simpa using hl) e
    have e3 : h = h' := by injection e1
    have e4 : a = b := by injection e1
    exact ⟨e3, by rw [e4, e2]⟩
theorem sbs_agree : ∀ (t : Tm) (σ τ : Nat → Tm), (∀ k, k < freeT t → σ k = τ k) → sbs t σ = sbs t τ := by
  intro t
  have up : ∀ (b : Tm) (σ τ : Nat → Tm), (∀ k, k < freeT b - 1 → σ k = τ k) → ∀ k, k < freeT b → ups σ k = ups τ k := by
    intro b σ τ h k hk
    cases k with
    | zero => rfl
    | succ k => show ren (σ k) Nat.succ = ren (τ k) Nat.succ; rw [h k (by omega)]
  refine tm_ind (P := fun t => ∀ (σ τ : Nat → Tm), (∀ k, k < freeT t → σ k = τ k) → sbs t σ = sbs t τ) ?_ ?_ ?_ ?_ ?_ t
  · intro k σ τ h; exact h k (Nat.lt_succ_self k)
  · intro t hc σ τ _; rw [sbs_c hc, sbs_c hc]
  · intro a b ha hb σ τ h
    have h' : ∀ k, k < max (freeT a) (freeT b - 1) → σ k = τ k := h
    show Jvm.Term.add (sbs a σ) (sbs b (ups σ)) = .add (sbs a τ) (sbs b (ups τ))
    rw [ha σ τ (fun k hk => h' k (by omega)), hb (ups σ) (ups τ) (up b σ τ (fun k hk => h' k (by omega)))]
  · intro a b ha hb σ τ h
    have h' : ∀ k, k < max (freeT a) (freeT b - 1) → σ k = τ k := h
    show Jvm.Term.sub (sbs a σ) (sbs b (ups σ)) = .sub (sbs a τ) (sbs b (ups τ))
    rw [ha σ τ (fun k hk => h' k (by omega)), hb (ups σ) (ups τ) (up b σ τ (fun k hk => h' k (by omega)))]
  · intro a b ha hb σ τ h
    have h' : ∀ k, k < max (freeT a) (freeT b) → σ k = τ k := h
    show Jvm.Term.mul (sbs a σ) (sbs b σ) = .mul (sbs a τ) (sbs b τ)
    rw [ha σ τ (fun k hk => h' k (by omega)), hb σ τ (fun k hk => h' k (by omega))]
theorem sbs_zero {t : Tm} (h : freeT t = 0) (σ : Nat → Tm) : sbs t σ = t := by
  rw [sbs_agree t σ (fun k => .index k) (fun k hk => absurd hk (by omega))]
  exact sbs_id t
theorem sbs_qL (G : GG) (g : Nat) (σ : Nat → Tm) : sbs (qL G g) σ = spine (fnn (qF G g)) ((qP G g).map (fun p => sbs p σ)) := by
  unfold qL
  rw [spine_sbs]
  rfl
theorem fnn_inj {f f' : Nat} (h : fnn f = fnn f') : f = f' := by
  have e : 8 * f + 4 = 8 * f' + 4 := by injection h
  omega
theorem qL_lhsS {A : SG} {B : FG} {G : GG} {g : Nat} (h : GoalOK A B G g) : lhsS conB fnB (qL G g) := lhsS_spine (qP G g) (fnn (qF G g)) ((lhsS_c (show isC (fnn (qF G g)) = true from rfl)).mpr (fnB_fnn _)) h.2.2.2.2.2.1.2.1
theorem qL_head (G : GG) (g : Nat) : headc (qL G g) = fnn (qF G g) ∧ nargs (qL G g) = (qP G g).length := by
  unfold qL
  rw [headc_spine, nargs_spine]
  exact ⟨rfl, Nat.zero_add _⟩
theorem fill_scope {A : SG} {B : FG} {G : GG} {g : Nat} (h : FillOK A B G g) : freeT (qR G g) ≤ (qC G g).length := by
  have h1 := h.1
  cases hA : tyT (tbl A B) (qR G g) (qC G g) with
  | none => rw [hA] at h1; cases h1
  | some T => exact tyT_scope _ _ _ hA
theorem court_COK {A : SG} {B : FG} {G : GG} (h : CourtT A B G) : COK conB fnB (Cls G) := by
  obtain ⟨h1, h2, h3, h4, h5, h6⟩ := h
  refine ⟨?_, ?_, ?_, ?_⟩
  · intro c hc hf
    cases c with
    | arg m =>
      have q1 : (m % 8 == 3) = true := hc
      have q2 : (m % 8 == 4) = true := hf
      simp at q1 q2
      omega
    | _ => cases hc
  · rintro P R ⟨g, g1, g2, rfl, rfl⟩
    exact ⟨qL_lhsS (h4 g g1), (h4 g g1).2.2.2.2.2.1.2.2.1⟩
  · rintro P R P' R' ⟨g, g1, g2, rfl, rfl⟩ ⟨g', g1', g2', rfl, rfl⟩ he
    rw [(qL_head G g).1, (qL_head G g').1] at he
    rw [(qL_head G g).2, (qL_head G g').2, (h4 g g1).2.2.2.2.2.1.1, (h4 g' g1').2.2.2.2.2.1.1, fnn_inj he]
  · rintro P R P' R' σ τ ⟨g, g1, g2, rfl, rfl⟩ ⟨g', g1', g2', rfl, rfl⟩ he
    have hg := h4 g g1
    have hg' := h4 g' g1'
    have e1 := he
    rw [sbs_qL, sbs_qL] at e1
    have hf : fnn (qF G g) = fnn (qF G g') := by
      have q := congrArg headc e1
      rw [headc_spine, headc_spine] at q
      exact q
    have hf' := fnn_inj hf
    have hlen : ((qP G g).map (fun p => sbs p σ)).length = ((qP G g').map (fun p => sbs p τ)).length := by
      rw [List.length_map, List.length_map, hg.2.2.2.2.2.1.1, hg'.2.2.2.2.2.1.1, hf']
    obtain ⟨-, e2⟩ := spine_inj _ _ _ _ hlen e1
    rcases h5 g g' g1 g1' hf' (by omega) with rfl | hn | hb
    · refine sbs_agree _ _ _ (fun k hk => ?_)
      have hs := fill_scope (hg.2.2.2.2.2.2.2.1 g2)
      exact occ_eq_lhs (con := conB) (fn := fnB) (qL G g) σ τ (qL_lhsS hg) he k ((hg.2.2.2.2.2.1.2.2.2.1 k).mpr (by omega))
    · exact (NM_no hg.2.2.2.2.2.1.2.1 hg'.2.2.2.2.2.1.2.1 hn e2).elim
    · exact absurd hb.1 (by omega)
theorem tyT_mono {tb tb' : Nat → Option Tm} (hx : Ex tb tb') : ∀ (t : Tm) (Γ : List Tm) (T : Tm), tyT tb t Γ = some T → tyT tb' t Γ = some T := by
  intro t
  have bd : ∀ {o o' : Option Tm} {u : Tm}, (∀ T, o = some T → o' = some T) → o.bind nf = some u → o'.bind nf = some u := by
    intro o o' u h h2
    cases o with
    | none => cases h2
    | some T => rw [h T rfl]; exact h2
  have un : ∀ {o o' : Option Tm} {u : Nat}, (∀ T, o = some T → o' = some T) → isUn (o.bind nf) = some u → isUn (o'.bind nf) = some u := by
    intro o o' u h h2
    cases hq : o.bind nf with
    | none => rw [hq] at h2; cases h2
    | some x => rw [bd h hq, ← hq]; exact h2
  induction t with
  | index k => intro Γ T h; exact h
  | arg m =>
    intro Γ T h
    unfold tyT at h ⊢
    by_cases c0 : m % 8 = 0
    · rw [if_pos c0] at h ⊢; exact h
    · rw [if_neg c0] at h ⊢
      by_cases c2 : m % 8 = 2
      · rw [if_pos c2] at h ⊢; exact h
      · rw [if_neg c2] at h ⊢
        by_cases c1 : m % 8 = 1
        · rw [if_pos c1] at h; cases h
        · rw [if_neg c1] at h ⊢; exact hx m T h
  | add a b iha ihb =>
    intro Γ T h
    have h' : (isUn ((tyT tb a Γ).bind nf)).bind (fun u => (isUn ((tyT tb b (a :: Γ)).bind nf)).bind (fun w => some (.arg (8 * max u w + 0)))) = some T := h
    show (isUn ((tyT tb' a Γ).bind nf)).bind (fun u => (isUn ((tyT tb' b (a :: Γ)).bind nf)).bind (fun w => some (.arg (8 * max u w + 0)))) = some T
    cases hu : isUn ((tyT tb a Γ).bind nf) with
    | none => rw [hu] at h'; cases h'
    | some u =>
      cases hv : isUn ((tyT tb b (a :: Γ)).bind nf) with
      | none => rw [hu, hv] at h'; cases h'
      | some w =>
        rw [un (iha Γ) hu, un (ihb (a :: Γ)) hv, ← h', hu, hv]
  | sub a b iha ihb =>
    intro Γ T h
    have h' : (isUn ((tyT tb a Γ).bind nf)).bind (fun _ => (tyT tb b (a :: Γ)).bind (fun B => capT (.add a B))) = some T := h
    show (isUn ((tyT tb' a Γ).bind nf)).bind (fun _ => (tyT tb' b (a :: Γ)).bind (fun B => capT (.add a B))) = some T
    cases hu : isUn ((tyT tb a Γ).bind nf) with
    | none => rw [hu] at h'; cases h'
    | some u =>
      cases hv : tyT tb b (a :: Γ) with
      | none => rw [hu, hv] at h'; cases h'
      | some w =>
        rw [un (iha Γ) hu, ihb (a :: Γ) w hv, ← h', hu, hv]
  | mul a b iha ihb =>
    intro Γ T h
    have h' : (isPi ((tyT tb a Γ).bind nf)).bind (fun q => if (tyT tb b Γ).bind nf = some q.1 then capT (inst q.2 b) else none) = some T := h
    show (isPi ((tyT tb' a Γ).bind nf)).bind (fun q => if (tyT tb' b Γ).bind nf = some q.1 then capT (inst q.2 b) else none) = some T
    cases hu : (tyT tb a Γ).bind nf with
    | none => rw [hu] at h'; cases h'
    | some u =>
      rw [bd (iha Γ) hu]
      rw [hu] at h'
      cases hp : isPi (some u) with
      | none => rw [hp] at h'; cases h'
      | some q =>
        rw [hp] at h'
        have h2 : (if (tyT tb b Γ).bind nf = some q.1 then capT (inst q.2 b) else none) = some T := h'
        show (if (tyT tb' b Γ).bind nf = some q.1 then capT (inst q.2 b) else none) = some T
        split at h2
        · rename_i hC
          rw [if_pos (bd (ihb Γ) hC)]
          exact h2
        · cases h2
  | _ => intro Γ T h; cases h
theorem fill_mono {tb tb' : Nat → Option Tm} (hx : Ex tb tb') {t T : Tm} {Γ : List Tm} (h : (tyT tb t Γ).bind nf = some T) : (tyT tb' t Γ).bind nf = some T := by
  cases hA : tyT tb t Γ with
  | none => rw [hA] at h; cases h
  | some A => rw [tyT_mono hx t Γ A hA, ← hA]; exact h
def up1 {α : Type} (f : Nat → α) (i : Nat) (v : α) : Nat → α := fun j => if j = i then v else f j
theorem up1_eq {α : Type} (f : Nat → α) (i : Nat) (v : α) : up1 f i v i = v := if_pos rfl
theorem up1_ne {α : Type} {f : Nat → α} {i j : Nat} {v : α} (h : j ≠ i) : up1 f i v j = f j := if_neg h
/-- the goals below n are the same, but for states -/
def GSame (G G' : GG) (n : Nat) : Prop := ∀ g, g < n → qF G' g = qF G g ∧ qC G' g = qC G g ∧ qT G' g = qT G g ∧ qP G' g = qP G g
theorem qL_same {G G' : GG} {n g : Nat} (h : GSame G G' n) (hg : g < n) : qL G' g = qL G g := by
  unfold qL
  rw [(h g hg).1, (h g hg).2.2.2]
theorem SplitOK_same {A : SG} {G G' : GG} {g : Nat} (hs : GSame G G' (qN G)) (hn : qN G ≤ qN G') (hg : g < qN G) (hp : qPl G' g = qPl G g) (hc : qCh G' g = qCh G g) (h : SplitOK A G g) : SplitOK A G' g := by
  obtain ⟨d, h1, h2, h0, h3⟩ := h
  obtain ⟨s1, s2, s3, s4⟩ := hs g hg
  have hx : qX G' g = qX G g := by unfold qX; rw [s2, hp]
  refine ⟨d, by rw [hp, s2]; exact h1, by rw [hx, s2]; exact h2, by rw [hc]; exact h0, ?_⟩
  intro c c1 c2
  obtain ⟨k1, k2, k3, k4⟩ := h3 c c1 c2
  obtain ⟨t1, t2, t3, t4⟩ := hs _ k1
  rw [hc, hx, t1, t2, t4, s1, s2, s4]
  exact ⟨by omega, k2, k3, k4⟩
theorem GoalOK_same {A : SG} {B B' : FG} {G G' : GG} {g : Nat} (hs : GSame G G' (qN G)) (hn : qN G ≤ qN G') (hg : g < qN G) (hx : Ex (tbl A B) (tbl A B')) (hf : fFc B ≤ fFc B') (ha : ∀ f, f < fFc B → fAr B' f = fAr B f) (h : GoalOK A B G g)
    (h2 : qS G' g = 2 → FillOK A B' G' g) (h1 : qS G' g = 1 → SplitOK A G' g) : GoalOK A B' G' g := by
  obtain ⟨a1, a2, a3, a4, a5, a6, a7, a8, a9⟩ := h
  obtain ⟨s1, s2, s3, s4⟩ := hs g hg
  have sL := qL_same hs hg
  refine ⟨by rw [s1]; omega, by rw [s2]; exact a2, by rw [s2]; exact a3, by rw [s3]; exact a4, by rw [s2]; exact a5, ?_, ?_, h2, h1⟩
  · obtain ⟨b1, b2, b3, b4, b5⟩ := a6
    exact ⟨by rw [s4, s1, ha _ a1]; exact b1, by rw [s4]; exact b2, by rw [sL]; exact b3, by rw [sL, s2]; exact b4, by rw [sL]; exact b5⟩
  · intro fr tb' ok hb hx'
    rw [s2, s3, sL]
    exact a7 fr tb' ok hb (Ex_trans hx hx')
theorem conType_parts : ∀ (l : List Tm) (R : Tm), (∀ T ∈ l, sizeT T ≤ sizeT (conType l R) ∧ (looseT (conType l R) = false → looseT T = false) ∧ freeT T ≤ freeT (conType l R) + l.length) ∧ sizeT R ≤ sizeT (conType l R) ∧ (looseT (conType l R) = false → looseT R = false) ∧ freeT R ≤ freeT (conType l R) + l.length
  | [], R => ⟨fun T h => absurd h (List.not_mem_nil), Nat.le_refl _, id, Nat.le_refl _⟩
  | D :: l, R => by
    obtain ⟨h1, h2, h3, h4⟩ := conType_parts l R
    have hz : sizeT (conType (D :: l) R) = 1 + sizeT D + sizeT (conType l R) := rfl
    have hf : freeT (conType (D :: l) R) = max (freeT D) (freeT (conType l R) - 1) := rfl
    have hl : looseT (conType (D :: l) R) = (looseT D || looseT (conType l R)) := rfl
    rw [hz, hf, hl, List.length_cons]
    refine ⟨?_, by omega, ?_, by omega⟩
    · intro T hT
      rcases List.mem_cons.mp hT with rfl | hT
      · refine ⟨by omega, fun q => ?_, by omega⟩
        cases hq : looseT T with
        | false => rfl
        | true => rw [hq] at q; cases q
      · obtain ⟨g1, g2, g3⟩ := h1 T hT
        refine ⟨by omega, fun q => g2 ?_, by omega⟩
        cases hq : looseT (conType l R) with
        | false => rfl
        | true => rw [hq, Bool.or_true] at q; cases q
    · intro q
      apply h3
      cases hq : looseT (conType l R) with
      | false => rfl
      | true => rw [hq, Bool.or_true] at q; cases q
/-- the values of a call's arguments, as a substitution -/
theorem env_argv (σ : Nat → Tm) : ∀ (r x : Nat), env ((argv r x).map (fun p => sbs p σ)) (fun j => σ (x + r + j)) = fun j => σ (x + j)
  | 0, x => by funext j; rfl
  | r + 1, x => by
    show env ((argv r x).map (fun p => sbs p σ)) (consS (σ (x + r)) (fun j => σ (x + (r + 1) + j))) = _
    have e : consS (σ (x + r)) (fun j => σ (x + (r + 1) + j)) = fun j => σ (x + r + j) := by
      funext j
      cases j with
      | zero => rfl
      | succ j => show σ (x + (r + 1) + j) = σ (x + r + (j + 1)); congr 1; omega
    rw [e]
    exact env_argv σ r x
theorem argv_take : ∀ (r x i : Nat), i ≤ r → (argv r x).take i = argv i (x + (r - i))
  | r, x, 0, _ => by rw [List.take_zero]; rfl
  | 0, x, i + 1, h => absurd h (by omega)
  | r + 1, x, i + 1, h => by
    show Jvm.Term.index (x + r) :: (argv r x).take i = Jvm.Term.index (x + (r + 1 - (i + 1)) + i) :: argv i (x + (r + 1 - (i + 1)))
    rw [argv_take r x i (by omega), show r + 1 - (i + 1) = r - i by omega, show x + (r - i) + i = x + r by omega]
theorem root_inv {fr ty : Tm → Option Tm} (ok : FOK fr) {f : Nat} {l : List Tm} {R : Tm} (hf : ty (fnn f) = some (conType l R)) (hcl : freeT (conType l R) = 0) : Inv fr ty l.reverse (spine (fnn f) (argv l.length 0)) R := by
  intro Δ σ S h
  rw [spine_sbs] at h
  have e0 : (fun j => σ (0 + l.length + j)) = fun j => σ (l.length + j) := by funext j; rw [Nat.zero_add]
  obtain ⟨h1, h2⟩ := Inv_root ok (f := fnn f) (ty := ty) rfl hf (fun σ => sbs_zero hcl σ) Δ ((argv l.length 0).map (fun p => sbs p σ)) (fun j => σ (l.length + j)) S (by rw [List.length_map, argv_length]) h
  have ev := env_argv σ l.length 0
  rw [e0] at ev
  have ev' : env ((argv l.length 0).map (fun p => sbs p σ)) (fun j => σ (l.length + j)) = σ := by
    rw [ev]
    funext j
    rw [Nat.zero_add]
  rw [ev'] at h2
  refine ⟨?_, h2⟩
  intro k A hA
  have hk : k < l.length := by
    rcases Nat.lt_or_ge k l.length with q | q
    · exact q
    · rw [List.getElem?_eq_none (by rw [List.length_reverse]; exact q)] at hA; cases hA
  rw [List.getElem?_reverse hk] at hA
  have q := h1 (l.length - 1 - k) A (σ k) hA (by
    rw [List.getElem?_map, argv_at _ _ _ (by omega), show 0 + (l.length - 1 - (l.length - 1 - k)) = k by omega]
    rfl)
  rw [← List.map_take, argv_take _ _ _ (by omega)] at q
  have e1 : env ((argv (l.length - 1 - k) (0 + (l.length - (l.length - 1 - k)))).map (fun p => sbs p σ)) (fun j => σ (l.length + j)) = fun j => σ (j + (k + 1)) := by
    have w := env_argv σ (l.length - 1 - k) (0 + (l.length - (l.length - 1 - k)))
    have w1 : (fun j => σ (0 + (l.length - (l.length - 1 - k)) + (l.length - 1 - k) + j)) = fun j => σ (l.length + j) := by
      funext j
      congr 1
      omega
    rw [w1] at w
    rw [w]
    funext j
    congr 1
    omega
  rw [e1] at q
  rw [sbs_ren]
  exact q
