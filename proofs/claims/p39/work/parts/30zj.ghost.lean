/-! patterns to which no row of values is alike; the court as trees -/
theorem meet_inst : ∀ (p q : Tm) (v w : Bool) (σ τ : Nat → Tm), patB conB p v → patB conB q w → sbs p σ = sbs q τ → meetT p q = true := by
  intro p
  refine tm_ind (P := fun p => ∀ (q : Tm) (v w : Bool) (σ τ : Nat → Tm), patB conB p v → patB conB q w → sbs p σ = sbs q τ → meetT p q = true) ?_ ?_ ?_ ?_ ?_ p
  · intro k q v w σ τ _ _ _; cases q <;> rfl
  · intro t hc q v w σ τ hp hq h
    rw [sbs_c hc] at h
    have h3 := (patB_c v hc).mp hp
    cases t with
    | arg m =>
      have h3' : (m % 8 == 3) = true := h3
      cases q with
      | index k => rfl
      | arg k =>
        have e : m = k := by injection h
        subst e
        show ((m % 8 == 3) && (m % 8 == 3) && (m / 8 == m / 8)) = true
        rw [h3']; simp
      | add a b => exact hq.elim
      | sub a b => exact hq.elim
      | mul a b => cases h
      | _ => cases h
    | _ => first | (cases hc; done) | (cases h3; done)
  · intro a b _ _ q v w σ τ hp; exact hp.elim
  · intro a b _ _ q v w σ τ hp; exact hp.elim
  · rintro a b ha hb q v w σ τ ⟨h1, h2⟩ hq h
    cases q with
    | index k => rfl
    | mul c d =>
      obtain ⟨g1, g2⟩ := hq
      have e1 : sbs a σ = sbs c τ := by injection h
      have e2 : sbs b σ = sbs d τ := by injection h
      show (meetT a c && meetT b d) = true
      rw [ha c false false σ τ h1 g1 e1, hb d true true σ τ h2 g2 e2]; rfl
    | arg k => cases h
    | add c d => exact hq.elim
    | sub c d => exact hq.elim
    | _ => cases h
theorem meet_sbs_l (θ : Nat → Tm) : ∀ (p q : Tm), meetT (sbs p θ) q = true → meetT p q = true := by
  intro p
  refine tm_ind (P := fun p => ∀ q, meetT (sbs p θ) q = true → meetT p q = true) ?_ ?_ ?_ ?_ ?_ p
  · intro k q _; cases q <;> rfl
  · intro t hc q h; rw [sbs_c hc] at h; exact h
  · intro a b _ _ q h; cases q <;> first | rfl | (cases h; done)
  · intro a b _ _ q h; cases q <;> first | rfl | (cases h; done)
  · intro a b ha hb q h
    cases q with
    | index k => rfl
    | mul c d =>
      have h' : (meetT (sbs a θ) c && meetT (sbs b θ) d) = true := h
      rw [Bool.and_eq_true] at h'
      show (meetT a c && meetT b d) = true
      rw [ha c h'.1, hb d h'.2]; rfl
    | _ => cases h
theorem meet_symm : ∀ p q : Tm, meetT p q = meetT q p := by
  intro p
  induction p with
  | index k => intro q; cases q <;> rfl
  | mul a b iha ihb =>
    intro q
    cases q with
    | mul c d => show (meetT a c && meetT b d) = (meetT c a && meetT d b); rw [iha, ihb]
    | _ => rfl
  | arg m =>
    intro q
    cases q with
    | arg k =>
      show ((m % 8 == 3) && (k % 8 == 3) && (m / 8 == k / 8)) = ((k % 8 == 3) && (m % 8 == 3) && (k / 8 == m / 8))
      rw [Bool.and_comm (m % 8 == 3), show (m / 8 == k / 8) = (k / 8 == m / 8) from Bool.eq_iff_iff.mpr ⟨fun h => by simp at h ⊢; exact h.symm, fun h => by simp at h ⊢; exact h.symm⟩]
    | _ => rfl
  | _ => intro q; cases q <;> rfl
theorem meet_head : ∀ t s : Tm, meetT t s = true → isC (headc t) = true → isC (headc s) = true → headc t = headc s := by
  intro t
  refine tm_ind (P := fun t => ∀ s, meetT t s = true → isC (headc t) = true → isC (headc s) = true → headc t = headc s) ?_ ?_ ?_ ?_ ?_ t
  · intro k s _ h; cases h
  · intro t hc s h _ hs
    rw [headc_c hc]
    cases t with
    | arg m =>
      cases s with
      | arg k =>
        have h' : ((m % 8 == 3) && (k % 8 == 3) && (m / 8 == k / 8)) = true := h
        simp at h'
        show Jvm.Term.arg m = .arg k
        congr 1
        omega
      | index k => cases hs
      | _ => cases h
    | index k => cases hc
    | add a b => cases hc
    | sub a b => cases hc
    | mul a b => cases hc
    | _ => cases s <;> first | (cases h; done) | (cases hs; done)
  · intro a b _ _ s _ h; cases h
  · intro a b _ _ s _ h; cases h
  · intro a b ha _ s h ht hs
    cases s with
    | mul c d =>
      have h' : (meetT a c && meetT b d) = true := h
      rw [Bool.and_eq_true] at h'
      exact ha c h'.1 ht hs
    | index k => cases hs
    | _ => cases h
theorem meet_con {x m m' : Nat} {c c' : Tm} (hc : isC c = true) (hc' : isC c' = true) (hne : c ≠ c') : ∀ (p : Tm), occ p x → meetT (sbs p (thS x m c)) (sbs p (thS x m' c')) = false := by
  intro p
  refine tm_ind (P := fun p => occ p x → meetT (sbs p (thS x m c)) (sbs p (thS x m' c')) = false) ?_ ?_ ?_ ?_ ?_ p
  · intro k h
    have e : k = x := h
    subst e
    show meetT (thS k m c k) (thS k m' c' k) = false
    rw [thS_eq, thS_eq]
    cases hm : meetT (spine c (argv m k)) (spine c' (argv m' k)) with
    | false => rfl
    | true =>
      have h1 := meet_head _ _ hm (by rw [headc_spine, headc_c hc]; exact hc) (by rw [headc_spine, headc_c hc']; exact hc')
      rw [headc_spine, headc_spine, headc_c hc, headc_c hc'] at h1
      exact absurd h1 hne
  · intro t ht h; exact absurd h (occ_c ht x)
  · intro a b _ _ h; exact h.elim
  · intro a b _ _ h; exact h.elim
  · intro a b ha hb h
    show (meetT (sbs a _) (sbs a _) && meetT (sbs b _) (sbs b _)) = false
    rcases h with h | h
    · rw [ha h]; rfl
    · rw [hb h, Bool.and_false]
/-- somewhere the two rows of patterns do not meet -/
def NM (ps qs : List Tm) : Prop := ∃ (k : Nat) (p q : Tm), ps[k]? = some p ∧ qs[k]? = some q ∧ meetT p q = false
theorem NM_symm {ps qs : List Tm} (h : NM ps qs) : NM qs ps := by
  obtain ⟨k, p, q, h1, h2, h3⟩ := h
  exact ⟨k, q, p, h2, h1, by rw [meet_symm]; exact h3⟩
theorem NM_sbs {ps qs : List Tm} (θ : Nat → Tm) (h : NM ps qs) : NM (ps.map (fun p => sbs p θ)) qs := by
  obtain ⟨k, p, q, h1, h2, h3⟩ := h
  refine ⟨k, sbs p θ, q, by rw [List.getElem?_map, h1]; rfl, h2, ?_⟩
  cases hm : meetT (sbs p θ) q with
  | false => rfl
  | true => rw [meet_sbs_l θ p q hm] at h3; cases h3
theorem NM_no {ps qs : List Tm} {σ τ : Nat → Tm} (hp : ∀ p ∈ ps, patB conB p true) (hq : ∀ p ∈ qs, patB conB p true) (h : NM ps qs) (he : ps.map (fun p => sbs p σ) = qs.map (fun p => sbs p τ)) : False := by
  obtain ⟨k, p, q, h1, h2, h3⟩ := h
  have e := congrArg (fun l => l[k]?) he
  simp only [List.getElem?_map, h1, h2, Option.map_some] at e
  have e2 : sbs p σ = sbs q τ := by injection e
  rw [meet_inst p q true true σ τ (hp p (List.mem_of_getElem? h1)) (hq q (List.mem_of_getElem? h2)) e2] at h3
  cases h3
theorem occ_spine : ∀ (l : List Tm) (h : Tm) (i : Nat), occ (spine h l) i ↔ occ h i ∨ ∃ a, a ∈ l ∧ occ a i
  | [], h, i => ⟨Or.inl, fun q => q.elim id (fun ⟨a, ha, _⟩ => absurd ha (List.not_mem_nil))⟩
  | a :: l, h, i => by
    show occ (spine (.mul h a) l) i ↔ _
    rw [occ_spine l]
    constructor
    · rintro ((q | q) | ⟨b, hb, q⟩)
      · exact Or.inl q
      · exact Or.inr ⟨a, List.mem_cons_self .., q⟩
      · exact Or.inr ⟨b, List.mem_cons_of_mem _ hb, q⟩
    · rintro (q | ⟨b, hb, q⟩)
      · exact Or.inl (Or.inl q)
      · rcases List.mem_cons.mp hb with rfl | hb
        · exact Or.inl (Or.inr q)
        · exact Or.inr ⟨b, hb, q⟩
theorem NM_con {x m m' f : Nat} {c c' : Tm} {ps : List Tm} (hc : isC c = true) (hc' : isC c' = true) (hne : c ≠ c') (ho : occ (spine (fnn f) ps) x) : NM (ps.map (fun p => sbs p (thS x m c))) (ps.map (fun p => sbs p (thS x m' c'))) := by
  rcases (occ_spine ps (fnn f) x).mp ho with q | ⟨a, ha, q⟩
  · exact absurd q (occ_c rfl x)
  · obtain ⟨k, hk⟩ := List.getElem?_of_mem ha
    exact ⟨k, _, _, by rw [List.getElem?_map, hk]; rfl, by rw [List.getElem?_map, hk]; rfl, meet_con hc hc' hne a q⟩
/-- constructors: owner, parts; how many constructors and data types -/
abbrev SG : Type := (Nat → Nat) × (Nat → List Nat) × Nat × Nat
def sOwn (A : SG) := A.1
def sPrt (A : SG) := A.2.1
def sCc (A : SG) := A.2.2.1
def sDc (A : SG) := A.2.2.2
/-- functions: type, arity, first goal; how many -/
abbrev FG : Type := (Nat → Tm) × (Nat → Nat) × (Nat → Nat) × Nat
def fTy (B : FG) := B.1
def fAr (B : FG) := B.2.1
def fFg (B : FG) := B.2.2.1
def fFc (B : FG) := B.2.2.2
/-- goals: function, context, type, patterns, state (0 open, 1 split, 2 filled), right side, place, first child; how many -/
abbrev GG : Type := (Nat → Nat) × (Nat → List Tm) × (Nat → Tm) × (Nat → List Tm) × (Nat → Nat) × (Nat → Tm) × (Nat → Nat) × (Nat → Nat) × Nat
def qF (G : GG) := G.1
def qC (G : GG) := G.2.1
def qT (G : GG) := G.2.2.1
def qP (G : GG) := G.2.2.2.1
def qS (G : GG) := G.2.2.2.2.1
def qR (G : GG) := G.2.2.2.2.2.1
def qPl (G : GG) := G.2.2.2.2.2.2.1
def qCh (G : GG) := G.2.2.2.2.2.2.2.1
def qN (G : GG) := G.2.2.2.2.2.2.2.2
def qL (G : GG) (g : Nat) : Tm := spine (fnn (qF G g)) (qP G g)
def conT (A : SG) (c : Nat) : Tm := conType ((sPrt A c).map dat) (dat (sOwn A c))
def tbl (A : SG) (B : FG) (m : Nat) : Option Tm := if m % 8 = 3 then (if m / 8 < sCc A then some (conT A (m / 8)) else none) else if m % 8 = 4 then (if m / 8 < fFc B then some (fTy B (m / 8)) else none) else none
def cntd (A : SG) (d : Nat) : Nat → Nat
  | 0 => 0
  | k + 1 => cntd A d k + (if sOwn A k = d then 1 else 0)
/-- the index of the variable by which a goal is split -/
def qX (G : GG) (g : Nat) : Nat := (qC G g).length - 1 - qPl G g
def chS (A : SG) (x c : Nat) : Nat → Tm := thS x (sPrt A c).length (cn c)
def SigOK (A : SG) : Prop := sCc A ≤ 16 ∧ sDc A ≤ 6 ∧ ∀ c, c < sCc A → sOwn A c < sDc A ∧ (sPrt A c).length ≤ 2 ∧ ∀ d ∈ sPrt A c, d < sDc A
def FunOK (B : FG) : Prop := fFc B ≤ 8 ∧ ∀ f, f < fFc B → ∃ l R, fTy B f = conType l R ∧ l.length = fAr B f ∧ 1 ≤ fAr B f ∧ fAr B f ≤ 4 ∧ freeT (fTy B f) = 0 ∧ sizeT (fTy B f) ≤ 80 ∧ looseT (fTy B f) = false
def ncl (l : List Tm) : Nat := (l.filter (fun T => freeT T != 0)).length
def SplitOK (A : SG) (G : GG) (g : Nat) : Prop := ∃ d, qPl G g < (qC G g).length ∧ (qC G g)[qX G g]? = some (dat d) ∧ g < qCh G g ∧ ∀ c, c < sCc A → sOwn A c = d → qCh G g + cntd A d c < qN G ∧ qF G (qCh G g + cntd A d c) = qF G g ∧
  qP G (qCh G g + cntd A d c) = (qP G g).map (fun p => sbs p (chS A (qX G g) c)) ∧ (qC G (qCh G g + cntd A d c)).length + 1 = (qC G g).length + (sPrt A c).length
def TyOK (T : Tm) (g : Nat) : Prop := sizeT T ≤ 80 ∧ looseT T = false ∧ freeT T ≤ 10 + 20 * g
def InvOK (A : SG) (B : FG) (G : GG) (g : Nat) : Prop := ∀ fr tb', FOK fr → TBok tb' → Ex (tbl A B) tb' → Inv fr (tyOf tb') (qC G g) (qL G g) (qT G g)
def FillOK (A : SG) (B : FG) (G : GG) (g : Nat) : Prop := (tyT (tbl A B) (qR G g) (qC G g)).bind nf = some (qT G g) ∧ sizeT (qR G g) ≤ 30 ∧ freeT (qR G g) ≤ 1000
def PatOK (B : FG) (G : GG) (g : Nat) : Prop := (qP G g).length = fAr B (qF G g) ∧ (∀ p ∈ qP G g, patB conB p true) ∧ lin (qL G g) ∧ (∀ k, occ (qL G g) k ↔ k < (qC G g).length) ∧ sizeT (qL G g) ≤ 9 + 4 * g
def GoalOK (A : SG) (B : FG) (G : GG) (g : Nat) : Prop := qF G g < fFc B ∧ (qC G g).length ≤ 12 ∧ (∀ T ∈ qC G g, TyOK T g) ∧ TyOK (qT G g) g ∧ ncl (qC G g) ≤ 4 ∧ PatOK B G g ∧ InvOK A B G g ∧ (qS G g = 2 → FillOK A B G g) ∧ (qS G g = 1 → SplitOK A G g)
def Below (A : SG) (G : GG) (g g' : Nat) : Prop := qS G g = 1 ∧ ∃ c θ, c < sCc A ∧ (qC G g)[qX G g]? = some (dat (sOwn A c)) ∧ qP G g' = ((qP G g).map (fun p => sbs p (chS A (qX G g) c))).map (fun p => sbs p θ)
def RelOK (A : SG) (G : GG) : Prop := ∀ g g', g < qN G → g' < qN G → qF G g = qF G g' → qS G g' ≠ 1 → g = g' ∨ NM (qP G g) (qP G g') ∨ Below A G g g'
def FirstOK (B : FG) (G : GG) : Prop := ∀ f, f < fFc B → fFg B f < qN G ∧ qF G (fFg B f) = f ∧ qP G (fFg B f) = argv (fAr B f) 0
def CourtT (A : SG) (B : FG) (G : GG) : Prop := SigOK A ∧ FunOK B ∧ qN G ≤ 40 ∧ (∀ g, g < qN G → GoalOK A B G g) ∧ RelOK A G ∧ FirstOK B G
