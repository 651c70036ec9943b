/-! LAYER 2: trees. The machine's own Term serves as the tree type: variables .index, types of functions .add, lambdas .sub, applications .mul, constants .arg (8 * parameter + kind). -/
abbrev Tm : Type := Jvm.Term
/-- neither a variable nor a pair -/
def isC : Tm → Bool
  | .index _ => false
  | .add _ _ => false
  | .sub _ _ => false
  | .mul _ _ => false
  | _ => true
theorem tm_ind {P : Tm → Prop} (hv : ∀ k, P (.index k)) (hc : ∀ t, isC t = true → P t) (hp : ∀ a b, P a → P b → P (.add a b)) (hl : ∀ a b, P a → P b → P (.sub a b)) (ha : ∀ a b, P a → P b → P (.mul a b)) : ∀ t, P t := by
  intro t
  induction t with
  | index k => exact hv k
  | add a b iha ihb => exact hp a b iha ihb
  | sub a b iha ihb => exact hl a b iha ihb
  | mul a b iha ihb => exact ha a b iha ihb
  | _ => exact hc _ rfl
def upr (ρ : Nat → Nat) : Nat → Nat
  | 0 => 0
  | k + 1 => ρ k + 1
def ren : Tm → (Nat → Nat) → Tm
  | .index k, ρ => .index (ρ k)
  | .add a b, ρ => .add (ren a ρ) (ren b (upr ρ))
  | .sub a b, ρ => .sub (ren a ρ) (ren b (upr ρ))
  | .mul a b, ρ => .mul (ren a ρ) (ren b ρ)
  | t, _ => t
def ups (σ : Nat → Tm) : Nat → Tm
  | 0 => .index 0
  | k + 1 => ren (σ k) Nat.succ
def sbs : Tm → (Nat → Tm) → Tm
  | .index k, σ => σ k
  | .add a b, σ => .add (sbs a σ) (sbs b (ups σ))
  | .sub a b, σ => .sub (sbs a σ) (sbs b (ups σ))
  | .mul a b, σ => .mul (sbs a σ) (sbs b σ)
  | t, _ => t
theorem ren_c {t : Tm} (h : isC t = true) (ρ : Nat → Nat) : ren t ρ = t := by
  cases t <;> first | rfl | (cases h; done)
theorem sbs_c {t : Tm} (h : isC t = true) (σ : Nat → Tm) : sbs t σ = t := by
  cases t <;> first | rfl | (cases h; done)
theorem upr_id : upr (fun k => k) = fun k => k := by
  funext k
  cases k <;> rfl
theorem upr_comp (ρ τ : Nat → Nat) : (fun k => upr τ (upr ρ k)) = upr (fun k => τ (ρ k)) := by
  funext k
  cases k <;> rfl
theorem ren_id : ∀ t : Tm, ren t (fun k => k) = t := by
  intro t
  refine tm_ind (P := fun t => ren t (fun k => k) = t) (fun k => rfl) (fun t h => ren_c h _) ?_ ?_ ?_ t
  · intro a b ha hb; show Jvm.Term.add _ (ren b (upr (fun k => k))) = _; rw [ha, upr_id, hb]
  · intro a b ha hb; show Jvm.Term.sub _ (ren b (upr (fun k => k))) = _; rw [ha, upr_id, hb]
  · intro a b ha hb; show Jvm.Term.mul _ _ = _; rw [ha, hb]
theorem ren_ren : ∀ (t : Tm) (ρ τ : Nat → Nat), ren (ren t ρ) τ = ren t (fun k => τ (ρ k)) := by
  intro t
  refine tm_ind (P := fun t => ∀ (ρ τ : Nat → Nat), ren (ren t ρ) τ = ren t (fun k => τ (ρ k))) (fun k ρ τ => rfl) (fun t h ρ τ => by rw [ren_c h, ren_c h, ren_c h]) ?_ ?_ ?_ t
  · intro a b ha hb ρ τ; show Jvm.Term.add (ren (ren a ρ) τ) (ren (ren b (upr ρ)) (upr τ)) = .add _ (ren b (upr _)); rw [ha, hb, upr_comp]
  · intro a b ha hb ρ τ; show Jvm.Term.sub (ren (ren a ρ) τ) (ren (ren b (upr ρ)) (upr τ)) = .sub _ (ren b (upr _)); rw [ha, hb, upr_comp]
  · intro a b ha hb ρ τ; show Jvm.Term.mul (ren (ren a ρ) τ) (ren (ren b ρ) τ) = .mul _ _; rw [ha, hb]
theorem ups_upr (ρ : Nat → Nat) (σ : Nat → Tm) : (fun k => ups σ (upr ρ k)) = ups (fun k => σ (ρ k)) := by
  funext k
  cases k <;> rfl
theorem sbs_ren : ∀ (t : Tm) (ρ : Nat → Nat) (σ : Nat → Tm), sbs (ren t ρ) σ = sbs t (fun k => σ (ρ k)) := by
  intro t
  refine tm_ind (P := fun t => ∀ (ρ : Nat → Nat) (σ : Nat → Tm), sbs (ren t ρ) σ = sbs t (fun k => σ (ρ k))) (fun k ρ τ => rfl) (fun t h ρ τ => by rw [ren_c h, sbs_c h, sbs_c h]) ?_ ?_ ?_ t
  · intro a b ha hb ρ τ; show Jvm.Term.add (sbs (ren a ρ) τ) (sbs (ren b (upr ρ)) (ups τ)) = .add _ (sbs b (ups _)); rw [ha, hb, ups_upr]
  · intro a b ha hb ρ τ; show Jvm.Term.sub (sbs (ren a ρ) τ) (sbs (ren b (upr ρ)) (ups τ)) = .sub _ (sbs b (ups _)); rw [ha, hb, ups_upr]
  · intro a b ha hb ρ τ; show Jvm.Term.mul (sbs (ren a ρ) τ) (sbs (ren b ρ) τ) = .mul _ _; rw [ha, hb]
theorem upr_ups (ρ : Nat → Nat) (σ : Nat → Tm) : (fun k => ren (ups σ k) (upr ρ)) = ups (fun k => ren (σ k) ρ) := by
  funext k
  cases k with
  | zero => rfl
  | succ k =>
    show ren (ren (σ k) Nat.succ) (upr ρ) = ren (ren (σ k) ρ) Nat.succ
    rw [ren_ren, ren_ren]
    rfl
theorem ren_sbs : ∀ (t : Tm) (σ : Nat → Tm) (ρ : Nat → Nat), ren (sbs t σ) ρ = sbs t (fun k => ren (σ k) ρ) := by
  intro t
  refine tm_ind (P := fun t => ∀ (σ : Nat → Tm) (ρ : Nat → Nat), ren (sbs t σ) ρ = sbs t (fun k => ren (σ k) ρ)) (fun k ρ τ => rfl) (fun t h ρ τ => by rw [sbs_c h, ren_c h, sbs_c h]) ?_ ?_ ?_ t
  · intro a b ha hb σ ρ; show Jvm.Term.add (ren (sbs a σ) ρ) (ren (sbs b (ups σ)) (upr ρ)) = .add _ (sbs b (ups _)); rw [ha, hb, upr_ups]
  · intro a b ha hb σ ρ; show Jvm.Term.sub (ren (sbs a σ) ρ) (ren (sbs b (ups σ)) (upr ρ)) = .sub _ (sbs b (ups _)); rw [ha, hb, upr_ups]
  · intro a b ha hb σ ρ; show Jvm.Term.mul (ren (sbs a σ) ρ) (ren (sbs b σ) ρ) = .mul _ _; rw [ha, hb]
theorem ups_comp (σ τ : Nat → Tm) : (fun k => sbs (ups σ k) (ups τ)) = ups (fun k => sbs (σ k) τ) := by
  funext k
  cases k with
  | zero => rfl
  | succ k =>
    show sbs (ren (σ k) Nat.succ) (ups τ) = ren (sbs (σ k) τ) Nat.succ
    rw [sbs_ren, ren_sbs]
    rfl
theorem sbs_sbs : ∀ (t : Tm) (σ τ : Nat → Tm), sbs (sbs t σ) τ = sbs t (fun k => sbs (σ k) τ) := by
  intro t
  refine tm_ind (P := fun t => ∀ (σ τ : Nat → Tm), sbs (sbs t σ) τ = sbs t (fun k => sbs (σ k) τ)) (fun k ρ τ => rfl) (fun t h ρ τ => by rw [sbs_c h, sbs_c h, sbs_c h]) ?_ ?_ ?_ t
  · intro a b ha hb σ ρ; show Jvm.Term.add (sbs (sbs a σ) ρ) (sbs (sbs b (ups σ)) (ups ρ)) = .add _ (sbs b (ups _)); rw [ha, hb, ups_comp]
  · intro a b ha hb σ ρ; show Jvm.Term.sub (sbs (sbs a σ) ρ) (sbs (sbs b (ups σ)) (ups ρ)) = .sub _ (sbs b (ups _)); rw [ha, hb, ups_comp]
  · intro a b ha hb σ ρ; show Jvm.Term.mul (sbs (sbs a σ) ρ) (sbs (sbs b σ) ρ) = .mul _ _; rw [ha, hb]
theorem ups_id : ups (fun k => .index k) = fun k => .index k := by
  funext k
  cases k <;> rfl
theorem sbs_id : ∀ t : Tm, sbs t (fun k => .index k) = t := by
  intro t
  refine tm_ind (P := fun t => sbs t (fun k => .index k) = t) (fun k => rfl) (fun t h => sbs_c h _) ?_ ?_ ?_ t
  · intro a b ha hb; show Jvm.Term.add _ (sbs b (ups (fun k => .index k))) = _; rw [ha, ups_id, hb]
  · intro a b ha hb; show Jvm.Term.sub _ (sbs b (ups (fun k => .index k))) = _; rw [ha, ups_id, hb]
  · intro a b ha hb; show Jvm.Term.mul _ _ = _; rw [ha, hb]
/-- a value in the place of the innermost variable -/
def ins (v : Tm) : Nat → Tm
  | 0 => v
  | k + 1 => .index k
def inst (t v : Tm) : Tm := sbs t (ins v)
theorem inst_ren (t v : Tm) (ρ : Nat → Nat) : ren (inst t v) ρ = inst (ren t (upr ρ)) (ren v ρ) := by
  rw [inst, inst, ren_sbs, sbs_ren]
  congr 1
  funext k
  cases k <;> rfl
theorem inst_sbs (t v : Tm) (σ : Nat → Tm) : sbs (inst t v) σ = inst (sbs t (ups σ)) (sbs v σ) := by
  rw [inst, inst, sbs_sbs, sbs_sbs]
  congr 1
  funext k
  cases k with
  | zero => rfl
  | succ k =>
    show σ k = sbs (ren (σ k) Nat.succ) (ins (sbs v σ))
    rw [sbs_ren]
    exact (sbs_id (σ k)).symm
theorem inst_lift (t v : Tm) : inst (ren t Nat.succ) v = t := by
  rw [inst, sbs_ren]
  exact sbs_id t
