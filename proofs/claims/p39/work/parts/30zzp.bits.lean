/-! accept -/
def accB (acc : Int32) (f : Nat) : Bool := acc.toBitVec.getLsbD f
theorem shift_amount : ∀ f : Fin 8, (nz f.val &&& 31).toBitVec.smod 32 = BitVec.ofNat 32 f.val := by decide +kernel
theorem one_bits : ∀ f g : Fin 8, ((1 : Int32) <<< (nz f.val &&& 31)).toBitVec.getLsbD g.val = decide (g.val = f.val) := by decide +kernel
theorem bit_iff (acc : Int32) {f : Nat} (hf : f < 8) : ((acc >>> (nz f &&& 31)) &&& (1 : Int32)) = 0 ↔ accB acc f = false := by
  have e := shift_amount ⟨f, hf⟩
  have e' : (nz f &&& 31).toBitVec.smod 32 = BitVec.ofNat 32 f := e
  have ek : (BitVec.ofNat 32 f).toNat = f := by rw [BitVec.toNat_ofNat]; exact Nat.mod_eq_of_lt (by omega)
  have key : ∀ i, ((acc >>> (nz f &&& 31)) &&& (1 : Int32)).toBitVec.getLsbD i = (decide (i = 0) && accB acc f) := by
    intro i
    rw [Int32.toBitVec_and, BitVec.getLsbD_and, Int32.toBitVec_shiftRight, e', BitVec.sshiftRight', ek, BitVec.getLsbD_sshiftRight]
    have e1 : (1 : Int32).toBitVec = 1#32 := rfl
    rw [e1]
    by_cases q : i = 0
    · subst q
      rw [if_pos (by omega)]
      unfold accB
      simp
    · have e2 : (1#32).getLsbD i = false := by
        rw [BitVec.getLsbD_one]
        simp [q]
      rw [e2, Bool.and_false]
      simp [q]
  constructor
  · intro h
    have k0 := key 0
    rw [h] at k0
    have e0 : (0 : Int32).toBitVec.getLsbD 0 = false := by decide
    rw [e0] at k0
    simpa using k0.symm
  · intro h
    apply Int32.toBitVec_inj.mp
    apply BitVec.eq_of_getLsbD_eq
    intro i _
    rw [key i, h, Bool.and_false]
    show false = (0#32).getLsbD i
    simp
theorem acc_or (acc : Int32) {f g : Nat} (hf : f < 8) (hg : g < 8) : accB (acc ||| ((1 : Int32) <<< (nz f &&& 31))) g = (accB acc g || decide (g = f)) := by
  unfold accB
  rw [Int32.toBitVec_or, BitVec.getLsbD_or]
  have e : ((1 : Int32) <<< (nz f &&& 31)).toBitVec.getLsbD g = decide (g = f) := one_bits ⟨f, hf⟩ ⟨g, hg⟩
  rw [e]
theorem hasAcc_at (D : DS) {f : Nat} (hf : f < 8) : f_X0_hasAccepted D (nz f) = some (if accB D.2.2 f = true then 1 else 0) := by
  unfold f_X0_hasAccepted
  by_cases q : accB D.2.2 f = true
  · rw [if_neg (fun w => by rw [(bit_iff _ hf).mp w] at q; cases q), if_pos q]
  · rw [if_pos ((bit_iff _ hf).mpr (by simpa using q)), if_neg q]
theorem fix_at' {D : DS} {fc f : Nat} (h : D.1 = nz fc) (hb : fc ≤ 8) (hf : f < fc) : fix D (nz f) = true := fix_at h hb hf
theorem X_isAccepted {K : Rows} {n f : Nat} {S : SS} {D : DS} {P : PS} {A : SG} {B : FG} {G : GG} (h : CourtC K n S D P A B G) (ht : CourtT A B G) (hf : f < fFc B) : f_X11_isAccepted D (nz f) = some (0, if accB D.2.2 f = true then 1 else 0) := by
  have h8 := ht.2.1.1
  unfold f_X11_isAccepted
  rw [functionAt_ok h.2.2.1.1 h8 (by omega), if_pos hf, Option.bind_some, if_pos (show ((0 : Int32), nz f).1 = 0 from rfl)]
  show (if fix D (nz f) = true then _ else _) = _
  rw [if_pos (fix_at h.2.2.1.1 h8 hf), hasAcc_at D (by omega), Option.bind_some]
  split
  · rw [if_pos (by decide)]
  · rw [if_pos (by decide)]
/-- what accept answers -/
theorem L_accept {K : Rows} {n f : Nat} {S : SS} {D : DS} {P : PS} {A : SG} {B : FG} {G : GG} {R : RS} (h : CourtC K n S D P A B G) (ht : CourtT A B G) (hf : f < 1000000) :
    (fFc B ≤ f ∧ f_L_accept K D R P (nz f) = some (-3000000, D, R)) ∨
    (f < fFc B ∧ (accB D.2.2 f = true ∨ 0 < opn G f (qN G)) ∧ f_L_accept K D R P (nz f) = some (-1000000, D, R)) ∨
    (f < fFc B ∧ accB D.2.2 f = false ∧ opn G f (qN G) = 0 ∧ ((∃ R', f_L_accept K D R P (nz f) = some (-1500000, D, R')) ∨ ∃ m R', m ≤ 200 ∧ f_L_accept K D R P (nz f) = some (nz m, (D.1, D.2.1, D.2.2 ||| ((1 : Int32) <<< (nz f &&& 31))), R'))) := by
  have h8 := ht.2.1.1
  have hfa := functionAt_ok h.2.2.1.1 h8 hf
  by_cases hlt : f < fFc B
  · rw [if_pos hlt] at hfa
    have st : f_X11_accept K D R P (nz f) = (if (if accB D.2.2 f = true then (1 : Int32) else 0) = 0 then (if nz (opn G f (qN G)) ≤ 0 then (f_X11_accept_L53 100000 K D (nz f, P.2.1 f, 0, 0, R.2.2.2.2) P (nz f) 0) else some (2, 0, D, R)) else some (2, 0, D, R)) := by
      unfold f_X11_accept
      rw [hfa, Option.bind_some, if_pos (show ((0 : Int32), nz f).1 = 0 from rfl)]
      show (if fix D (nz f) = true then _ else _) = _
      rw [if_pos (fix_at h.2.2.1.1 h8 hlt), hasAcc_at D (by omega), Option.bind_some, open_ok h ht hf, Option.bind_some, nz_nat (show f < 2147483648 by omega)]
      rfl
    have hopn : opn G f (qN G) ≤ qN G := by
      have : ∀ k, opn G f k ≤ k := by
        intro k
        induction k with
        | zero => exact Nat.le_refl 0
        | succ k ih =>
          show opn G f k + (if qF G k = f ∧ qS G k = 0 then 1 else 0) ≤ k + 1
          split <;> omega
      exact this _
    have h40 := ht.2.2.1
    by_cases ha : accB D.2.2 f = true
    · right; left
      refine ⟨hlt, Or.inl ha, ?_⟩
      unfold f_L_accept
      rw [st, if_pos ha, if_neg (by decide)]
      rfl
    · by_cases ho : opn G f (qN G) = 0
      · right; right
        refine ⟨hlt, by simpa using ha, ho, ?_⟩
        obtain ⟨-, p1, p2⟩ := h.2.2.1.2 f hlt
        have hr4 : fAr B f ≤ 4 := by
          obtain ⟨l, Rr, q1, q2, q3, q4, -⟩ := ht.2.1.2 _ hlt
          omega
        have key := accept_loop (f := f) (a := fAr B f) h ht hr4 (qN G) 100000 0 (nz f, P.2.1 f, 0, 0, R.2.2.2.2) (by omega) (by omega) ⟨rfl, p1, 0, by omega, rfl⟩
        have st2 : f_X11_accept K D R P (nz f) = f_X11_accept_L53 100000 K D (nz f, P.2.1 f, 0, 0, R.2.2.2.2) P (nz f) (nz 0) := by
          rw [st, if_neg ha, if_pos rfl, ho, if_pos (by decide)]
          rfl
        unfold f_L_accept
        rw [st2]
        rcases key with ⟨R', e⟩ | ⟨m, R', e1, e2⟩
        · left
          rw [e]
          exact ⟨R', rfl⟩
        · right
          rw [e2]
          exact ⟨m, R', e1, rfl⟩
      · right; left
        refine ⟨hlt, Or.inr (by omega), ?_⟩
        unfold f_L_accept
        rw [st, if_neg ha, if_pos rfl, if_neg (fun w => ho (by
          have := (nz_le (i := opn G f (qN G)) (j := 0) (by omega) (by decide)).mp w
          omega))]
        rfl
  · rw [if_neg hlt] at hfa
    left
    refine ⟨by omega, ?_⟩
    unfold f_L_accept f_X11_accept
    rw [hfa, Option.bind_some, if_neg (by decide)]
    rfl
