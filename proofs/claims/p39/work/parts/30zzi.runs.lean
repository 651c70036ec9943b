/-! the machine computes it -/
def tail1 (n : Nat) (T : TS) (S : SS) (D : DS) (M : MS) (P : PS) (v3 v5 : Int32) : Option (Int32 × TS × MS) := (if M.2.2.2.2.2.1 = 0 then some (v3, T, M) else (if inb (M.2.2.2.2.2.1 - (1 : Int32)) 4200 = true then (if (M.2.1 (Int32.toNatClampNeg (M.2.2.2.2.2.1 - (1 : Int32)))) = 0 then (if inb (M.2.2.2.2.2.1 - (1 : Int32)) 4200 = true then (Option.bind (g_X5_push (M.1, M.2.1, M.2.2.1, M.2.2.2.1, M.2.2.2.2.1, (M.2.2.2.2.2.1 - (1 : Int32)), M.2.2.2.2.2.2.1, M.2.2.2.2.2.2.2.1, M.2.2.2.2.2.2.2.2) v3 1) (fun q_10 => (f_X5_valueOf1_L46 n T S D q_10 P (M.1 (Int32.toNatClampNeg (M.2.2.2.2.2.1 - (1 : Int32)))) 0 (v5 + 1)))) else none) else (if inb (M.2.2.2.2.2.1 - (1 : Int32)) 4200 = true then (Option.bind (f_X5_applied T S D (M.1, M.2.1, M.2.2.1, M.2.2.2.1, M.2.2.2.2.1, (M.2.2.2.2.2.1 - (1 : Int32)), M.2.2.2.2.2.2.1, M.2.2.2.2.2.2.2.1, M.2.2.2.2.2.2.2.2) P (M.1 (Int32.toNatClampNeg (M.2.2.2.2.2.1 - (1 : Int32)))) v3) (fun q_12 => (if q_12.2.2.2.2.2.2.2.2.2.1 = 0 then (f_X5_valueOf1_L46 n q_12.2.1 S D q_12.2.2 P q_12.1 1 (v5 + 1)) else (f_X5_valueOf1_L46 n q_12.2.1 S D q_12.2.2 P q_12.1 0 (v5 + 1))))) else none)) else none))
theorem nz_turn {t : Nat} (h : t ≤ 100000) : ¬ (1000000 : Int32) ≤ nz t := fun q => absurd ((nz_le (i := 1000000) (by decide) (by omega)).mp q) (by omega)
theorem nz_nm {j : Nat} (h : j < 2147483648) : ¬ nz j = -1 := fun q => nz_neg h (by rw [q]; decide)
def pushM (M : MS) (len : Nat) (x y : Int32) : MS := (upd M.1 len x, upd M.2.1 len (vp_nar .boolean y), M.2.2.1, M.2.2.2.1, M.2.2.2.2.1, nz (len + 1), M.2.2.2.2.2.2.1, M.2.2.2.2.2.2.2.1, M.2.2.2.2.2.2.2.2)
def popM (M : MS) (len : Nat) : MS := (M.1, M.2.1, M.2.2.1, M.2.2.2.1, M.2.2.2.2.1, nz len, M.2.2.2.2.2.2.1, M.2.2.2.2.2.2.2.1, M.2.2.2.2.2.2.2.2)
theorem mpush_ok {M : MS} {len : Nat} (hd : M.2.2.2.2.2.1 = nz len) (hl : len < 4200) (x y : Int32) : g_X5_push M x y = some (pushM M len x y) := by
  unfold g_X5_push f_X5_push
  rw [hd, if_neg (show ¬ (4200 : Int32) ≤ nz len from fun q => absurd ((nz_le (i := 4200) (by decide) (by omega)).mp q) (by omega)), if_pos (nz_inb hl (by decide)), if_pos (nz_inb hl (by decide)), nz_nat (by omega), show nz len + 1 = nz (len + 1) from nz_add len 1]
  rfl
theorem st_fail (fu : Nat) (K : Rows) (S : SS) (D : DS) (M : MS) (P : PS) (v4 : Int32) {t : Nat} (h : t ≤ 100000) : f_X5_valueOf1_L46 (fu + 1) K S D M P (-1) v4 (nz t) = some (-1, K, M) := by
  conv => lhs; unfold f_X5_valueOf1_L46
  rw [if_neg (nz_turn h), if_pos rfl]
theorem st_value {fu i t : Nat} {K : Rows} {S : SS} {D : DS} {M : MS} {P : PS} (h : t ≤ 100000) (hi : i < 2147483648) : f_X5_valueOf1_L46 (fu + 1) K S D M P (nz i) 1 (nz t) = tail1 fu K S D M P (nz i) (nz t) := by
  conv => lhs; unfold f_X5_valueOf1_L46
  rw [if_neg (nz_turn h), if_neg (nz_nm hi), if_neg (show ¬ (1 : Int32) = 0 by decide)]
  rfl
theorem st_leaf {fu i t n : Nat} {K : Rows} {S : SS} {D : DS} {M : MS} {P : PS} {now : Tm} (hw : WF K n) (hr : Rep K n now i) (h7 : kdT now ≠ 7) (h : t ≤ 100000) : f_X5_valueOf1_L46 (fu + 1) K S D M P (nz i) 0 (nz t) = tail1 fu K S D M P (nz i) (nz t) := by
  have hi := Rep_lt hr
  have hn := hw.2.1
  have hk8 : kdT now < 8 := by rcases (Rep_view hr).2 with w | w <;> omega
  conv => lhs; unfold f_X5_valueOf1_L46
  rw [if_neg (nz_turn h), if_neg (nz_nm (by omega)), if_pos rfl, g_kind, rKind_at hw hi, Option.bind_some, (Rep_view hr).1, if_neg (show ¬ nz (kdT now) = (7 : Int32) from nz_ne (c := 7) (by omega) (by decide) h7)]
  rfl
theorem st_app {fu i t n len : Nat} {K : Rows} {S : SS} {D : DS} {M : MS} {P : PS} {a b : Tm} (hw : WF K n) (hr : Rep K n (.mul a b) i) (hd : M.2.2.2.2.2.1 = nz len) (hl : len < 4200) (h : t ≤ 100000) : ∃ ja jb, Rep K n a ja ∧ Rep K n b jb ∧ f_X5_valueOf1_L46 (fu + 1) K S D M P (nz i) 0 (nz t) = (if 4200 ≤ len + 1 then f_X5_valueOf1_L46 fu K S D (pushM M len (nz jb) 0) P (-1) 0 (nz (t + 1)) else f_X5_valueOf1_L46 fu K S D (pushM M len (nz jb) 0) P (nz ja) 0 (nz (t + 1))) := by
  have hi := Rep_lt hr
  have hn := hw.2.1
  have hk := (Rep_view hr).1
  obtain ⟨h1, h2, h3, ja, jb, a4, a5, a6, a7, a8, a9⟩ := hr
  refine ⟨ja, jb, a8, a9, ?_⟩
  conv => lhs; unfold f_X5_valueOf1_L46
  rw [if_neg (nz_turn h), if_neg (nz_nm (by omega)), if_pos rfl, g_kind, rKind_at hw hi, Option.bind_some, hk, if_pos (show nz (kdT (.mul a b : Tm)) = (7 : Int32) from rfl), g_second, rSecond_at hw h1, Option.bind_some, a7, mpush_ok hd hl, Option.bind_some, g_first, rFirst_at hw h1, a6, Option.bind_some, show nz t + 1 = nz (t + 1) from nz_add t 1]
  show (if (4200 : Int32) ≤ nz (len + 1) then _ else _) = _
  by_cases q : 4200 ≤ len + 1
  · rw [if_pos q, if_pos (show (4200 : Int32) ≤ nz (len + 1) from (nz_le (i := 4200) (by decide) (by omega)).mpr q)]
  · rw [if_neg q, if_neg (show ¬ (4200 : Int32) ≤ nz (len + 1) from fun w => q ((nz_le (i := 4200) (by decide) (by omega)).mp w))]
/-- what a run answers -/
def RunR (A : SG) (B : FG) (G : GG) (T : Tm) (o : Option (Int32 × TS × MS)) (K : Rows) (n : Nat) (R : Option Tm × Nat) : Prop :=
  ∃ K' n' M' x, o = some (x, K', M') ∧ WF K' n' ∧ n ≤ n' ∧ Ext K K' n ∧ M'.2.2.2.2.2.2.1 = nz R.2 ∧ R.2 ≤ 41 ∧ ((R.1 = none ∧ x = -1) ∨ (∃ u m, R.1 = some u ∧ x = nz m ∧ Rep K' n' u m ∧ freeT u = 0 ∧ Typ (frOf (Cls G)) (tyOf (tbX A B)) u [] T ∧ R.2 ≤ 40))
theorem RunR_trans {A : SG} {B : FG} {G : GG} {T : Tm} {o : Option (Int32 × TS × MS)} {K K1 : Rows} {n n1 : Nat} {R : Option Tm × Nat} (h : RunR A B G T o K1 n1 R) (hn : n ≤ n1) (hx : Ext K K1 n) : RunR A B G T o K n R := by
  obtain ⟨K', n', M', x, h1, h2, h3, h4, h5⟩ := h
  exact ⟨K', n', M', x, h1, h2, by omega, Ext_trans hx h4 hn, h5⟩
theorem appK_le (A : SG) (B : FG) (v a : Tm) (tk : Nat) : appK A B v a tk ≤ tk + 1 := by
  unfold appK
  split
  · omega
  · split
    · omega
    · split <;> omega
theorem runT_none {A : SG} {B : FG} {G : GG} {f : Nat} {now : Tm} {isV : Bool} {stk : List (Bool × Tm)} {tk : Nat} (hm : (if isV = true then none else isM now) = none) : runT A B G (f + 1) now isV stk tk = (match stk with
      | [] => (some now, tk)
      | (false, b) :: s => runT A B G f b false ((true, now) :: s) tk
      | (true, v) :: s => match appT A B G v now tk with
        | none => (none, appK A B v now tk)
        | some (w, st, tk') => runT A B G f w (!st) s tk') := by
  conv => lhs; unfold runT
  rw [hm]
  rfl
theorem runT_appN {A : SG} {B : FG} {G : GG} {f : Nat} {now v : Tm} {isV : Bool} {s : List (Bool × Tm)} {tk : Nat} (hm : (if isV = true then none else isM now) = none) (h : appT A B G v now tk = none) : runT A B G (f + 1) now isV ((true, v) :: s) tk = (none, appK A B v now tk) := by
  rw [runT_none hm]
  show (match appT A B G v now tk with
        | none => (none, appK A B v now tk)
        | some (w, st, tk') => runT A B G f w (!st) s tk') = _
  rw [h]
theorem runT_appS {A : SG} {B : FG} {G : GG} {f : Nat} {now v w : Tm} {isV st : Bool} {s : List (Bool × Tm)} {tk tk' : Nat} (hm : (if isV = true then none else isM now) = none) (h : appT A B G v now tk = some (w, st, tk')) : runT A B G (f + 1) now isV ((true, v) :: s) tk = runT A B G f w (!st) s tk' := by
  rw [runT_none hm]
  show (match appT A B G v now tk with
        | none => (none, appK A B v now tk)
        | some (w, st, tk') => runT A B G f w (!st) s tk') = _
  rw [h]
theorem runT_some {A : SG} {B : FG} {G : GG} {f : Nat} {a b : Tm} {stk : List (Bool × Tm)} {tk : Nat} : runT A B G (f + 1) (.mul a b) false stk tk = (if 4200 ≤ stk.length + 1 then (none, tk) else runT A B G f a false ((false, b) :: stk) tk) := rfl
theorem run_ok {S : SS} {D : DS} {P : PS} {A : SG} {B : FG} {G : GG} (ht : CourtT A B G) {T : Tm} : ∀ (fu : Nat) (K : Rows) (n i tk turn : Nat) (M : MS) (now : Tm) (isV : Bool) (stk : List (Bool × Tm)), CourtC K n S D P A B G → Rep K n now i → freeT now = 0 → StkC K n M.1 M.2.1 stk → M.2.2.2.2.2.1 = nz stk.length → stk.length < 4200 → stkFree stk → Typ (frOf (Cls G)) (tyOf (tbX A B)) (plug stk now) [] T → M.2.2.2.2.2.2.1 = nz tk → tk ≤ 40 → n + pot stk + (if isV = true then 0 else apT now) + 300 * (40 - tk) ≤ 32768 → mu stk + (if isV = true then 0 else 3 * sizeT now) + 700 * (41 - tk) < fu → fu + turn ≤ 100000 →
    RunR A B G T (f_X5_valueOf1_L46 fu K S D M P (nz i) (if isV = true then 1 else 0) (nz turn)) K n (runT A B G fu now isV stk tk) := by
  intro fu
  induction fu with
  | zero => intro K n i tk turn M now isV stk _ _ _ _ _ _ _ _ _ _ _ h; omega
  | succ fu ih =>
    intro K n i tk turn M now isV stk hC hr hf hs hd hl hcl hty hk htk hroom hmu htn
    have hw := hC.1
    have hi := Rep_lt hr
    have hn := hw.2.1
    have ok := court_FOK ht
    have fail : ∀ (K' : Rows) (n' : Nat) (M' : MS) (tf : Nat) (v4 : Int32), WF K' n' → n ≤ n' → Ext K K' n → M'.2.2.2.2.2.2.1 = nz tf → tf ≤ 41 → RunR A B G T (f_X5_valueOf1_L46 fu K' S D M' P (-1) v4 (nz (turn + 1))) K n (none, tf) := by
      intro K' n' M' tf v4 w1 w2 w3 w4 w5
      obtain ⟨e, rfl⟩ : ∃ e, fu = e + 1 := ⟨fu - 1, by omega⟩
      rw [st_fail e K' S D M' P v4 (show turn + 1 ≤ 100000 by omega)]
      exact ⟨K', n', M', -1, rfl, w1, w2, w3, w4, w5, Or.inl ⟨rfl, rfl⟩⟩
    cases hm : (if isV = true then none else isM now) with
    | some p =>
      obtain ⟨a, b⟩ := p
      have hV : isV = false := by
        cases isV with
        | false => rfl
        | true => rw [if_pos rfl] at hm; cases hm
      subst hV
      rw [if_neg (by decide)] at hm
      obtain rfl := isM_some hm
      obtain ⟨ja, jb, r1, r2, r3⟩ := st_app (fu := fu) (S := S) (D := D) (M := M) (P := P) (t := turn) hw hr hd hl (by omega)
      have hfab : freeT (.mul a b : Tm) = max (freeT a) (freeT b) := rfl
      rw [hfab] at hf
      rw [show (if false = true then (1 : Int32) else 0) = 0 from rfl, r3, runT_some]
      rw [if_neg (by decide)] at hroom hmu
      have e1 : apT (.mul a b : Tm) = apT a + apT b + 1 := rfl
      have e2 : sizeT (.mul a b : Tm) = 1 + sizeT a + sizeT b := rfl
      rw [e1] at hroom
      rw [e2] at hmu
      by_cases q : 4200 ≤ stk.length + 1
      · rw [if_pos q, if_pos q]
        exact fail K n _ tk 0 hw (Nat.le_refl _) (Ext_refl K n) hk (by omega)
      · rw [if_neg q, if_neg q]
        refine ih K n ja tk (turn + 1) (pushM M stk.length (nz jb) 0) a false ((false, b) :: stk) hC r1 (by omega) ⟨?_, ⟨jb, ?_, r2⟩, ?_⟩ rfl (by rw [List.length_cons]; omega) ?_ hty hk htk ?_ ?_ (by omega)
        · show upd M.2.1 stk.length (vp_nar .boolean 0) stk.length = _
          exact (if_pos rfl).trans rfl
        · exact if_pos rfl
        · exact StkC_agree stk (fun x hx => ⟨if_neg (by omega), if_neg (by omega)⟩) hs
        · intro p hp
          rcases List.mem_cons.mp hp with rfl | hp
          · show freeT b = 0
            omega
          · exact hcl p hp
        · rw [if_neg (by decide)]
          show n + (1 + apT b + pot stk) + apT a + _ ≤ _
          omega
        · rw [if_neg (by decide)]
          show (3 * sizeT b + 2 + mu stk) + _ + _ < _
          omega
    | none =>
      have st : f_X5_valueOf1_L46 (fu + 1) K S D M P (nz i) (if isV = true then 1 else 0) (nz turn) = tail1 fu K S D M P (nz i) (nz turn) := by
        cases isV with
        | true => exact st_value (by omega) (by omega)
        | false =>
          rw [if_neg (by decide)] at hm
          exact st_leaf hw hr (isM_none hm hr) (by omega)
      rw [st]
      cases stk with
      | nil =>
        have hd0 : M.2.2.2.2.2.1 = 0 := hd
        have e : tail1 fu K S D M P (nz i) (nz turn) = some (nz i, K, M) := by
          unfold tail1
          rw [if_pos hd0]
        rw [e, runT_none hm]
        exact ⟨K, n, M, nz i, rfl, hw, Nat.le_refl _, Ext_refl K n, hk, (show tk ≤ 41 by omega), Or.inr ⟨now, i, rfl, rfl, hr, hf, hty, htk⟩⟩
      | cons p s =>
        obtain ⟨b, t⟩ := p
        obtain ⟨h1, ⟨j, h2, h3⟩, h4⟩ := hs
        have hd1 : M.2.2.2.2.2.1 = nz (s.length + 1) := hd
        have hls : s.length + 1 < 4200 := hl
        have es : nz (s.length + 1) - (1 : Int32) = nz s.length := nz_sub (i := s.length + 1) (j := 1) (by omega)
        have hcls : stkFree s := fun p hp => hcl p (List.mem_cons_of_mem _ hp)
        have hft : freeT t = 0 := hcl (b, t) (List.mem_cons_self)
        cases b with
        | false =>
          have h1' : M.2.1 s.length = 0 := h1
          have e : tail1 fu K S D M P (nz i) (nz turn) = f_X5_valueOf1_L46 fu K S D (pushM (popM M s.length) s.length (nz i) 1) P (nz j) 0 (nz (turn + 1)) := by
            unfold tail1
            rw [hd1, if_neg (show ¬ nz (s.length + 1) = (0 : Int32) from nz_ne (c := 0) (by omega) (by decide) (by omega)), es, if_pos (nz_inb (by omega) (by decide)), nz_nat (by omega), if_pos h1', if_pos (nz_inb (by omega) (by decide)), h2, show nz turn + 1 = nz (turn + 1) from nz_add turn 1]
            show Option.bind (g_X5_push (popM M s.length) (nz i) 1) _ = _
            rw [mpush_ok (M := popM M s.length) (len := s.length) rfl (by omega), Option.bind_some]
          rw [e, runT_none hm]
          have hmu' : 3 * sizeT t + 2 + mu s + (if isV = true then 0 else 3 * sizeT now) + 700 * (41 - tk) < fu + 1 := hmu
          have hroom' : n + (1 + apT t + pot s) + (if isV = true then 0 else apT now) + 300 * (40 - tk) ≤ 32768 := hroom
          refine ih K n j tk (turn + 1) (pushM (popM M s.length) s.length (nz i) 1) t false ((true, now) :: s) hC h3 hft ⟨?_, ⟨i, ?_, hr⟩, ?_⟩ rfl hl ?_ hty hk htk ?_ ?_ (by omega)
          · show upd M.2.1 s.length (vp_nar .boolean 1) s.length = _
            exact (if_pos rfl).trans rfl
          · exact if_pos rfl
          · exact StkC_agree s (fun x hx => ⟨if_neg (by omega), if_neg (by omega)⟩) h4
          · intro p hp
            rcases List.mem_cons.mp hp with rfl | hp
            · exact hf
            · exact hcls p hp
          · rw [if_neg (by decide)]
            show n + (1 + pot s) + apT t + _ ≤ _
            omega
          · rw [if_neg (by decide)]
            show (1 + mu s) + 3 * sizeT t + _ < _
            omega
        | true =>
          have h1' : M.2.1 s.length = 1 := h1
          have hmu' : 1 + mu s + (if isV = true then 0 else 3 * sizeT now) + 700 * (41 - tk) < fu + 1 := hmu
          have hroom' : n + (1 + pot s) + (if isV = true then 0 else apT now) + 300 * (40 - tk) ≤ 32768 := hroom
          have hty' : Typ (frOf (Cls G)) (tyOf (tbX A B)) (plug s (.mul t now)) [] T := hty
          obtain ⟨T', hT'⟩ := Typ_mid s _ _ hty'
          have e : tail1 fu K S D M P (nz i) (nz turn) = (f_X5_applied K S D (popM M s.length) P (nz j) (nz i)).bind (fun q => if q.2.2.2.2.2.2.2.2.2.1 = 0 then f_X5_valueOf1_L46 fu q.2.1 S D q.2.2 P q.1 1 (nz (turn + 1)) else f_X5_valueOf1_L46 fu q.2.1 S D q.2.2 P q.1 0 (nz (turn + 1))) := by
            unfold tail1
            rw [hd1, if_neg (show ¬ nz (s.length + 1) = (0 : Int32) from nz_ne (c := 0) (by omega) (by decide) (by omega)), es, if_pos (nz_inb (by omega) (by decide)), nz_nat (by omega), if_neg (show ¬ M.2.1 s.length = 0 by rw [h1']; decide), if_pos (nz_inb (by omega) (by decide)), h2, show nz turn + 1 = nz (turn + 1) from nz_add turn 1]
            rfl
          rw [e]
          obtain ⟨K', n', M', x, w0, w1, w2, w3, ⟨k1, k2, k3, k4⟩, w5⟩ := app_ok (M := popM M s.length) (tk := tk) hC ht h3 hr hT' hft hf hk (by omega) (by omega) (fun _ => by omega)
          rw [w0, Option.bind_some]
          rcases w5 with ⟨r1, r2, r3⟩ | ⟨w, sf, tk', m, r1, r2, r3, r4, r5, r6⟩
          · rw [runT_appN hm r1]
            have hle := appK_le A B t now tk
            show RunR A B G T (if M'.2.2.2.2.2.2.2.1 = 0 then f_X5_valueOf1_L46 fu K' S D M' P x 1 (nz (turn + 1)) else f_X5_valueOf1_L46 fu K' S D M' P x 0 (nz (turn + 1))) K n (none, appK A B t now tk)
            rw [r2]
            split
            · exact fail K' n' M' _ 1 w1 w2 w3 r3 (by omega)
            · exact fail K' n' M' _ 0 w1 w2 w3 r3 (by omega)
          · obtain ⟨c1, c2, c3, c4, c5⟩ := appT_keep ht r1 hft hf
            rw [runT_appS hm r1]
            show RunR A B G T (if M'.2.2.2.2.2.2.2.1 = 0 then f_X5_valueOf1_L46 fu K' S D M' P x 1 (nz (turn + 1)) else f_X5_valueOf1_L46 fu K' S D M' P x 0 (nz (turn + 1))) K n (runT A B G fu w (!sf) s tk')
            have hC' := CourtC_ext hC w1 w3 w2
            have hs' : StkC K' n' M'.1 M'.2.1 s := by
              rw [k1, k2]
              exact StkC_ext w3 w2 s h4
            have hty2 := Typ_plug ok s _ _ c2 c3 T hty'
            rw [r2, r5]
            cases sf with
            | true =>
              rw [if_pos rfl] at r6
              rw [if_pos rfl, if_neg (show ¬ (1 : Int32) = 0 by decide)]
              obtain ⟨d1, d2, d3⟩ := c4 rfl
              have ha := apT_size w
              refine RunR_trans (ih K' n' m tk' (turn + 1) M' w false s hC' r3 c1 hs' k3 (by omega) hcls hty2 r4 d3 ?_ ?_ (by omega)) w2 w3
              · rw [if_neg (by decide)]; omega
              · rw [if_neg (by decide)]; omega
            | false =>
              rw [if_neg (by decide)] at r6
              rw [show (if false = true then (1 : Int32) else 0) = 0 from rfl, if_pos rfl]
              obtain ⟨d1, d2⟩ := c5 rfl
              refine RunR_trans (ih K' n' m tk' (turn + 1) M' w true s hC' r3 c1 hs' k3 (by omega) hcls hty2 r4 (by omega) ?_ ?_ (by omega)) w2 w3
              · rw [if_pos rfl, d2]; omega
              · rw [if_pos rfl, d2]; omega
