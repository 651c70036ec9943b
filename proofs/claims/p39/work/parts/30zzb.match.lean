/-! a pattern and a value -/
abbrev MO : Type := Int32 × Int32 × (Nat → Int32) × Int32 × (Nat → Int32) × (Nat → Int32) × (Nat → Int32)
def outM (r vc : Int32) (wv : Nat → Int32) (K : Rows) : MO := (r, vc, wv, K.1, K.2.1, K.2.2.1, K.2.2.2.1)
def rowsM (K : Rows) (u : MO) : Rows := (u.2.2.2.1, u.2.2.2.2.1, u.2.2.2.2.2.1, u.2.2.2.2.2.2, K.2.2.2.2)
def rM (d : Nat) (vc : Int32) (wv : Nat → Int32) (K : Rows) (p1 p2 : Int32) : Option MO := f_X5_match d vc wv K.1 K.2.1 K.2.2.1 K.2.2.2.1 p1 p2
theorem rM_step (d : Nat) (vc : Int32) (wv : Nat → Int32) (K : Rows) (p1 p2 : Int32) : rM (d + 1) vc wv K p1 p2 = (rKind K p1).bind (fun k => if k = 1 then (rFirst K p1).bind (fun f => if (vc - 1) - f < 0 then some (outM 0 vc wv K) else if (vc - 1) - f < 12 then (if inb ((vc - 1) - f) 12 = true then some (outM 1 vc (upd wv (Int32.toNatClampNeg ((vc - 1) - f)) p2) K) else none) else some (outM 0 vc wv K)) else
    (rKind K p2).bind (fun k2 => if k = k2 then (if k = 7 then (rFirst K p1).bind (fun f => (rFirst K p2).bind (fun f2 => (rM d vc wv K f f2).bind (fun u => if u.1 = 0 then some (0, u.2.1, u.2.2.1, u.2.2.2.1, u.2.2.2.2.1, u.2.2.2.2.2.1, u.2.2.2.2.2.2) else (rSecond (rowsM K u) p1).bind (fun s => (rSecond (rowsM K u) p2).bind (fun s2 => (rM d u.2.1 u.2.2.1 (rowsM K u) s s2).bind (fun w => if w.1 = 0 then some (0, w.2.1, w.2.2.1, w.2.2.2.1, w.2.2.2.2.1, w.2.2.2.2.2.1, w.2.2.2.2.2.2) else some (1, w.2.1, w.2.2.1, w.2.2.2.1, w.2.2.2.2.1, w.2.2.2.2.2.1, w.2.2.2.2.2.2)))))))
      else (rFirst K p1).bind (fun f => (rFirst K p2).bind (fun f2 => if f = f2 then some (outM 1 vc wv K) else some (outM 0 vc wv K)))) else some (outM 0 vc wv K))) := rfl
def Binds (K : Rows) (n cnt : Nat) (wv : Nat → Int32) (σ : Nat → Tm) (p : Tm) : Prop := ∀ k, occ p k → ∃ x, wv (cnt - 1 - k) = nz x ∧ Rep K n (σ k) x
theorem match_ok {K : Rows} {n cnt : Nat} (hw : WF K n) (hc12 : cnt ≤ 12) : ∀ (p : Tm) (d i j : Nat) (v : Tm) (fl : Bool) (wv : Nat → Int32), Rep K n p i → Rep K n v j → patB conB p fl → lin p → (∀ k, occ p k → k < cnt) → sizeT p ≤ d →
    (∃ wv' σ, rM d (nz cnt) wv K (nz i) (nz j) = some (outM 1 (nz cnt) wv' K) ∧ sbs p σ = v ∧ Binds K n cnt wv' σ p ∧ ∀ y, (∀ k, occ p k → y ≠ cnt - 1 - k) → wv' y = wv y) ∨
    (∃ wv', rM d (nz cnt) wv K (nz i) (nz j) = some (outM 0 (nz cnt) wv' K) ∧ (∀ y, (∀ k, occ p k → y ≠ cnt - 1 - k) → wv' y = wv y) ∧ ∀ σ, sbs p σ ≠ v) := by
  intro p
  have hn := hw.2.1
  induction p with
  | index k =>
    intro d i j v fl wv hp hv hpat hlin hocc hd
    obtain ⟨d, rfl⟩ : ∃ e, d = e + 1 := ⟨d - 1, by have := sizeT_pos (.index k : Tm); omega⟩
    have hi := Rep_lt hp
    obtain ⟨-, hk, h3, h4⟩ := hp
    have hkc := hocc k rfl
    have esub : nz cnt - 1 - nz k = nz (cnt - 1 - k) := by rw [show (1 : Int32) = nz 1 from rfl, nz_sub (by omega), nz_sub (by omega)]
    refine Or.inl ⟨upd wv (cnt - 1 - k) (nz j), fun _ => v, ?_, rfl, ?_, ?_⟩
    · rw [rM_step, rKind_at hw hi, Option.bind_some, h4.1, if_pos (show nz 1 = 1 from rfl), rFirst_at hw hi, Option.bind_some, h3, esub, if_neg (nz_neg (by omega)), if_pos (show nz (cnt - 1 - k) < (12 : Int32) from (nz_lt (j := 12) (by omega) (by decide)).mpr (by omega)), if_pos (nz_inb (by omega) (by decide)), nz_nat (by omega)]
    · intro k' hk'
      have e : k = k' := hk'
      subst e
      exact ⟨j, if_pos rfl, hv⟩
    · intro y hy
      exact if_neg (hy k rfl)
  | arg m =>
    intro d i j v fl wv hp hv hpat hlin hocc hd
    obtain ⟨d, rfl⟩ : ∃ e, d = e + 1 := ⟨d - 1, by have := sizeT_pos (.arg m : Tm); omega⟩
    have hi := Rep_lt hp
    have hj := Rep_lt hv
    have h3' : (m % 8 == 3) = true := hpat
    have hm3 : m % 8 = 3 := by simpa using h3'
    obtain ⟨-, hm, -, h4, h5⟩ := hp
    have hk8 : kdT v < 8 := by rcases (Rep_view hv).2 with w | w <;> omega
    have st : rM (d + 1) (nz cnt) wv K (nz i) (nz j) = (if nz 3 = nz (kdT v) then (if nz (m / 8) = K.2.2.1 j then some (outM 1 (nz cnt) wv K) else some (outM 0 (nz cnt) wv K)) else some (outM 0 (nz cnt) wv K)) := by
      rw [rM_step, rKind_at hw hi, Option.bind_some, h5.1, hm3, if_neg (by decide : ¬ nz 3 = 1), rKind_at hw hj, Option.bind_some, (Rep_view hv).1, rFirst_at hw hi, Option.bind_some, rFirst_at hw hj, Option.bind_some, if_neg (by decide : ¬ nz 3 = 7), h4]
      rfl
    rw [st]
    by_cases hk : kdT v = 3
    · have hv2 : K.2.2.1 j = nz (prT v) ∧ prT v < 1000000 ∧ v = .arg (8 * prT v + 3) := by
        rcases (Rep_view hv).2 with w | w
        · refine ⟨w.2.2.1, w.2.1, ?_⟩
          have q := w.2.2.2
          rw [hk, if_neg (by decide)] at q
          exact q
        · omega
      rw [if_pos (by rw [hk]), hv2.1]
      by_cases hq : m / 8 = prT v
      · rw [if_pos (by rw [hq])]
        refine Or.inl ⟨wv, fun _ => v, rfl, ?_, fun k hk' => absurd hk' (fun q => q.elim), fun y _ => rfl⟩
        show Jvm.Term.arg m = v
        rw [hv2.2.2]
        congr 1
        omega
      · rw [if_neg (nz_ne (by omega) (by omega) hq)]
        refine Or.inr ⟨wv, rfl, fun y _ => rfl, fun σ hs => hq ?_⟩
        have hs' : Jvm.Term.arg m = v := hs
        rw [hv2.2.2] at hs'
        have : m = 8 * prT v + 3 := by injection hs'
        omega
    · rw [if_neg (nz_ne (by decide) (by omega) (fun q => hk q.symm))]
      refine Or.inr ⟨wv, rfl, fun y _ => rfl, fun σ hs => hk ?_⟩
      have hs' : Jvm.Term.arg m = v := hs
      rw [← hs']
      exact hm3
  | mul a b iha ihb =>
    intro d i j v fl wv hp hv hpat hlin hocc hd
    have hsz : sizeT (.mul a b : Tm) = 1 + sizeT a + sizeT b := rfl
    rw [hsz] at hd
    obtain ⟨d, rfl⟩ : ∃ e, d = e + 1 := ⟨d - 1, by omega⟩
    have hi := Rep_lt hp
    have hj := Rep_lt hv
    obtain ⟨h1, h2, h3, j1, l1, h4, h5, h6, h7, h8, h9⟩ := hp
    obtain ⟨p1, p2⟩ := hpat
    obtain ⟨n1, n2, n3⟩ := hlin
    have hk8 : kdT v < 8 := by rcases (Rep_view hv).2 with w | w <;> omega
    by_cases hk : kdT v = 7
    · obtain ⟨c, e, jc, je, hv1, hv2, hv3, hv4, hv5, hv6⟩ : ∃ c e jc je, v = .mul c e ∧ K.2.1 j = nz 7 ∧ K.2.2.1 j = nz jc ∧ K.2.2.2.1 j = nz je ∧ Rep K n c jc ∧ Rep K n e je := by
        rcases (Rep_view hv).2 with w | ⟨_, _, c, e, jc, je, w1, w2, w3, w4, w5, w6⟩
        · omega
        · refine ⟨c, e, jc, je, ?_, ?_, w3, w4, w5, w6⟩
          · rw [w1, hk]; rfl
          · rw [(Rep_view hv).1, hk]
      have st : rM (d + 1) (nz cnt) wv K (nz i) (nz j) = (rM d (nz cnt) wv K (nz j1) (nz jc)).bind (fun u => if u.1 = 0 then some (0, u.2.1, u.2.2.1, u.2.2.2.1, u.2.2.2.2.1, u.2.2.2.2.2.1, u.2.2.2.2.2.2) else (rSecond (rowsM K u) (nz i)).bind (fun s => (rSecond (rowsM K u) (nz j)).bind (fun s2 => (rM d u.2.1 u.2.2.1 (rowsM K u) s s2).bind (fun w => if w.1 = 0 then some (0, w.2.1, w.2.2.1, w.2.2.2.1, w.2.2.2.2.1, w.2.2.2.2.2.1, w.2.2.2.2.2.2) else some (1, w.2.1, w.2.2.1, w.2.2.2.1, w.2.2.2.2.1, w.2.2.2.2.2.1, w.2.2.2.2.2.2))))) := by
        rw [rM_step, rKind_at hw hi, Option.bind_some, h3.1, if_neg (by decide : ¬ nz 7 = 1), rKind_at hw hj, Option.bind_some, hv2, if_pos rfl, if_pos (show nz 7 = 7 from rfl), rFirst_at hw hi, Option.bind_some, rFirst_at hw hj, Option.bind_some, h6, hv3]
      rcases iha d j1 jc c false wv h8 hv5 p1 n1 (fun k hk => hocc k (Or.inl hk)) (by omega) with ⟨wv1, σ1, r1, r2, r3, r4⟩ | ⟨wv1, r1, r4, r2⟩
      · have st2 : rM (d + 1) (nz cnt) wv K (nz i) (nz j) = (rM d (nz cnt) wv1 K (nz l1) (nz je)).bind (fun w => if w.1 = 0 then some (0, w.2.1, w.2.2.1, w.2.2.2.1, w.2.2.2.2.1, w.2.2.2.2.2.1, w.2.2.2.2.2.2) else some (1, w.2.1, w.2.2.1, w.2.2.2.1, w.2.2.2.2.1, w.2.2.2.2.2.1, w.2.2.2.2.2.2)) := by
          rw [st, r1, Option.bind_some, if_neg (show ¬ (outM 1 (nz cnt) wv1 K).1 = 0 from (by decide : ¬ (1 : Int32) = 0))]
          show (rSecond K (nz i)).bind _ = _
          rw [rSecond_at hw hi, Option.bind_some]
          show (rSecond K (nz j)).bind _ = _
          rw [rSecond_at hw hj, Option.bind_some, h7, hv4]
          rfl
        rcases ihb d l1 je e true wv1 h9 hv6 p2 n2 (fun k hk => hocc k (Or.inr hk)) (by omega) with ⟨wv2, σ2, q1, q2, q3, q4⟩ | ⟨wv2, q1, q4, q2⟩
        · classical
          refine Or.inl ⟨wv2, fun k => if occ a k then σ1 k else σ2 k, ?_, ?_, ?_, ?_⟩
          · rw [st2, q1, Option.bind_some, if_neg (show ¬ (outM 1 (nz cnt) wv2 K).1 = 0 from (by decide : ¬ (1 : Int32) = 0))]
            rfl
          · have e1 : sbs a (fun k => if occ a k then σ1 k else σ2 k) = c := by
              rw [← r2]
              exact sbs_occ_pat a false _ _ p1 (fun k hk => if_pos hk)
            have e2 : sbs b (fun k => if occ a k then σ1 k else σ2 k) = e := by
              rw [← q2]
              exact sbs_occ_pat b true _ _ p2 (fun k hk => if_neg (fun w => n3 k w hk))
            show Jvm.Term.mul (sbs a _) (sbs b _) = v
            rw [e1, e2, hv1]
          · intro k hk
            rcases hk with hk | hk
            · obtain ⟨x, x1, x2⟩ := r3 k hk
              refine ⟨x, ?_, by show Rep K n (if occ a k then σ1 k else σ2 k) x; rw [if_pos hk]; exact x2⟩
              rw [q4 (cnt - 1 - k) (fun k' hk' hq => n3 k hk (by
                have a1 := hocc k (Or.inl hk)
                have a2 := hocc k' (Or.inr hk')
                have : k = k' := by omega
                rw [this]; exact hk'))]
              exact x1
            · obtain ⟨x, x1, x2⟩ := q3 k hk
              exact ⟨x, x1, by show Rep K n (if occ a k then σ1 k else σ2 k) x; rw [if_neg (fun w => n3 k w hk)]; exact x2⟩
          · intro y hy
            rw [q4 y (fun k hk => hy k (Or.inr hk)), r4 y (fun k hk => hy k (Or.inl hk))]
        · refine Or.inr ⟨wv2, ?_, ?_, fun σ hs => q2 σ ?_⟩
          · rw [st2, q1, Option.bind_some, if_pos (show (outM 0 (nz cnt) wv2 K).1 = 0 from rfl)]
            rfl
          · intro y hy
            rw [q4 y (fun k hk => hy k (Or.inr hk)), r4 y (fun k hk => hy k (Or.inl hk))]
          · have hs' : Jvm.Term.mul (sbs a σ) (sbs b σ) = v := hs
            rw [hv1] at hs'
            injection hs'
      · refine Or.inr ⟨wv1, ?_, fun y hy => r4 y (fun k hk => hy k (Or.inl hk)), fun σ hs => r2 σ ?_⟩
        · rw [st, r1, Option.bind_some, if_pos (show (outM 0 (nz cnt) wv1 K).1 = 0 from rfl)]
          rfl
        · have hs' : Jvm.Term.mul (sbs a σ) (sbs b σ) = v := hs
          rw [hv1] at hs'
          injection hs'
    · refine Or.inr ⟨wv, ?_, fun y _ => rfl, fun σ hs => hk ?_⟩
      · rw [rM_step, rKind_at hw hi, Option.bind_some, h3.1, if_neg (by decide : ¬ nz 7 = 1), rKind_at hw hj, Option.bind_some, (Rep_view hv).1, if_neg (nz_ne (by decide) (by omega) (fun q => hk q.symm))]
      · have hs' : Jvm.Term.mul (sbs a σ) (sbs b σ) = v := hs
        rw [← hs']; rfl
  | add a b _ _ => intro d i j v fl wv _ _ hpat; exact hpat.elim
  | sub a b _ _ => intro d i j v fl wv _ _ hpat; exact hpat.elim
  | _ => intro d i j v fl wv hp; exact hp.elim
