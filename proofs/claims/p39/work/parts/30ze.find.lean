theorem find_app {S : SS} {D : DS} {P : PS} {tb : Nat → Option Tm} {B : Nat} (hB : B ≤ 800000) (htbf : ∀ m T, tb m = some T → freeT T ≤ B) {a b : Tm} {d : Nat} {K : Rows} {n : Nat} {F : FS} {U : US} {Γ : List Tm} {i j l : Nat}
    (iha : ∀ (K : Rows) (n : Nat) (F : FS) (U : US) (Γ : List Tm) (i : Nat), WF K n → Rep K n a i → UOK K n U Γ → Γ.length + sizeT a ≤ 42 → TB K n S D P tb → (∀ A ∈ Γ, freeT A ≤ B ∧ sizeT A ≤ 80) → freeT a + sizeT a ≤ B → n + 181 * sizeT a + 2600 ≤ 32768 → Found (f_X10_find d K F U S D P (nz i)) K n U Γ (tyT tb a Γ) (sizeT a))
    (ihb : ∀ (K : Rows) (n : Nat) (F : FS) (U : US) (Γ : List Tm) (i : Nat), WF K n → Rep K n b i → UOK K n U Γ → Γ.length + sizeT b ≤ 42 → TB K n S D P tb → (∀ A ∈ Γ, freeT A ≤ B ∧ sizeT A ≤ 80) → freeT b + sizeT b ≤ B → n + 181 * sizeT b + 2600 ≤ 32768 → Found (f_X10_find d K F U S D P (nz i)) K n U Γ (tyT tb b Γ) (sizeT b))
    (hw : WF K n) (hi : i < n) (h6 : K.2.2.1 i = nz j) (h7 : K.2.2.2.1 i = nz l) (ha : Rep K n a j) (hb : Rep K n b l) (hu : UOK K n U Γ) (hl : Γ.length + (1 + sizeT a + sizeT b) ≤ 42) (htb : TB K n S D P tb) (hΓ : ∀ A ∈ Γ, freeT A ≤ B ∧ sizeT A ≤ 80)
    (hfr : max (freeT a) (freeT b) + (1 + sizeT a + sizeT b) ≤ B) (hroom : n + 181 * (1 + sizeT a + sizeT b) + 2600 ≤ 32768) :
    Found (f_X10_ofApplication (f_X10_find d) K F U S D P (nz i)) K n U Γ (tyT tb (.mul a b) Γ) (1 + sizeT a + sizeT b) := by
  have hpa := sizeT_pos a
  have hpb := sizeT_pos b
  have hn := hw.2.1
  obtain ⟨A1, A2⟩ := FN_ok (iha K n F U Γ j hw ha hu (by omega) htb hΓ (by omega) (by omega)) (by omega) (fun A hA => by
    have := tyT_free htbf a Γ A (fun X hX => (hΓ X hX).1) (by omega) (by omega) hA
    omega)
  have eP : tyT tb (.mul a b) Γ = (isPi ((tyT tb a Γ).bind nf)).bind (fun q => if (tyT tb b Γ).bind nf = some q.1 then capT (inst q.2 b) else none) := rfl
  rw [eP, ofApplication_step, rSecond_at hw hi, Option.bind_some, h7, rFirst_at hw hi, Option.bind_some, h6]
  cases hA : (tyT tb a Γ).bind nf with
  | none =>
    obtain ⟨K1, n1, F1, U1, e1, e2, e3, e4⟩ := A2 hA
    refine ⟨fun A h => absurd h (by show ¬ (none = some A); exact fun h => by cases h), fun _ => ⟨K1, n1, F1, U1, ?_, e2, e3, e4⟩⟩
    rw [e1, Option.bind_some]
    show (rKind K1 (-1)).bind _ = _
    rw [kind_none, Option.bind_some, if_neg (by decide)]
  | some u =>
    obtain ⟨K1, n1, F1, U1, j1, e1, e2, e3, e4, e5, e6, e7⟩ := A1 u hA
    have hn1 := e2.2.1
    have hj1 := Rep_lt e6
    have hk8 : kdT u < 8 := by rcases (Rep_view e6).2 with v | v <;> omega
    obtain ⟨X, hX⟩ : ∃ X, nf X = some u := by
      cases h : tyT tb a Γ with
      | none => rw [h] at hA; cases hA
      | some X => exact ⟨X, by rw [h] at hA; exact hA⟩
    have hzu := (nfT_some 21 X u hX).1
    by_cases hk : kdT u = 5
    · obtain ⟨C, E, rfl⟩ := (isPi_at e6).1 hk
      have e6' := e6
      obtain ⟨-, -, -, jc, je, c1, c2, c3, c4, c5, c6⟩ := e6'
      have hb1 := Rep_ext e5 e3 b l hb
      have hzu' : 1 + sizeT C + sizeT E ≤ 80 := hzu
      obtain ⟨B1, B2⟩ := FN_ok (ihb K1 n1 F1 U1 Γ l e2 hb1 (UOK_same (UOK_ext hu e5 e3) e7) (by omega) (TB_ext htb e5 e3) hΓ (by omega) (by
        have : sizeT (.add C E : Tm) = 1 + sizeT C + sizeT E := rfl
        omega)) (by
        have : sizeT (.add C E : Tm) = 1 + sizeT C + sizeT E := rfl
        omega) (fun A hA => by
          have := tyT_free htbf b Γ A (fun X hX => (hΓ X hX).1) (by omega) (by omega) hA
          omega)
      have e4' : n1 + 101 ≤ n + 181 * sizeT a + (1 + sizeT C + sizeT E) := e4
      have st : ((FN (f_X10_find d) K F U S D P (nz j)).bind (fun z => (rKind z.2.1 z.1).bind (fun k => if k = 5 then
          (FN (f_X10_find d) z.2.1 z.2.2.1 z.2.2.2 S D P (nz l)).bind (fun y => (rFirst y.2.1 z.1).bind (fun c => (rSame 200 y.2.1 y.1 c).bind (fun e => (g_X9_release y.2.1 z.2.1.1).bind (fun r => if e = 0 then some ((-1), r, y.2.2.1, y.2.2.2) else (rSecond r z.1).bind (fun c => (rPut 200 r c (nz l) 0).bind (fun w => some (w.1, w.2, y.2.2.1, y.2.2.2))))))) else some ((-1), z.2.1, z.2.2.1, z.2.2.2)))) =
          (FN (f_X10_find d) K1 F1 U1 S D P (nz l)).bind (fun y => (rFirst y.2.1 (nz j1)).bind (fun c => (rSame 200 y.2.1 y.1 c).bind (fun e => (g_X9_release y.2.1 (nz n1)).bind (fun r => if e = 0 then some ((-1), r, y.2.2.1, y.2.2.2) else (rSecond r (nz j1)).bind (fun c => (rPut 200 r c (nz l) 0).bind (fun w => some (w.1, w.2, y.2.2.1, y.2.2.2))))))) := by
        rw [e1, Option.bind_some]
        show (rKind K1 (nz j1)).bind _ = _
        rw [rKind_at e2 hj1, Option.bind_some, (Rep_view e6).1, hk, if_pos (show nz 5 = 5 from rfl)]
        show (FN (f_X10_find d) K1 F1 U1 S D P (nz l)).bind (fun y => (rFirst y.2.1 (nz j1)).bind (fun c => (rSame 200 y.2.1 y.1 c).bind (fun e => (g_X9_release y.2.1 K1.1).bind (fun r => if e = 0 then some ((-1), r, y.2.2.1, y.2.2.2) else (rSecond r (nz j1)).bind (fun c => (rPut 200 r c (nz l) 0).bind (fun w => some (w.1, w.2, y.2.2.1, y.2.2.2))))))) = _
        rw [e2.1]
      rw [st]
      show Found _ K n U Γ (if (tyT tb b Γ).bind nf = some C then capT (inst E b) else none) _
      have step2 : ∀ (y : Int32) (K3 : Rows) (n3 : Nat) (F3 : FS) (U3 : US) (e : Int32), FN (f_X10_find d) K1 F1 U1 S D P (nz l) = some (y, K3, F3, U3) → WF K3 n3 → n1 ≤ n3 → Ext K1 K3 n1 → rSame 200 K3 y (nz jc) = some e →
          (FN (f_X10_find d) K1 F1 U1 S D P (nz l)).bind (fun y => (rFirst y.2.1 (nz j1)).bind (fun c => (rSame 200 y.2.1 y.1 c).bind (fun e => (g_X9_release y.2.1 (nz n1)).bind (fun r => if e = 0 then some ((-1), r, y.2.2.1, y.2.2.2) else (rSecond r (nz j1)).bind (fun c => (rPut 200 r c (nz l) 0).bind (fun w => some (w.1, w.2, y.2.2.1, y.2.2.2))))))) =
            (if e = 0 then some ((-1), setM K3 n1, F3, U3) else (rPut 200 (setM K3 n1) (nz je) (nz l) (nz 0)).bind (fun w => some (w.1, w.2, F3, U3))) := by
        intro y K3 n3 F3 U3 e g1 g2 g3 g4 g5
        have hs : (setM K3 n1).2.2.2.1 j1 = nz je := ((g4 j1 hj1).2.2.1).trans c4
        rw [g1, Option.bind_some]
        show (rFirst K3 (nz j1)).bind _ = _
        rw [rFirst_at g2 (by omega), Option.bind_some, (g4 j1 hj1).2.1, c3]
        show (rSame 200 K3 y (nz jc)).bind _ = _
        rw [g5, Option.bind_some]
        show (g_X9_release K3 (nz n1)).bind _ = _
        rw [g_release g2 g3, Option.bind_some, rSecond_at (WF_cut g2 g3) hj1, Option.bind_some, hs]
        rfl
      cases hW : (tyT tb b Γ).bind nf with
      | none =>
        obtain ⟨K3, n3, F3, U3, g1, g2, g3, g4⟩ := B2 hW
        rw [step2 (-1) K3 n3 F3 U3 0 g1 g2 g3 g4 (same_none K3 _ 199), if_pos rfl, if_neg (fun h => by cases h)]
        exact ⟨fun A h => (by cases h), fun _ => ⟨setM K3 n1, n1, F3, U3, rfl, WF_cut g2 g3, e3, Ext_trans e5 (Ext_trans g4 (Ext_setM K3 n1 n1) (Nat.le_refl _)) e3⟩⟩
      | some w =>
        obtain ⟨K3, n3, F3, U3, j3, g1, g2, g3, g4, g5, g6, g7⟩ := B1 w hW
        have hx3 : Ext K (setM K3 n1) n := Ext_trans e5 (Ext_trans g5 (Ext_setM K3 n1 n1) (Nat.le_refl _)) e3
        have C3 : Rep K3 n3 C jc := Rep_ext g5 g3 C jc c5
        obtain ⟨s1, s2⟩ := rSame_yes g2 200 w C j3 jc (Rep_size w j3 g6) g6 C3
        by_cases hwc : w = C
        · rw [step2 (nz j3) K3 n3 F3 U3 1 g1 g2 g3 g5 (s1 hwc), if_neg (by decide : ¬ (1 : Int32) = 0), if_pos (by rw [hwc])]
          have hwr := WF_cut g2 g3
          have xr : Ext K1 (setM K3 n1) n1 := Ext_trans g5 (Ext_setM K3 n1 n1) (Nat.le_refl _)
          have rE : Rep (setM K3 n1) n1 E je := Rep_ext xr (Nat.le_refl _) E je c6
          have rb : Rep (setM K3 n1) n1 b l := Rep_ext xr (Nat.le_refl _) b l hb1
          have zE := Rep_size E je c6
          have hsz : 8 * sizeT (inst E b) + 8 ≤ 14641 := inst_size E b (s := 121) (by omega) (by decide)
          have tr := rPut_made b l E 200 (setM K3 n1) n1 je 0 hwr rE rb zE (by omega) (by rw [pt_zero]; omega)
          rw [pt_zero] at tr
          obtain ⟨K5, n5, w5, m5, m6, x5, q⟩ := tr
          rcases q with ⟨z5, m, o5, r5⟩ | ⟨z5, o5⟩
          · rw [o5, Option.bind_some]
            unfold capT
            rw [if_pos z5]
            refine ⟨fun A h => ?_, fun h => by cases h⟩
            have eA : inst E b = A := by injection h
            subst eA
            refine ⟨K5, n5, F3, U3, m, rfl, w5, by omega, by omega, Ext_trans hx3 x5 e3, r5, SameU_trans e7 g7⟩
          · rw [o5, Option.bind_some]
            unfold capT
            rw [if_neg (by omega)]
            exact ⟨fun A h => (by cases h), fun _ => ⟨K5, n5, F3, U3, rfl, w5, by omega, Ext_trans hx3 x5 e3⟩⟩
        · rw [step2 (nz j3) K3 n3 F3 U3 0 g1 g2 g3 g5 (s2 hwc), if_pos rfl, if_neg (fun h => hwc (by injection h))]
          exact ⟨fun A h => (by cases h), fun _ => ⟨setM K3 n1, n1, F3, U3, rfl, WF_cut g2 g3, e3, hx3⟩⟩
    · have hun : isPi (some u) = none := (isPi_at e6).2 hk
      have ck : ¬ nz (kdT u) = (5 : Int32) := nz_ne (c := 5) (by omega) (by decide) hk
      rw [hun]
      refine ⟨fun A h => absurd h (by show ¬ (none = some A); exact fun h => by cases h), fun _ => ⟨K1, n1, F1, U1, ?_, e2, e3, e5⟩⟩
      rw [e1, Option.bind_some]
      show (rKind K1 (nz j1)).bind _ = _
      rw [rKind_at e2 hj1, Option.bind_some, (Rep_view e6).1, if_neg ck]
