theorem find_pi {S : SS} {D : DS} {P : PS} {tb : Nat → Option Tm} {B : Nat} (hB : B ≤ 800000) (htbf : ∀ m T, tb m = some T → freeT T ≤ B) {a b : Tm} {d : Nat} {K : Rows} {n : Nat} {F : FS} {U : US} {Γ : List Tm} {i j l : Nat}
    (iha : ∀ (K : Rows) (n : Nat) (F : FS) (U : US) (Γ : List Tm) (i : Nat), WF K n → Rep K n a i → UOK K n U Γ → Γ.length + sizeT a ≤ 42 → TB K n S D P tb → (∀ A ∈ Γ, freeT A ≤ B ∧ sizeT A ≤ 80) → freeT a + sizeT a ≤ B → n + 181 * sizeT a + 2600 ≤ 32768 → Found (f_X10_find d K F U S D P (nz i)) K n U Γ (tyT tb a Γ) (sizeT a))
    (ihb : ∀ (K : Rows) (n : Nat) (F : FS) (U : US) (Γ : List Tm) (i : Nat), WF K n → Rep K n b i → UOK K n U Γ → Γ.length + sizeT b ≤ 42 → TB K n S D P tb → (∀ A ∈ Γ, freeT A ≤ B ∧ sizeT A ≤ 80) → freeT b + sizeT b ≤ B → n + 181 * sizeT b + 2600 ≤ 32768 → Found (f_X10_find d K F U S D P (nz i)) K n U Γ (tyT tb b Γ) (sizeT b))
    (hw : WF K n) (hi : i < n) (h6 : K.2.2.1 i = nz j) (h7 : K.2.2.2.1 i = nz l) (ha : Rep K n a j) (hb : Rep K n b l) (hu : UOK K n U Γ) (hl : Γ.length + (1 + sizeT a + sizeT b) ≤ 42) (htb : TB K n S D P tb) (hΓ : ∀ A ∈ Γ, freeT A ≤ B ∧ sizeT A ≤ 80)
    (hfr : max (freeT a) (freeT b - 1) + (1 + sizeT a + sizeT b) ≤ B) (hroom : n + 181 * (1 + sizeT a + sizeT b) + 2600 ≤ 32768) :
    Found (f_X10_ofFunctions (f_X10_find d) K F U S D P (nz i)) K n U Γ (tyT tb (.add a b) Γ) (1 + sizeT a + sizeT b) ∧ Found (f_X10_ofLambda (f_X10_find d) K F U S D P (nz i)) K n U Γ (tyT tb (.sub a b) Γ) (1 + sizeT a + sizeT b) := by
  have hpa := sizeT_pos a
  have hpb := sizeT_pos b
  have htf : ∀ m T, tb m = some T → freeT T ≤ B := htbf
  obtain ⟨A1, A2⟩ := FN_ok (iha K n F U Γ j hw ha hu (by omega) htb hΓ (by omega) (by omega)) (by omega) (fun A hA => by
    have := tyT_free htf a Γ A (fun X hX => (hΓ X hX).1) (by omega) (by omega) hA
    omega)
  have eP : tyT tb (.add a b) Γ = (isUn ((tyT tb a Γ).bind nf)).bind (fun u => (isUn ((tyT tb b (a :: Γ)).bind nf)).bind (fun w => some (.arg (8 * max u w + 0)))) := rfl
  have eL : tyT tb (.sub a b) Γ = (isUn ((tyT tb a Γ).bind nf)).bind (fun _ => (tyT tb b (a :: Γ)).bind (fun B => capT (.add a B))) := rfl
  rw [eP, eL, ofFunctions_step, ofLambda_step, rFirst_at hw hi, Option.bind_some, Option.bind_some, h6]
  cases hA : (tyT tb a Γ).bind nf with
  | none =>
    obtain ⟨K1, n1, F1, U1, e1, e2, e3, e4⟩ := A2 hA
    have hno : ∀ z, isUn none = some z → False := fun z h => by cases h
    constructor
    · refine ⟨fun A h => absurd h (by show ¬ (none = some A); exact fun h => by cases h), fun _ => ⟨K1, n1, F1, U1, ?_, e2, e3, e4⟩⟩
      rw [e1, Option.bind_some]
      show (rKind K1 (-1)).bind _ = _
      rw [kind_none, Option.bind_some, if_neg (by decide)]
    · refine ⟨fun A h => absurd h (by show ¬ (none = some A); exact fun h => by cases h), fun _ => ⟨K1, n1, F1, U1, ?_, e2, e3, e4⟩⟩
      rw [e1, Option.bind_some]
      show (rKind K1 (-1)).bind _ = _
      rw [kind_none, Option.bind_some, if_neg (by decide)]
  | some u =>
    obtain ⟨K1, n1, F1, U1, j1, e1, e2, e3, e4, e5, e6, e7⟩ := A1 u hA
    have hn1 := e2.2.1
    have hj1 := Rep_lt e6
    have hk8 : kdT u < 8 := by rcases (Rep_view e6).2 with v | v <;> omega
    by_cases hk : kdT u = 0
    · have hun : isUn (some u) = some (prT u) := by rw [isUn_at e6, if_pos hk]
      have hzu1 : sizeT u = 1 := by
        cases u with
        | arg m => rfl
        | index k => rfl
        | add a b => exact absurd hk (by decide : ¬ 5 = 0)
        | sub a b => exact absurd hk (by decide : ¬ 6 = 0)
        | mul a b => exact absurd hk (by decide : ¬ 7 = 0)
        | _ => exact e6.elim
      obtain ⟨U2, p1, p2, p3, p4⟩ := push_ok (UOK_same (UOK_ext hu e5 e3) e7) (by omega) (Rep_ext e5 e3 a j ha)
      have hb1 := Rep_ext e5 e3 b l hb
      have hi1 : i < n1 := by omega
      have hb2 : K1.2.2.2.1 i = nz l := ((e5 i hi).2.2.1).trans h7
      have FB := ihb K1 n1 F1 U2 (a :: Γ) l e2 hb1 p2 (by rw [List.length_cons]; omega) (TB_ext htb e5 e3) (by
        intro X hX
        rcases List.mem_cons.mp hX with rfl | hX
        · exact ⟨by omega, by omega⟩
        · exact hΓ X hX) (by omega) (by omega)
      constructor
      · obtain ⟨B1, B2⟩ := FN_ok FB (by omega) (fun A hA => by
          have := tyT_free htf b (a :: Γ) A (by
            intro X hX
            rcases List.mem_cons.mp hX with rfl | hX
            · omega
            · exact (hΓ X hX).1) (by rw [List.length_cons]; omega) (by omega) hA
          omega)
        have st : ((FN (f_X10_find d) K F U S D P (nz j)).bind (fun z => (rKind z.2.1 z.1).bind (fun k => if k = 0 then (g_X8_push z.2.2.2 (nz j)).bind (fun u => if u.1 = 0 then some ((-1), z.2.1, z.2.2.1, u.2) else
            (rSecond z.2.1 (nz i)).bind (fun b => (FN (f_X10_find d) z.2.1 z.2.2.1 u.2 S D P b).bind (fun y => (g_X8_pop y.2.2.2).bind (fun v => (rKind y.2.1 y.1).bind (fun k2 => if k2 = 0 then (rFirst y.2.1 z.1).bind (fun l1 => (rFirst y.2.1 y.1).bind (fun l2 => (rLeaf y.2.1 0 (if l1 < l2 then l2 else l1)).bind (fun w => some (w.1, w.2, y.2.2.1, v)))) else some ((-1), y.2.1, y.2.2.1, v)))))) else some ((-1), z.2.1, z.2.2.1, z.2.2.2)))) =
            (FN (f_X10_find d) K1 F1 U2 S D P (nz l)).bind (fun y => (g_X8_pop y.2.2.2).bind (fun v => (rKind y.2.1 y.1).bind (fun k2 => if k2 = 0 then (rFirst y.2.1 (nz j1)).bind (fun l1 => (rFirst y.2.1 y.1).bind (fun l2 => (rLeaf y.2.1 0 (if l1 < l2 then l2 else l1)).bind (fun w => some (w.1, w.2, y.2.2.1, v)))) else some ((-1), y.2.1, y.2.2.1, v)))) := by
          rw [e1, Option.bind_some]
          show (rKind K1 (nz j1)).bind _ = _
          rw [rKind_at e2 hj1, Option.bind_some, (Rep_view e6).1, hk, if_pos (show nz 0 = 0 from rfl)]
          show (g_X8_push U1 (nz j)).bind _ = _
          rw [p1, Option.bind_some, if_neg (by decide : ¬ (1 : Int32) = 0)]
          show (rSecond K1 (nz i)).bind _ = _
          rw [rSecond_at e2 hi1, Option.bind_some, hb2]
        rw [st, hun, Option.bind_some]
        cases hW : (tyT tb b (a :: Γ)).bind nf with
        | none =>
          obtain ⟨K3, n3, F3, U3, g1, g2, g3, g4⟩ := B2 hW
          obtain ⟨U4, q1⟩ := pop_any U3
          refine ⟨fun A h => absurd h (by show ¬ (none = some A); exact fun h => by cases h), fun _ => ⟨K3, n3, F3, U4, ?_, g2, by omega, Ext_trans e5 g4 e3⟩⟩
          rw [g1, Option.bind_some]
          show (g_X8_pop U3).bind _ = _
          rw [q1, Option.bind_some]
          show (rKind K3 (-1)).bind _ = _
          rw [kind_none, Option.bind_some, if_neg (by decide)]
        | some w =>
          obtain ⟨K3, n3, F3, U3, j3, g1, g2, g3, g4, g5, g6, g7⟩ := B1 w hW
          have hn3 := g2.2.1
          have hj3 := Rep_lt g6
          have hk8w : kdT w < 8 := by rcases (Rep_view g6).2 with v | v <;> omega
          obtain ⟨U4, q1, q2⟩ : ∃ U4, g_X8_pop U3 = some U4 ∧ SameU Γ.length U U4 := by
            refine ⟨_, pop_ok (g7.1.trans p3) (by omega), hu.1.symm, fun x hx => ?_⟩
            exact (g7.2 x (by rw [List.length_cons]; omega)).trans ((p4 x hx).trans (e7.2 x hx))
          have st2 : ∀ G : Int32 → Option (Int32 × TS × FS × US), (FN (f_X10_find d) K1 F1 U2 S D P (nz l)).bind (fun y => (g_X8_pop y.2.2.2).bind (fun v => (rKind y.2.1 y.1).bind (fun k2 => if k2 = 0 then (rFirst y.2.1 (nz j1)).bind (fun l1 => (rFirst y.2.1 y.1).bind (fun l2 => (rLeaf y.2.1 0 (if l1 < l2 then l2 else l1)).bind (fun w => some (w.1, w.2, y.2.2.1, v)))) else some ((-1), y.2.1, y.2.2.1, v)))) =
              if nz (kdT w) = 0 then (rFirst K3 (nz j1)).bind (fun l1 => (rFirst K3 (nz j3)).bind (fun l2 => (rLeaf K3 0 (if l1 < l2 then l2 else l1)).bind (fun w => some (w.1, w.2, F3, U4)))) else some ((-1), K3, F3, U4) := by
            intro _
            rw [g1, Option.bind_some]
            show (g_X8_pop U3).bind _ = _
            rw [q1, Option.bind_some]
            show (rKind K3 (nz j3)).bind _ = _
            rw [rKind_at g2 hj3, Option.bind_some, (Rep_view g6).1]
          rw [st2 (fun _ => none), isUn_at g6]
          by_cases hkw : kdT w = 0
          · rw [hkw, if_pos rfl, if_pos (show nz 0 = 0 from rfl), Option.bind_some]
            have u3 := Rep_ext g5 g3 u j1 e6
            have fu : K3.2.2.1 j1 = nz (prT u) := by rcases (Rep_view u3).2 with v | v; exact v.2.2.1; omega
            have fw : K3.2.2.1 j3 = nz (prT w) := by rcases (Rep_view g6).2 with v | v; exact v.2.2.1; omega
            have pu : prT u < 1000000 := by rcases (Rep_view u3).2 with v | v; exact v.2.1; omega
            have pw : prT w < 1000000 := by rcases (Rep_view g6).2 with v | v; exact v.2.1; omega
            have hzw : sizeT w = 1 := by
              cases w with
              | arg m => rfl
              | index k => rfl
              | add a b => exact absurd hkw (by decide : ¬ 5 = 0)
              | sub a b => exact absurd hkw (by decide : ¬ 6 = 0)
              | mul a b => exact absurd hkw (by decide : ¬ 7 = 0)
              | _ => exact g6.elim
            obtain ⟨K5, r1, r2, r3, r4⟩ := leaf_arg (k := 0) (p := max (prT u) (prT w)) g2 (by omega) (by decide) (by decide) (by omega)
            have hmx : (if nz (prT u) < nz (prT w) then nz (prT w) else nz (prT u)) = nz (max (prT u) (prT w)) := maxW_nz (by omega) (by omega)
            refine ⟨fun A h => ?_, fun h => by cases h⟩
            have eA : Jvm.Term.arg (8 * max (prT u) (prT w) + 0) = A := by injection h
            subst eA
            refine ⟨K5, n3 + 1, F3, U4, n3, ?_, r2, by omega, by omega, Ext_trans e5 (Ext_trans g5 r3 g3) e3, r4, q2⟩
            rw [rFirst_at g2 (by omega), Option.bind_some, rFirst_at g2 hj3, Option.bind_some, fu, fw, hmx, show (0 : Int32) = nz 0 from rfl, r1, Option.bind_some]
          · rw [if_neg hkw, if_neg (show ¬ nz (kdT w) = (0 : Int32) from nz_ne (c := 0) (by omega) (by decide) hkw)]
            refine ⟨fun A h => absurd h (by show ¬ (none = some A); exact fun h => by cases h), fun _ => ⟨K3, n3, F3, U4, rfl, g2, by omega, Ext_trans e5 g5 e3⟩⟩
      · obtain ⟨B1, B2⟩ := FB
        have st : ((FN (f_X10_find d) K F U S D P (nz j)).bind (fun z => (rKind z.2.1 z.1).bind (fun k => if k = 0 then (g_X8_push z.2.2.2 (nz j)).bind (fun u => if u.1 = 0 then some ((-1), z.2.1, z.2.2.1, u.2) else
            (rSecond z.2.1 (nz i)).bind (fun b => (f_X10_find d z.2.1 z.2.2.1 u.2 S D P b).bind (fun y => (g_X8_pop y.2.2.2).bind (fun v => (rPair y.2.1 5 (nz j) y.1).bind (fun w => some (w.1, w.2, y.2.2.1, v)))))) else some ((-1), z.2.1, z.2.2.1, z.2.2.2)))) =
            (f_X10_find d K1 F1 U2 S D P (nz l)).bind (fun y => (g_X8_pop y.2.2.2).bind (fun v => (rPair y.2.1 5 (nz j) y.1).bind (fun w => some (w.1, w.2, y.2.2.1, v)))) := by
          rw [e1, Option.bind_some]
          show (rKind K1 (nz j1)).bind _ = _
          rw [rKind_at e2 hj1, Option.bind_some, (Rep_view e6).1, hk, if_pos (show nz 0 = 0 from rfl)]
          show (g_X8_push U1 (nz j)).bind _ = _
          rw [p1, Option.bind_some, if_neg (by decide : ¬ (1 : Int32) = 0)]
          show (rSecond K1 (nz i)).bind _ = _
          rw [rSecond_at e2 hi1, Option.bind_some, hb2]
        rw [st, hun, Option.bind_some]
        cases hW : tyT tb b (a :: Γ) with
        | none =>
          obtain ⟨K3, n3, F3, U3, g1, g2, g3, g4⟩ := B2 hW
          obtain ⟨U4, q1⟩ := pop_any U3
          have ha3 : Rep K3 n3 a j := Rep_ext (Ext_trans e5 g4 e3) (by omega) a j ha
          refine ⟨fun A h => absurd h (by show ¬ (none = some A); exact fun h => by cases h), fun _ => ⟨K3, n3, F3, U4, ?_, g2, by omega, Ext_trans e5 g4 e3⟩⟩
          rw [g1, Option.bind_some]
          show (g_X8_pop U3).bind _ = _
          rw [q1, Option.bind_some]
          show (rPair K3 (nz 5) (nz j) (-1)).bind _ = _
          rw [pair_none g2 (by decide) (by decide) ha3, Option.bind_some]
        | some w =>
          obtain ⟨K3, n3, F3, U3, j3, g1, g2, g3, g4, g5, g6, g7⟩ := B1 w hW
          have hn3 := g2.2.1
          have ha3 : Rep K3 n3 a j := Rep_ext (Ext_trans e5 g5 e3) (by omega) a j ha
          obtain ⟨U4, q1, q2⟩ : ∃ U4, g_X8_pop U3 = some U4 ∧ SameU Γ.length U U4 := by
            refine ⟨_, pop_ok (g7.1.trans p3) (by omega), hu.1.symm, fun x hx => ?_⟩
            exact (g7.2 x (by rw [List.length_cons]; omega)).trans ((p4 x hx).trans (e7.2 x hx))
          have st2 : (f_X10_find d K1 F1 U2 S D P (nz l)).bind (fun y => (g_X8_pop y.2.2.2).bind (fun v => (rPair y.2.1 5 (nz j) y.1).bind (fun w => some (w.1, w.2, y.2.2.1, v)))) = (rPair K3 (nz 5) (nz j) (nz j3)).bind (fun w => some (w.1, w.2, F3, U4)) := by
            rw [g1, Option.bind_some]
            show (g_X8_pop U3).bind _ = _
            rw [q1, Option.bind_some]
            rfl
          rw [st2, Option.bind_some]
          unfold capT
          have hz : sizeT (.add a w : Tm) = 1 + sizeT a + sizeT w := rfl
          by_cases hs : sizeT a + sizeT w < 200
          · obtain ⟨K5, r1, r2, r3, r4⟩ := pair_tree (k := 5) g2 (by omega) (by decide) (by decide) ha3 g6 hs
            rw [if_pos (by omega), r1, Option.bind_some]
            refine ⟨fun A h => ?_, fun h => by cases h⟩
            have eA : Jvm.Term.add a w = A := by injection h
            subst eA
            exact ⟨K5, n3 + 1, F3, U4, n3, rfl, r2, by omega, by omega, Ext_trans e5 (Ext_trans g5 r3 g3) e3, r4, q2⟩
          · rw [if_neg (by omega), pair_big g2 (by decide) (by decide) ha3 g6 (by omega), Option.bind_some]
            exact ⟨fun A h => (by cases h), fun _ => ⟨K3, n3, F3, U4, rfl, g2, by omega, Ext_trans e5 g5 e3⟩⟩
    · have hun : isUn (some u) = none := by rw [isUn_at e6, if_neg hk]
      have ck : ¬ nz (kdT u) = (0 : Int32) := nz_ne (c := 0) (by omega) (by decide) hk
      rw [hun]
      constructor
      · refine ⟨fun A h => absurd h (by show ¬ (none = some A); exact fun h => by cases h), fun _ => ⟨K1, n1, F1, U1, ?_, e2, e3, e5⟩⟩
        rw [e1, Option.bind_some]
        show (rKind K1 (nz j1)).bind _ = _
        rw [rKind_at e2 hj1, Option.bind_some, (Rep_view e6).1, if_neg ck]
      · refine ⟨fun A h => absurd h (by show ¬ (none = some A); exact fun h => by cases h), fun _ => ⟨K1, n1, F1, U1, ?_, e2, e3, e5⟩⟩
        rw [e1, Option.bind_some]
        show (rKind K1 (nz j1)).bind _ = _
        rw [rKind_at e2 hj1, Option.bind_some, (Rep_view e6).1, if_neg ck]
