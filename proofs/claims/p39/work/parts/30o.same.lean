def rSame (d : Nat) (K : Rows) (p1 p2 : Int32) : Option Int32 := f_X6_same d K.1 K.2.1 K.2.2.1 K.2.2.2.1 K.2.2.2.2.1 K.2.2.2.2.2.1 p1 p2
def rNum (K : Rows) (p : Int32) : Option Int32 := f_X9_numberOf K.1 K.2.2.2.2.2.1 p
def rSize (K : Rows) (p : Int32) : Option Int32 := f_X9_sizeOf K.1 K.2.2.2.2.1 p
theorem rNum_at {K : Rows} {n i : Nat} (hw : WF K n) (hi : i < n) : rNum K (nz i) = some (K.2.2.2.2.2.1 i) := by
  unfold rNum f_X9_numberOf
  rw [hw.1]
  exact rd_at hw.2.1 hi _
theorem rSize_at {K : Rows} {n i : Nat} (hw : WF K n) (hi : i < n) : rSize K (nz i) = some (K.2.2.2.2.1 i) := by
  unfold rSize f_X9_sizeOf
  rw [hw.1]
  exact rd_at hw.2.1 hi _
theorem rSame_step (d : Nat) (K : Rows) (p1 p2 : Int32) : rSame (d + 1) K p1 p2 = (rKind K p1).bind (fun k => if k = (-1) then some 0 else (rKind K p2).bind (fun k2 => if k = k2 then
    (rNum K p1).bind (fun m => (rNum K p2).bind (fun m2 => if m = m2 then (rSize K p1).bind (fun z => (rSize K p2).bind (fun z2 => if z = z2 then (if p1 = p2 then some 1 else if 5 ≤ k then
      (rFirst K p1).bind (fun f => (rFirst K p2).bind (fun f2 => (rSame d K f f2).bind (fun b => if b = 0 then some 0 else (rSecond K p1).bind (fun s => (rSecond K p2).bind (fun s2 => (rSame d K s s2).bind (fun b2 => if b2 = 0 then some 0 else some 1))))))
      else (rFirst K p1).bind (fun f => (rFirst K p2).bind (fun f2 => if f = f2 then some 1 else some 0))) else some 0)) else some 0)) else some 0)) := rfl
theorem rSame_yes {K : Rows} {n : Nat} (hw : WF K n) : ∀ (d : Nat) (t s : Tm) (i j : Nat), sizeT t ≤ d → Rep K n t i → Rep K n s j → (t = s → rSame d K (nz i) (nz j) = some 1) ∧ (t ≠ s → rSame d K (nz i) (nz j) = some 0)
  | 0, t, s, i, j, hm, _, _ => absurd (sizeT_pos t) (by omega)
  | d + 1, t, s, i, j, hm, ht, hs => by
    have hi := Rep_lt ht
    have hj := Rep_lt hs
    have hn := hw.2.1
    obtain ⟨k1, v1⟩ := Rep_view ht
    obtain ⟨k2, v2⟩ := Rep_view hs
    have hk8 : kdT t < 8 := by rcases v1 with v | v <;> omega
    have hk8' : kdT s < 8 := by rcases v2 with v | v <;> omega
    obtain ⟨a1, a2, -⟩ := Rep_calls_loose ht
    obtain ⟨b1, b2, -⟩ := Rep_calls_loose hs
    have hz1 := Rep_size t i ht
    have hz2 := Rep_size s j hs
    rw [rSame_step, rKind_at hw hi, Option.bind_some, k1, if_neg (nz_no (by omega)), rKind_at hw hj, Option.bind_some, k2, rNum_at hw hi, rNum_at hw hj, rSize_at hw hi, rSize_at hw hj, rFirst_at hw hi, rFirst_at hw hj, rSecond_at hw hi, rSecond_at hw hj, a1, a2, b1, b2]
    simp only [Option.bind_some]
    by_cases hk : kdT t = kdT s
    · rw [if_pos (by rw [hk])]
      by_cases hm2 : numT t = numT s
      · rw [if_pos hm2]
        by_cases hz : sizeT t = sizeT s
        · rw [if_pos (by rw [hz])]
          by_cases hij : i = j
          · subst hij
            rw [if_pos rfl]
            exact ⟨fun _ => rfl, fun hne => absurd (Rep_uniq hn (sizeT t) t s i (Nat.le_refl _) ht hs) hne⟩
          · rw [if_neg (fun hq => hij ((nz_inj (by omega) (by omega)).mp hq))]
            rcases v1 with ⟨c1, c2, c3, c4⟩ | ⟨c1, c2, a, b, j1, l1, c3, c4, c5, c6, c7, c8⟩
            · rcases v2 with ⟨e1, e2, e3, e4⟩ | ⟨e1, -⟩
              · have h5 : ¬ (5 : Int32) ≤ nz (kdT t) := fun hq => absurd ((nz_le (i := 5) (by decide) (by omega)).mp (show nz 5 ≤ nz (kdT t) from hq)) (by omega)
                rw [if_neg h5, c3, e3]
                by_cases hp : prT t = prT s
                · rw [if_pos (by rw [hp])]
                  exact ⟨fun _ => rfl, fun hne => absurd (by rw [c4, e4, hk, hp]) hne⟩
                · rw [if_neg (fun hq => hp ((nz_inj (by omega) (by omega)).mp hq))]
                  exact ⟨fun he => absurd (by rw [he]) hp, fun _ => rfl⟩
              · omega
            · rcases v2 with ⟨e1, -⟩ | ⟨e1, e2, a', b', j2, l2, e3, e4, e5, e6, e7, e8⟩
              · omega
              · rw [if_pos (show (5 : Int32) ≤ nz (kdT t) from (nz_le (i := 5) (by decide) (by omega)).mpr c1), c5, e5, c6, e6]
                obtain ⟨q1, q2⟩ := rSame_yes hw d a a' j1 j2 (by omega) c7 e7
                obtain ⟨q3, q4⟩ := rSame_yes hw d b b' l1 l2 (by omega) c8 e8
                by_cases h1 : a = a'
                · rw [q1 h1, Option.bind_some, if_neg (by decide)]
                  by_cases h2 : b = b'
                  · rw [q3 h2, Option.bind_some, if_neg (by decide)]
                    exact ⟨fun _ => rfl, fun hne => absurd (by rw [c3, e3, hk, h1, h2]) hne⟩
                  · rw [q4 h2, Option.bind_some, if_pos rfl]
                    refine ⟨fun he => absurd ?_ h2, fun _ => rfl⟩
                    rw [c3, e3, hk] at he
                    exact (mkT_inj he).2
                · rw [q2 h1, Option.bind_some, if_pos rfl]
                  refine ⟨fun he => absurd ?_ h1, fun _ => rfl⟩
                  rw [c3, e3, hk] at he
                  exact (mkT_inj he).1
        · rw [if_neg (fun hq => hz ((nz_inj (by omega) (by omega)).mp hq))]
          exact ⟨fun he => absurd (by rw [he]) hz, fun _ => rfl⟩
      · rw [if_neg hm2]
        exact ⟨fun he => absurd (by rw [he]) hm2, fun _ => rfl⟩
    · rw [if_neg (fun hq => hk ((nz_inj (by omega) (by omega)).mp hq))]
      exact ⟨fun he => absurd (by rw [he]) hk, fun _ => rfl⟩
