def rForm (f : Nat) (dp : Int32) (pf : Nat → Int32) (K : Rows) (mv : Nat → Int32) (v2 v3 v4 : Int32) : Option (Int32 × Int32 × (Nat → Int32) × KO) := f_X1_formOf_L13 f dp pf K.1 K.2.1 K.2.2.1 K.2.2.2.1 K.2.2.2.2.1 K.2.2.2.2.2.1 K.2.2.2.2.2.2.1 K.2.2.2.2.2.2.2.1 K.2.2.2.2.2.2.2.2 mv v2 v3 v4
def rowsD (K : Rows) (q : DO) : Rows := (q.2.2.2.1, q.2.2.2.2.1, q.2.2.2.2.2.1, q.2.2.2.2.2.2.1, K.2.2.2.2.1, K.2.2.2.2.2.1, K.2.2.2.2.2.2.1, K.2.2.2.2.2.2.2.1, q.2.2.2.2.2.2.2)
theorem rForm_step (f : Nat) (dp : Int32) (pf : Nat → Int32) (K : Rows) (mv : Nat → Int32) (v2 v3 v4 : Int32) : rForm (f + 1) dp pf K mv v2 v3 v4 = (if 20 < v4 then (f_X9_release K.1 v2).bind (fun q => some ((-1), dp, pf, flat2 (q, K.2) mv)) else if v3 = -1 then (f_X9_release K.1 v2).bind (fun q => some ((-1), dp, pf, flat2 (q, K.2) mv)) else
    (rSize K v3).bind (fun z => if z ≤ 80 then (rLoose K v3).bind (fun b => if b = 0 then (rKeep K mv v2 v3).bind (fun q => some (q.1, dp, pf, q.2)) else
      (rDown 100000 0 pf K v3).bind (fun q => (rFirst (rowsD K q) q.1).bind (fun a => (rSecond (rowsD K q) a).bind (fun c => (rSecond (rowsD K q) q.1).bind (fun e => (rPut 200 (rowsD K q) c e 0).bind (fun w =>
        (rUp 100000 q.2.1 q.2.2.1 w.2 w.1 (q.2.1 - 1)).bind (fun u => rForm f u.2.1 u.2.2.1 u.2.2.2 mv v2 u.1 (v4 + 1)))))))) else (f_X9_release K.1 v2).bind (fun q => some ((-1), dp, pf, flat2 (q, K.2) mv)))) := rfl
theorem form_none {K : Rows} {n mark : Nat} {dp v4 : Int32} {pf mv : Nat → Int32} (f : Nat) (hw : WF K n) (hm : mark ≤ n) : rForm (f + 1) dp pf K mv (nz mark) (-1) v4 = some ((-1), dp, pf, flat2 (setM K mark) mv) := by
  rw [rForm_step, release_ok hw hm, Option.bind_some]
  split
  · rfl
  · rw [if_pos rfl]; rfl
theorem form_big {K : Rows} {n mark i : Nat} {t : Tm} {dp v4 : Int32} {pf mv : Nat → Int32} (f : Nat) (hw : WF K n) (hm : mark ≤ n) (hr : Rep K n t i) (hb : 80 < sizeT t) : rForm (f + 1) dp pf K mv (nz mark) (nz i) v4 = some ((-1), dp, pf, flat2 (setM K mark) mv) := by
  have hi := Rep_lt hr
  have hn := hw.2.1
  have hz := Rep_size t i hr
  rw [rForm_step, release_ok hw hm, Option.bind_some, rSize_at hw hi, Option.bind_some, (Rep_calls_loose hr).1, if_neg (fun hq : nz (sizeT t) ≤ (80 : Int32) => absurd ((nz_le (j := 80) (by omega) (by decide)).mp hq) (by omega))]
  split
  · rfl
  · split <;> rfl
theorem form_late {K : Rows} {n mark : Nat} {v : Int32} {dp : Int32} {pf mv : Nat → Int32} (f : Nat) (hw : WF K n) (hm : mark ≤ n) : rForm (f + 1) dp pf K mv (nz mark) v (nz 21) = some ((-1), dp, pf, flat2 (setM K mark) mv) := by
  rw [rForm_step, release_ok hw hm, Option.bind_some, if_pos (by decide)]
  rfl
theorem nfT_big (k : Nat) {t : Tm} (h : 80 < sizeT t) : nfT k t = none := by
  cases k with
  | zero => rfl
  | succ k => exact if_pos h
theorem form_loop {K0 : Rows} {mark : Nat} (hroom : mark + 2500 ≤ 32768) : ∀ (k f taken : Nat) (K : Rows) (n i : Nat) (t : Tm) (dp : Int32) (pf mv : Nat → Int32), taken + k = 21 → k < f → WF K n → Ext K0 K mark → mark ≤ n → n ≤ mark + 80 * taken → Rep K n t i → freeT t ≤ 900000 →
    (∀ u, nfT k t = some u → ∃ dp' pf' K' M mv' j, rForm f dp pf K mv (nz mark) (nz i) (nz taken) = some (nz j, dp', pf', flat2 K' mv') ∧ WF K' M ∧ mark ≤ M ∧ M ≤ mark + sizeT u ∧ Ext K0 K' mark ∧ Rep K' M u j ∧ (looseT t = false → i < mark → M = mark ∧ j = i)) ∧
    (nfT k t = none → ∃ dp' pf' K' mv', rForm f dp pf K mv (nz mark) (nz i) (nz taken) = some ((-1), dp', pf', flat2 K' mv') ∧ WF K' mark ∧ Ext K0 K' mark) := by
  intro k
  have ends : ∀ {K : Rows} {n : Nat}, WF K n → Ext K0 K mark → mark ≤ n → WF (setM K mark) mark ∧ Ext K0 (setM K mark) mark := fun {K n} hw hx hm => ⟨WF_cut hw hm, Ext_trans hx (Ext_setM K mark mark) (Nat.le_refl _)⟩
  induction k with
  | zero =>
    intro f taken K n i t dp pf mv ht hf hw hx hm hn hr hfr
    obtain ⟨f, rfl⟩ : ∃ e, f = e + 1 := ⟨f - 1, by omega⟩
    obtain rfl : taken = 21 := by omega
    refine ⟨fun u hu => (by cases hu), fun _ => ⟨dp, pf, setM K mark, mv, form_late f hw hm, ends hw hx hm⟩⟩
  | succ k ih =>
    intro f taken K n i t dp pf mv ht hf hw hx hm hn hr hfr
    obtain ⟨f, rfl⟩ : ∃ e, f = e + 1 := ⟨f - 1, by omega⟩
    by_cases hb : 80 < sizeT t
    · rw [nfT_big _ hb]
      refine ⟨fun u hu => (by cases hu), fun _ => ⟨dp, pf, setM K mark, mv, form_big f hw hm hr hb, ends hw hx hm⟩⟩
    · have hi := Rep_lt hr
      have hn0 := hw.2.1
      have c1 : ¬ 20 < nz taken := fun hq => absurd ((nz_lt (i := 20) (by decide) (by omega)).mp hq) (by omega)
      have c2 : nz (sizeT t) ≤ 80 := (nz_le (j := 80) (by omega) (by decide)).mpr (by omega)
      have hnf : nfT (k + 1) t = if looseT t = true then nfT k (stepT t) else some t := if_neg hb
      by_cases hl : looseT t = true
      · rw [hnf, if_pos hl]
        obtain ⟨p, c, v, x, y, z, kk, pf', e1, e2, e3, e4, hc, hv, e7, e7f, e7', e8, e9, e10, up⟩ := DU_all hw t i hr hl 100000 0 pf (by omega) (by omega)
        have e1' : rDown 100000 0 pf K (nz i) = some (outD (nz p) (nz (0 + kk)) pf' K) := e1
        have hsz : 8 * sizeT (inst c v) + 8 ≤ 6241 := inst_size c v (s := 79) (by omega) (by decide)
        have sub1 : nz (0 + kk) - 1 = nz (0 + kk) + (-1) := Int32.sub_eq_add_neg _ _
        have st : rForm (f + 1) dp pf K mv (nz mark) (nz i) (nz taken) = (rPut 200 K (nz y) (nz z) (nz 0)).bind (fun w => (rUp 100000 (nz (0 + kk)) pf' w.2 w.1 (nz (0 + kk) + (-1))).bind (fun q => rForm f q.2.1 q.2.2.1 q.2.2.2 mv (nz mark) q.1 (nz (taken + 1)))) := by
          rw [rForm_step, if_neg c1, if_neg (nz_no (by omega)), rSize_at hw hi, Option.bind_some, (Rep_calls_loose hr).1, if_pos c2, rLoose_at hw hr, Option.bind_some, if_pos hl, if_neg (by decide), e1', Option.bind_some]
          show (rFirst K (nz p)).bind (fun a => (rSecond K a).bind (fun c => (rSecond K (nz p)).bind (fun e => (rPut 200 K c e 0).bind (fun w => (rUp 100000 (nz (0 + kk)) pf' w.2 w.1 (nz (0 + kk) - 1)).bind (fun u => rForm f u.2.1 u.2.2.1 u.2.2.2 mv (nz mark) u.1 (nz taken + 1)))))) = _
          rw [e2, Option.bind_some, e3, Option.bind_some, e4, Option.bind_some, sub1, show nz taken + 1 = nz (taken + 1) from nz_add taken 1]
          rfl
        have zc := Rep_size c y hc
        have tr := rPut_made v z c 200 K n y 0 hw hc hv zc (by omega) (by rw [pt_zero]; omega)
        rw [pt_zero] at tr
        obtain ⟨K1, n1, w1, m1, m2, x1, q⟩ := tr
        have lost : 80 < sizeT (stepT t) → (∃ dp' pf' K' n', rForm (f + 1) dp pf K mv (nz mark) (nz i) (nz taken) = some ((-1), dp', pf', flat2 (setM K' mark) mv) ∧ WF K' n' ∧ Ext K0 K' mark ∧ mark ≤ n') → (∀ u, nfT k (stepT t) = some u → ∃ dp' pf' K' M mv' j, rForm (f + 1) dp pf K mv (nz mark) (nz i) (nz taken) = some (nz j, dp', pf', flat2 K' mv') ∧ WF K' M ∧ mark ≤ M ∧ M ≤ mark + sizeT u ∧ Ext K0 K' mark ∧ Rep K' M u j ∧ (looseT t = false → i < mark → M = mark ∧ j = i)) ∧
            (nfT k (stepT t) = none → ∃ dp' pf' K' mv', rForm (f + 1) dp pf K mv (nz mark) (nz i) (nz taken) = some ((-1), dp', pf', flat2 K' mv') ∧ WF K' mark ∧ Ext K0 K' mark) := by
          rintro hbig ⟨dp', pf', K', n', g1, g2, g3, g4⟩
          rw [nfT_big _ hbig]
          exact ⟨fun u hu => (by cases hu), fun _ => ⟨dp', pf', setM K' mark, mv, g1, ends g2 g3 g4⟩⟩
        have xm := Ext_trans hx (Ext_le x1 hm) (Nat.le_refl _)
        rcases q with ⟨s1, r, o1, rr⟩ | ⟨s1, o1⟩
        · rw [o1, Option.bind_some] at st
          obtain ⟨fu, hfu⟩ : ∃ fu, 100000 = fu + kk := ⟨100000 - kk, by omega⟩
          obtain ⟨K2, n2, w2, m3, m4, x2, g⟩ := up fu K1 n1 r pf' (nz (0 + kk)) w1 x1 m1 rr (fun q _ _ => rfl) (by omega) (by omega)
          have xm2 := Ext_trans xm (Ext_le x2 (Nat.le_trans hm m1)) (Nat.le_refl _)
          rcases g with ⟨s2, r2, rr2, eu⟩ | ⟨s2, eu⟩
          · obtain ⟨fu', hfu'⟩ : ∃ e, fu = e + 1 := ⟨fu - 1, by omega⟩
            have st2 : rForm (f + 1) dp pf K mv (nz mark) (nz i) (nz taken) = rForm f (nz (0 + kk)) pf' K2 mv (nz mark) (nz r2) (nz (taken + 1)) := by
              rw [st]
              show (rUp 100000 (nz (0 + kk)) pf' K1 (nz r) (nz (0 + kk) + (-1))).bind _ = _
              rw [hfu, eu, hfu', rUp_step, if_pos (by decide), Option.bind_some]
            by_cases hb2 : 80 < sizeT (stepT t)
            · refine lost hb2 ?_
              obtain ⟨f, rfl⟩ : ∃ e, f = e + 1 := ⟨f - 1, by omega⟩
              exact ⟨_, _, K2, n2, by rw [st2, form_big f w2 (by omega) rr2 hb2], w2, xm2, by omega⟩
            · obtain ⟨i1, i2⟩ := ih f (taken + 1) K2 n2 r2 (stepT t) (nz (0 + kk)) pf' mv (by omega) (by omega) w2 xm2 (by omega) (by omega) rr2 (Nat.le_trans (freeT_step t) hfr)
              rw [st2]
              refine ⟨fun u hu => ?_, i2⟩
              obtain ⟨dp', pf'', K', M, mv', j, g1, g2, g3, g4, g5, g6, -⟩ := i1 u hu
              exact ⟨dp', pf'', K', M, mv', j, g1, g2, g3, g4, g5, g6, fun hq => absurd hl (by rw [hq]; decide)⟩
          · refine lost (by omega) ?_
            obtain ⟨f, rfl⟩ : ∃ e, f = e + 1 := ⟨f - 1, by omega⟩
            refine ⟨nz (0 + kk), pf', K2, n2, ?_, w2, xm2, by omega⟩
            rw [st]
            show (rUp 100000 (nz (0 + kk)) pf' K1 (nz r) (nz (0 + kk) + (-1))).bind _ = _
            rw [hfu, eu, Option.bind_some]
            exact form_none f w2 (by omega)
        · refine lost (by omega) ?_
          rw [o1, Option.bind_some] at st
          obtain ⟨f, rfl⟩ : ∃ e, f = e + 1 := ⟨f - 1, by omega⟩
          refine ⟨nz (0 + kk), pf', K1, n1, ?_, w1, xm, by omega⟩
          rw [st]
          show (rUp (99999 + 1) (nz (0 + kk)) pf' K1 (-1) (nz (0 + kk) + (-1))).bind _ = _
          have eu : rUp (99999 + 1) (nz (0 + kk)) pf' K1 (-1) (nz (0 + kk) + (-1)) = some ((-1), nz (0 + kk), pf', K1) := by
            rw [rUp_step]
            split
            · rfl
            · rw [if_pos rfl]
          rw [eu, Option.bind_some]
          exact form_none f w1 (by omega)
      · rw [hnf, if_neg hl]
        refine ⟨fun u hu => ?_, fun h => by cases h⟩
        have e : t = u := by injection hu
        subst e
        obtain ⟨K', M, mv', j, g1, g2, g3, g4, g5, g6, g7⟩ := rKeep_ok (mv := mv) hw hm hr
        refine ⟨dp, pf, K', M, mv', j, ?_, g2, g3, g4, Ext_trans hx g5 (Nat.le_refl _), g6, fun _ => g7⟩
        rw [rForm_step, if_neg c1, if_neg (nz_no (by omega)), rSize_at hw hi, Option.bind_some, (Rep_calls_loose hr).1, if_pos c2, rLoose_at hw hr, Option.bind_some, if_neg hl, if_pos rfl, g1, Option.bind_some]
        rfl
def nf (t : Tm) : Option Tm := nfT 21 t
def reF (z : Int32 × Int32 × (Nat → Int32) × KO) : Int32 × TS × FS := (z.1, (z.2.2.2.1, z.2.2.2.2.1, z.2.2.2.2.2.1, z.2.2.2.2.2.2.1, z.2.2.2.2.2.2.2.1, z.2.2.2.2.2.2.2.2.1, z.2.2.2.2.2.2.2.2.2.1, z.2.2.2.2.2.2.2.2.2.2.1, z.2.2.2.2.2.2.2.2.2.2.2.1), (z.2.1, z.2.2.1, z.2.2.2.2.2.2.2.2.2.2.2.2))
theorem reF_flat (a dp : Int32) (pf : Nat → Int32) (K : Rows) (mv : Nat → Int32) : reF (a, dp, pf, flat2 K mv) = (a, K, (dp, pf, mv)) := rfl
theorem formOf_r (K : Rows) (F : FS) (p : Int32) : g_X1_formOf K F p = (rForm 100000 F.1 F.2.1 K F.2.2 K.1 p (nz 0)).map reF := by
  unfold g_X1_formOf f_X1_formOf f_X9_mark
  rw [Option.bind_some, show (nz 0) = (0 : Int32) from rfl]
  unfold rForm reF
  rfl
/-- the normal form of a row, with what it leaves -/
theorem form_ok {K : Rows} {n i : Nat} {t : Tm} (hw : WF K n) (hr : Rep K n t i) (hroom : n + 2500 ≤ 32768) (hfr : freeT t ≤ 900000) (F : FS) :
    (∀ u, nf t = some u → ∃ K' M F' j, g_X1_formOf K F (nz i) = some (nz j, K', F') ∧ WF K' M ∧ n ≤ M ∧ M ≤ n + sizeT u ∧ Ext K K' n ∧ Rep K' M u j ∧ (looseT t = false → M = n ∧ j = i)) ∧
    (nf t = none → ∃ K' F', g_X1_formOf K F (nz i) = some ((-1), K', F') ∧ WF K' n ∧ Ext K K' n) := by
  have hi := Rep_lt hr
  obtain ⟨h1, h2⟩ := form_loop (K0 := K) hroom 21 100000 0 K n i t F.1 F.2.1 F.2.2 (by omega) (by omega) hw (Ext_refl K n) (Nat.le_refl n) (by omega) hr hfr
  rw [formOf_r, hw.1]
  refine ⟨fun u hu => ?_, fun hu => ?_⟩
  · obtain ⟨dp', pf', K', M, mv', j, g1, g2, g3, g4, g5, g6, g7⟩ := h1 u hu
    refine ⟨K', M, (dp', pf', mv'), j, ?_, g2, g3, g4, g5, g6, fun hq => g7 hq hi⟩
    rw [g1, Option.map_some, reF_flat]
  · obtain ⟨dp', pf', K', mv', g1, g2, g3⟩ := h2 hu
    refine ⟨K', (dp', pf', mv'), ?_, g2, g3⟩
    rw [g1, Option.map_some, reF_flat]
theorem form_no {K : Rows} {n : Nat} (hw : WF K n) (F : FS) : g_X1_formOf K F (-1) = some ((-1), K, F) := by
  have e2 : setM K n = K := by unfold setM; rw [← hw.1]
  have e3 : F = (F.1, F.2.1, F.2.2) := rfl
  rw [formOf_r, hw.1, form_none 99999 hw (Nat.le_refl n), e2, Option.map_some, reF_flat]
