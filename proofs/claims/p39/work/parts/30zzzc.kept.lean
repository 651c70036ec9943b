/-! the main loop's state after a node is laid -/
theorem MainI_lay {K : TS} {n : Nat} {S : SS} {D : DS} {P : PS} {A : SG} {B : FG} {G : GG} {N : NS} {nt : Nat → Tm} {m : Nat} {f1 f2 f3 : IA} {v2 : Nat} {o : Option (Int32 × TS × NS)} {t : Tm} (h : MainI K n S D P A B G N nt m f1 f2 f3 v2) (hl : Laid o K n N nt m t) (ht : DtB v2 t) : ∃ K' N', o = some (nz m, K', N') ∧ N'.2.2 = N.2.2 ∧ MainI K' (n + 1) S D P A B G N' (up1 nt m t) (m + 1) f1 f2 f3 v2 := by
  obtain ⟨h1, h2, h3, h4, h5⟩ := h
  obtain ⟨K', N', e1, e2, e3, e4, e5⟩ := hl
  refine ⟨K', N', e1, e5, CourtC_ext h1 e2 e3 (Nat.le_succ n), h2, e4, ?_, h5⟩
  intro k hk
  by_cases q : k = m
  · rw [q, up1_eq]; exact ht
  · rw [up1_ne q]; exact h4 k (by omega)
/-- after a goal is filled or reopened -/
theorem MainI_set {K K' : TS} {n n' : Nat} {S : SS} {D : DS} {P P' : PS} {A : SG} {B : FG} {G : GG} {N : NS} {nt : Nat → Tm} {m g s : Nat} {r : Tm} {f1 f2 f3 : IA} {v2 : Nat} (h : MainI K n S D P A B G N nt m f1 f2 f3 v2) (hx : Ext K K' n) (hn : n ≤ n') (hc : CourtC K' n' S D P' A B (setS G g s r)) (ht : CourtT A B (setS G g s r)) (hs : s ≠ 0 ∨ accB D.2.2 (qF G g) = false) : MainI K' n' S D P' A B (setS G g s r) N nt m f1 f2 f3 v2 := by
  obtain ⟨h1, h2, h3, h4, h5, h6, h7, h8, h9, h10⟩ := h
  refine ⟨hc, ht, NodeC_ext h3 hx hn, h4, h5, ?_, h7, h8, h9, h10⟩
  by_cases q : s = 0
  · subst q
    exact AccOK_reopen h6 (hs.resolve_left (fun w => w rfl))
  · exact AccOK_set h6 q
/-- after accept -/
theorem MainI_acc {K : TS} {n : Nat} {S : SS} {D : DS} {P : PS} {A : SG} {B : FG} {G : GG} {N : NS} {nt : Nat → Tm} {m f : Nat} {f1 f2 f3 : IA} {v2 : Nat} (h : MainI K n S D P A B G N nt m f1 f2 f3 v2) (hf : f < fFc B) (ho : opn G f (qN G) = 0) : MainI K n S (D.1, D.2.1, D.2.2 ||| ((1 : Int32) <<< (nz f &&& 31))) P A B G N nt m f1 f2 f3 v2 := by
  obtain ⟨⟨a1, a2, a3, a4, a5⟩, h2, h3, h4, h5, h6, h7⟩ := h
  exact ⟨⟨a1, a2, a3, a4, a5⟩, h2, h3, h4, h5, AccOK_accept h6 hf h2.2.1.1 ho, h7⟩
