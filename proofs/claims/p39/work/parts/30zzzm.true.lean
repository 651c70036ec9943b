/-! the law answers true -/
abbrev B0 : FG := (fun _ => .index 0, fun _ => 0, fun _ => 0, 0)
abbrev G0 : GG := (fun _ => 0, fun _ => [], fun _ => .index 0, fun _ => [], fun _ => 0, fun _ => .index 0, fun _ => 0, fun _ => 0, 0)
theorem acc_none (f : Nat) : accB 0 f = false := by
  unfold accB
  simp
theorem main0_ok {xs : IA} {L : Nat} {F : FS} {U : US} {R : RS} {M : MS} {P : PS} (hL : L < 1000000) : Main0 xs L F U (0, 0, 0) R M P (1 + 128 * 36) (204 + 591 * 36) (6009 + 8331 * 36) := by
  intro v2 c m0 v1 v3 c1 c5 hm0 fu kc ks K n S A f1 f2 N nt m hf hc hs h hcc hm hm5 hnt
  obtain ⟨⟨w1, w2, w3, w4, w5, w6, w7⟩, g2, g3, g4, g5⟩ := h
  have hI : MainI K n S (0, 0, 0) P A B0 G0 N nt m f1 f2 Z v2 := by
    refine ⟨⟨w1, w2, ⟨rfl, fun f hf => absurd hf (Nat.not_lt_zero f)⟩, rfl, fun g hg => absurd hg (Nat.not_lt_zero g)⟩, ⟨w3, ⟨Nat.zero_le _, fun f hf => absurd hf (Nat.not_lt_zero f)⟩, Nat.zero_le _, fun g hg => absurd hg (Nat.not_lt_zero g), fun g g' hg => absurd hg (Nat.not_lt_zero g), fun f hf => absurd hf (Nat.not_lt_zero f)⟩, g2, g3, fun f hf => absurd hf (Nat.not_lt_zero f), ?_, w4, w6, w7, fun g hg => absurd hg (Nat.not_lt_zero g), fun g hg => absurd hg (Nat.not_lt_zero g)⟩
    intro f _ hacc
    rw [acc_none] at hacc
    cases hacc
  have q := start7_all (xs := xs) hL 36 0 rfl fu kc ks K n F U S (0, 0, 0) R M N P A B0 G0 nt m f1 f2 Z v2 hf hc hs v3 ⟨hI, by omega, by omega, by
    show n ≤ 30 + m + 2 * 0 + 0
    omega⟩
  rw [g4] at q
  exact q
theorem law_true {xs : IA} {L : Nat} (hL : L ≤ 260) : f_law_L xs L 100000 0 600221 6985821 (0, (fun _ => 0), (fun _ => 0), (fun _ => 0), (fun _ => 0), (fun _ => 0), (fun _ => 0), (fun _ => 0), (fun _ => 0)) (0, (fun _ => 0), (fun _ => 0)) (0, (fun _ => 0)) (0, 0, (fun _ => 0), (fun _ => 0), (fun _ => 0), (fun _ => 0), (fun _ => 0), (fun _ => 0), (fun _ => 0)) (0, 0, 0) (0, 0, 0, 0, (fun _ => 0)) ((fun _ => 0), (fun _ => 0), (fun _ => 0), (fun _ => 0), 0, 0, 0, 0, 0) ((fun _ => 0), 0, 0) ((fun _ => 0), (fun _ => 0), (fun _ => 0), (fun _ => 0), (fun _ => 0), (fun _ => 0), (fun _ => 0), (fun _ => 0), (fun _ => 0), (fun _ => 0), (fun _ => 0), (fun _ => (fun _ => 0)), (fun _ => 0), (fun _ => (fun _ => 0))) (fun _ => 0) (fun _ => 0) (fun _ => 0) 0 0 0 0 0 0 0 0 0 0 0 0 0 0 0 0 0 0 0 0 0 0 0 0 0 = some 1 :=
  setup_ok (fl := 1 + 128 * 36) (cl := 204 + 591 * 36) (sl := 6009 + 8331 * 36) (by omega) rfl (main0_ok (by omega)) (by omega) (by omega) (by omega)
