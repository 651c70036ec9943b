/-! the law's cuts: from what is asked at a turn's end to the next turn -/
theorem turn_end {xs : IA} {L : Nat} {S : SS} {D : DS} {P : PS} {A : SG} {B : FG} {G : GG} {N : NS} {nt : Nat → Tm} {m n : Nat} {f1 f2 f3 : IA} {v2 v13 v14 fu kc ks fl cl sl : Nat} {K : TS} {F : FS} {U : US} {R : RS} {M : MS} (hL : L < 1000000) (hm : 1 ≤ m) (h14 : v14 < 900000) (hn : n + 12014 ≤ 32768) (h : MainI K n S D P A B G N nt m f1 f2 f3 v2) (hf : fl + 2 * m + 3 ≤ fu) (hc : cl + 12 + 6 * (m + 1) ≤ kc) (hs : sl + 72 + 36 * (m + 1) ≤ ks)
    (h7 : ∀ N' : NS, Tag7 xs L S D P A B G N' nt m n f1 f2 f3 v2 (v13 + 1) fl cl sl) :
    LM xs L fu 13 kc ks K F U S D R M N P f1 f2 f3 (nz v2) (nz m) (nz (qN G)) (nz (fFc B)) (nz v13) (nz v14) 0 0 0 0 0 0 N.2.2 = some 1 := by
  obtain ⟨fu, rfl⟩ : ∃ e, fu = e + 1 := ⟨fu - 1, by omega⟩
  obtain ⟨fu, rfl⟩ : ∃ e, fu = e + 1 := ⟨fu - 1, by omega⟩
  refine cut1315 hL hm h14 hn h (by omega) (by omega) ?_
  intro k K' F' U' M' hk hv hI
  refine cut1372 hk hn hI (by omega) (by omega) hv ?_
  intro K2 F2 U2 M2 hI2
  exact cut1469 (h7 _) hk (by omega) m fu _ _ 0 K2 F2 U2 R M2 (by omega) (by omega) (by omega) (by omega) (by omega) hI2
