/-! PURE: what is not written is kept -/
theorem k_rFix {S T : CS} {GI GR GA GQ : List Nat} {M : Nat → Nat → Nat} (hk : keep S T GI GR GA GQ) (hR : nin [240, 241, 242, 243, 244, 245, 246, 160, 161, 120] GR = true)  (h : rFix M S) : rFix M T := by
  unfold rFix at h ⊢
  skip
  exact ⟨kD hk h.1 (by decide), kD hk h.2.1 (by decide), kD hk h.2.2.1 (by decide), kD hk h.2.2.2.1 (by decide), kR hk h.1 (by decide) (nin_of hR (by decide)) h.2.2.2.2.1, kR hk h.1 (by decide) (nin_of hR (by decide)) h.2.2.2.2.2.1, kR hk h.1 (by decide) (nin_of hR (by decide)) h.2.2.2.2.2.2.1, kR hk h.1 (by decide) (nin_of hR (by decide)) h.2.2.2.2.2.2.2.1, kR hk h.1 (by decide) (nin_of hR (by decide)) h.2.2.2.2.2.2.2.2.1, kR hk h.1 (by decide) (nin_of hR (by decide)) h.2.2.2.2.2.2.2.2.2.1, kR hk h.1 (by decide) (nin_of hR (by decide)) h.2.2.2.2.2.2.2.2.2.2.1, kR hk h.2.1 (by decide) (nin_of hR (by decide)) h.2.2.2.2.2.2.2.2.2.2.2.1, kR hk h.2.1 (by decide) (nin_of hR (by decide)) h.2.2.2.2.2.2.2.2.2.2.2.2.1, kR hk h.2.2.1 (by decide) (nin_of hR (by decide)) h.2.2.2.2.2.2.2.2.2.2.2.2.2⟩
theorem k_rNum {S T : CS} {GI GR GA GQ : List Nat} {M : Nat → Nat → Nat} {x x' : MS} (hk : keep S T GI GR GA GQ) (hI : nin [248, 249, 250] GI = true) (e0 : mI x' 2 = mI x 2) (e1 : mI x' 20 = mI x 20) (e2 : mI x' 65 = mI x 65) (h : rNum M x S) : rNum M x' T := by
  unfold rNum at h ⊢
  simp only [nN, nA, e0, e1, e2] at h ⊢
  exact ⟨kD hk h.1 (by decide), kI hk h.1 (by decide) (nin_of hI (by decide)) h.2.1, kI hk h.1 (by decide) (nin_of hI (by decide)) h.2.2.1, kI hk h.1 (by decide) (nin_of hI (by decide)) h.2.2.2⟩
theorem k_rSta {S T : CS} {GI GR GA GQ : List Nat} {M : Nat → Nat → Nat} {x x' : MS} (hk : keep S T GI GR GA GQ) (hI : nin [251] GI = true) (e0 : mI x' 1 = mI x 1) (h : rSta M x S) : rSta M x' T := by
  unfold rSta at h ⊢
  simp only [nN, nA, e0] at h ⊢
  exact ⟨kD hk h.1 (by decide), kI hk h.1 (by decide) (nin_of hI (by decide)) h.2⟩
theorem k_rCon {S T : CS} {GI GR GA GQ : List Nat} {M : Nat → Nat → Nat} {x x' : MS} (hk : keep S T GI GR GA GQ) (hA : nin [40] GA = true) (e0 : mA x' 3 = mA x 3) (h : rCon M x S) : rCon M x' T := by
  unfold rCon at h ⊢
  simp only [nN, nA, e0] at h ⊢
  exact ⟨kD hk h.1 (by decide), kN hk h.1 (by decide) h.2.1, fun k hk2 => kA hk h.1 (by decide) (nin_of hA (by decide)) k (h.2.2 k hk2)⟩
theorem k_rLotL {S T : CS} {GI GR GA GQ : List Nat} {ae : Nat} {M : Nat → Nat → Nat} {x x' : MS} (hk : keep S T GI GR GA GQ) (hI : nin [gS 0] GI = true) (hR : nin [gE 0] GR = true) (hQ : nin [30] GQ = true) (e0 : mI x' 4 = mI x 4) (h : rLotL ae M x S) : rLotL ae M x' T := by
  unfold rLotL at h ⊢
  rw [show nN x' 4 = nN x 4 by unfold nN; rw [e0]]
  exact ⟨keep_list hk h.1 (nin_of hI (by decide)) (nin_of hR (by decide)) (nin_of hQ (by decide)), h.2⟩
theorem k_rLot {S T : CS} {GI GR GA GQ : List Nat} {M : Nat → Nat → Nat} {x x' : MS} (hk : keep S T GI GR GA GQ) (hI : nin [60, 61, 62, 63, 64, 65, 66, 67, 68] GI = true) (e0 : mI x' 4 = mI x 4) (e1 : mA x' 5 = mA x 5) (e2 : mA x' 6 = mA x 6) (e3 : mA x' 7 = mA x 7) (e4 : mA x' 8 = mA x 8) (e5 : mA x' 9 = mA x 9) (e6 : mA x' 10 = mA x 10) (e7 : mA x' 11 = mA x 11) (e8 : mA x' 12 = mA x 12) (h : rLot M x S) : rLot M x' T := by
  unfold rLot at h ⊢
  simp only [nN, nA, e0, e1, e2, e3, e4, e5, e6, e7, e8] at h ⊢
  exact fun i hi => have q := h i hi; ⟨kD hk q.1 (by decide), kI hk q.1 (by decide) (nin_of hI (by decide)) q.2.1, kI hk q.1 (by decide) (nin_of hI (by decide)) q.2.2.1, kI hk q.1 (by decide) (nin_of hI (by decide)) q.2.2.2.1, kI hk q.1 (by decide) (nin_of hI (by decide)) q.2.2.2.2.1, kI hk q.1 (by decide) (nin_of hI (by decide)) q.2.2.2.2.2.1, kI hk q.1 (by decide) (nin_of hI (by decide)) q.2.2.2.2.2.2.1, kI hk q.1 (by decide) (nin_of hI (by decide)) q.2.2.2.2.2.2.2.1, kI hk q.1 (by decide) (nin_of hI (by decide)) q.2.2.2.2.2.2.2.2.1, kI hk q.1 (by decide) (nin_of hI (by decide)) q.2.2.2.2.2.2.2.2.2⟩
theorem k_rCha {S T : CS} {GI GR GA GQ : List Nat} {M : Nat → Nat → Nat} {x x' : MS} (hk : keep S T GI GR GA GQ) (hR : nin [69] GR = true) (hQ : nin [61] GQ = true) (e0 : mI x' 4 = mI x 4) (e1 : mA x' 5 = mA x 5) (e2 : mA x' 7 = mA x 7) (h : rCha M x S) : rCha M x' T := by
  unfold rCha at h ⊢
  have es : sooner x' = sooner x := by unfold sooner; rw [e2]
  rw [show nN x' 4 = nN x 4 by unfold nN; rw [e0], e1, es]
  refine ⟨kD hk h.1 (by decide), kN hk h.1 (by decide) h.2.1, fun k hk2 => ?_⟩
  obtain ⟨js, h1, h2, h3⟩ := h.2.2 k hk2
  exact ⟨js, by rw [kQ hk h.1 (by decide) (nin_of hQ (by decide)) k rfl]; exact keep_chn hk (by decide) (nin_of hR (by decide)) js _ h1, h2, h3⟩
theorem k_rWei {S T : CS} {GI GR GA GQ : List Nat} {M : Nat → Nat → Nat} {x x' : MS} (hk : keep S T GI GR GA GQ) (hI : nin [220, 221] GI = true) (hR : nin [70, 222] GR = true) (e0 : mI x' 4 = mI x 4) (e1 : mI x' 65 = mI x 65) (e2 : mA x' 66 = mA x 66) (e3 : mA x' 67 = mA x 67) (e4 : mA x' 68 = mA x 68) (h : rWei M x S) : rWei M x' T := by
  unfold rWei at h ⊢
  rw [show nN x' 4 = nN x 4 by unfold nN; rw [e0], show nN x' 65 = nN x 65 by unfold nN; rw [e1], e2, e3, e4]
  refine ⟨h.1, fun w hw => have q := h.2.1 w hw; ⟨kD hk q.1 (by decide), kI hk q.1 (by decide) (nin_of hI (by decide)) q.2.1, kI hk q.1 (by decide) (nin_of hI (by decide)) q.2.2⟩, fun i hi => ?_⟩
  obtain ⟨h0, ws, h1, h2, h3⟩ := h.2.2 i hi
  exact ⟨kD hk h0 (by decide), ws, by rw [kR hk h0 (by decide) (nin_of hR (by decide)) rfl]; exact keep_chn hk (by decide) (nin_of hR (by decide)) ws _ h1, h2, h3⟩
theorem k_rTabL {S T : CS} {GI GR GA GQ : List Nat} {ae : Nat} {M : Nat → Nat → Nat} {x x' : MS} (hk : keep S T GI GR GA GQ) (hI : nin [gS 1] GI = true) (hR : nin [gE 1] GR = true) (hQ : nin [31] GQ = true) (e0 : mI x' 13 = mI x 13) (h : rTabL ae M x S) : rTabL ae M x' T := by
  unfold rTabL at h ⊢
  rw [show nN x' 13 = nN x 13 by unfold nN; rw [e0]]
  exact ⟨keep_list hk h.1 (nin_of hI (by decide)) (nin_of hR (by decide)) (nin_of hQ (by decide)), h.2⟩
theorem k_rTab {S T : CS} {GI GR GA GQ : List Nat} {M : Nat → Nat → Nat} {x x' : MS} (hk : keep S T GI GR GA GQ) (hR : nin [180, 181] GR = true) (e0 : mI x' 13 = mI x 13) (h : rTab M S x) : rTab M T x' := by
  unfold rTab at h ⊢
  simp only [nN, nA, e0] at h ⊢
  exact fun i hi => have q := h i hi; ⟨kD hk q.1 (by decide), kR hk q.1 (by decide) (nin_of hR (by decide)) q.2.1, kR hk q.1 (by decide) (nin_of hR (by decide)) q.2.2.1, kD hk q.2.2.2.1 (by decide), kN hk q.2.2.2.1 (by decide) q.2.2.2.2.1, kD hk q.2.2.2.2.2.1 (by decide), kN hk q.2.2.2.2.2.1 (by decide) q.2.2.2.2.2.2⟩
theorem k_rWan {S T : CS} {GI GR GA GQ : List Nat} {M : Nat → Nat → Nat} {x x' : MS} (hk : keep S T GI GR GA GQ) (hA : nin [46] GA = true) (e0 : mI x' 13 = mI x 13) (e1 : mA x' 14 = mA x 14) (h : rWan M x S) : rWan M x' T := by
  unfold rWan at h ⊢
  simp only [nN, nA, e0, e1] at h ⊢
  exact ⟨fun i hi => have q := h.1 i hi; ⟨kD hk q.1 (by decide), fun k hk2 => kA hk q.1 (by decide) (nin_of hA (by decide)) k (q.2 k hk2)⟩, h.2⟩
theorem k_rGot {S T : CS} {GI GR GA GQ : List Nat} {M : Nat → Nat → Nat} {x x' : MS} (hk : keep S T GI GR GA GQ) (hA : nin [47] GA = true) (e0 : mI x' 13 = mI x 13) (e1 : mB x' 15 = mB x 15) (h : rGot M x S) : rGot M x' T := by
  unfold rGot at h ⊢
  simp only [nN, nA, e0, e1] at h ⊢
  exact ⟨fun i hi => have q := h.1 i hi; ⟨kD hk q.1 (by decide), fun k hk2 => kA hk q.1 (by decide) (nin_of hA (by decide)) k (q.2 k hk2)⟩, h.2⟩
theorem k_rLoa {S T : CS} {GI GR GA GQ : List Nat} {M : Nat → Nat → Nat} {x x' : MS} (hk : keep S T GI GR GA GQ) (hI : nin [182] GI = true) (e0 : mI x' 13 = mI x 13) (e1 : mA x' 43 = mA x 43) (e2 : mI x' 44 = mI x 44) (h : rLoa M x S) : rLoa M x' T := by
  unfold rLoa at h ⊢
  simp only [nN, nA, e0, e1, e2] at h ⊢
  exact ⟨fun i hi => have q := h.1 i hi; ⟨kD hk q.1 (by decide), kI hk q.1 (by decide) (nin_of hI (by decide)) q.2⟩, h.2⟩
theorem k_rFamL {S T : CS} {GI GR GA GQ : List Nat} {ae : Nat} {M : Nat → Nat → Nat} {x x' : MS} (hk : keep S T GI GR GA GQ) (hI : nin [gS 2] GI = true) (hR : nin [gE 2] GR = true) (hQ : nin [32] GQ = true) (e0 : mI x' 16 = mI x 16) (h : rFamL ae M x S) : rFamL ae M x' T := by
  unfold rFamL at h ⊢
  rw [show nN x' 16 = nN x 16 by unfold nN; rw [e0]]
  exact ⟨keep_list hk h.1 (nin_of hI (by decide)) (nin_of hR (by decide)) (nin_of hQ (by decide)), h.2⟩
theorem k_rFam {S T : CS} {GI GR GA GQ : List Nat} {M : Nat → Nat → Nat} {x x' : MS} (hk : keep S T GI GR GA GQ) (hI : nin [20, 21] GI = true) (hR : nin [22] GR = true) (e0 : mI x' 16 = mI x 16) (e1 : mA x' 18 = mA x 18) (e2 : mA x' 19 = mA x 19) (h : rFam M x S) : rFam M x' T := by
  unfold rFam at h ⊢
  simp only [nN, nA, e0, e1, e2] at h ⊢
  exact fun i hi => have q := h i hi; ⟨kD hk q.1 (by decide), kI hk q.1 (by decide) (nin_of hI (by decide)) q.2.1, kI hk q.1 (by decide) (nin_of hI (by decide)) q.2.2.1, kR hk q.1 (by decide) (nin_of hR (by decide)) q.2.2.2.1, kD hk q.2.2.2.2.1 (by decide), kN hk q.2.2.2.2.1 (by decide) q.2.2.2.2.2⟩
theorem ledN_eq {x x' : MS} (e3 : mA x' 8 = mA x 8) (e4 : mA x' 33 = mA x 33) (e5 : mA x' 35 = mA x 35) (e6 : mA x' 38 = mA x 38) (e7 : mA x' 39 = mA x 39) (g f : Int32) (k : Nat) : ledN x' g f k = ledN x g f k := by
  unfold ledN linN nA
  rw [e3, e4, e5, e6, e7]
theorem k_rHad {S T : CS} {GI GR GA GQ : List Nat} {M : Nat → Nat → Nat} {x x' : MS} (hk : keep S T GI GR GA GQ) (hA : nin [41] GA = true) (e0 : mI x' 16 = mI x 16) (e1 : mI x' 32 = mI x 32) (e3 : mA x' 8 = mA x 8) (e4 : mA x' 33 = mA x 33) (e5 : mA x' 35 = mA x 35) (e6 : mA x' 38 = mA x 38) (e7 : mA x' 39 = mA x 39) (h : rHad M x S) : rHad M x' T := by
  unfold rHad at h ⊢
  rw [show nN x' 16 = nN x 16 by unfold nN; rw [e0], show nN x' 32 = nN x 32 by unfold nN; rw [e1]]
  intro i hi
  have q := h i hi
  exact ⟨kD hk q.1 (by decide), fun g hg => by rw [kA hk q.1 (by decide) (nin_of hA (by decide)) g rfl, ledN_eq e3 e4 e5 e6 e7]; exact q.2 g hg⟩
theorem k_rRef {S T : CS} {GI GR GA GQ : List Nat} {M : Nat → Nat → Nat} {x x' : MS} (hk : keep S T GI GR GA GQ) (hI : nin [100, 101, 102] GI = true) (hR : nin [23, 103] GR = true) (e0 : mI x' 16 = mI x 16) (e1 : mI x' 20 = mI x 20) (e2 : mA x' 21 = mA x 21) (e3 : mA x' 22 = mA x 22) (e4 : mA x' 23 = mA x 23) (e5 : mA x' 24 = mA x 24) (h : rRef M x S) : rRef M x' T := by
  unfold rRef at h ⊢
  rw [show nN x' 16 = nN x 16 by unfold nN; rw [e0], show nN x' 20 = nN x 20 by unfold nN; rw [e1], e2, e3, e4, e5]
  refine ⟨h.1, fun w hw => have q := h.2.1 w hw; ⟨kD hk q.1 (by decide), kI hk q.1 (by decide) (nin_of hI (by decide)) q.2.1, kI hk q.1 (by decide) (nin_of hI (by decide)) q.2.2.1, kI hk q.1 (by decide) (nin_of hI (by decide)) q.2.2.2.1, q.2.2.2.2⟩, fun i hi => ?_⟩
  obtain ⟨h0, ws, h1, h2, h3⟩ := h.2.2 i hi
  exact ⟨kD hk h0 (by decide), ws, by rw [kR hk h0 (by decide) (nin_of hR (by decide)) rfl]; exact keep_chn hk (by decide) (nin_of hR (by decide)) ws _ h1, h2, h3⟩
theorem k_rParL {S T : CS} {GI GR GA GQ : List Nat} {ae : Nat} {M : Nat → Nat → Nat} {x x' : MS} (hk : keep S T GI GR GA GQ) (hI : nin [gS 3] GI = true) (hR : nin [gE 3] GR = true) (hQ : nin [33] GQ = true) (e0 : mI x' 32 = mI x 32) (h : rParL ae M x S) : rParL ae M x' T := by
  unfold rParL at h ⊢
  rw [show nN x' 32 = nN x 32 by unfold nN; rw [e0]]
  exact ⟨keep_list hk h.1 (nin_of hI (by decide)) (nin_of hR (by decide)) (nin_of hQ (by decide)), h.2⟩
theorem k_rPar {S T : CS} {GI GR GA GQ : List Nat} {ae : Nat} {M : Nat → Nat → Nat} {x x' : MS} (hk : keep S T GI GR GA GQ) (hI : nin [80, 81, 83, 84, 40, 41, gS 4] GI = true) (hR : nin [82, gE 4] GR = true) (hQ : nin [34] GQ = true) (e0 : mI x' 32 = mI x 32) (e1 : mI x' 37 = mI x 37) (e2 : mA x' 33 = mA x 33) (e3 : mA x' 34 = mA x 34) (e4 : mA x' 35 = mA x 35) (e5 : mA x' 36 = mA x 36) (e6 : mA x' 38 = mA x 38) (e7 : mA x' 39 = mA x 39) (h : rPar ae M x S) : rPar ae M x' T := by
  unfold rPar at h ⊢
  rw [show nN x' 32 = nN x 32 by unfold nN; rw [e0], show nN x' 37 = nN x 37 by unfold nN; rw [e1], e2, e3, e5, e6, e7]
  rw [show nA x' 35 = nA x 35 by unfold nA; rw [e4], show grmN x' = grmN x by unfold grmN; rw [e7]]
  refine ⟨fun p hp => have q := h.1 p hp; ⟨kD hk q.1 (by decide), kI hk q.1 (by decide) (nin_of hI (by decide)) q.2.1, kI hk q.1 (by decide) (nin_of hI (by decide)) q.2.2.1, kR hk q.1 (by decide) (nin_of hR (by decide)) q.2.2.2.1, kI hk q.1 (by decide) (nin_of hI (by decide)) q.2.2.2.2.1, kI hk q.1 (by decide) (nin_of hI (by decide)) q.2.2.2.2.2.1, keep_list hk q.2.2.2.2.2.2 (nin_of hI (by decide)) (nin_of hR (by decide)) (nin_of hQ (by decide))⟩, fun w hw => have q := h.2 w hw; ⟨kD hk q.1 (by decide), kI hk q.1 (by decide) (nin_of hI (by decide)) q.2.1, kI hk q.1 (by decide) (nin_of hI (by decide)) q.2.2⟩⟩
theorem k_rTap {S T : CS} {GI GR GA GQ : List Nat} {M : Nat → Nat → Nat} {x x' : MS} (hk : keep S T GI GR GA GQ) (hI : nin [124, 125] GI = true) (hA : nin [60] GA = true) (e0 : mI x' 58 = mI x 58) (e1 : mI x' 63 = mI x 63) (e2 : mA x' 57 = mA x 57) (h : rTap M x S) : rTap M x' T := by
  unfold rTap at h ⊢
  simp only [nN, nA, e0, e1, e2] at h ⊢
  exact ⟨kD hk h.1 (by decide), kD hk h.2.1 (by decide), kN hk h.2.1 (by decide) h.2.2.1, kI hk h.1 (by decide) (nin_of hI (by decide)) h.2.2.2.1, kI hk h.1 (by decide) (nin_of hI (by decide)) h.2.2.2.2.1, fun i hi => ⟨(h.2.2.2.2.2 i hi).1, kA hk h.2.1 (by decide) (nin_of hA (by decide)) i (h.2.2.2.2.2 i hi).2⟩⟩
theorem k_rRul {S T : CS} {GI GR GA GQ : List Nat} {M : Nat → Nat → Nat} {x x' : MS} (hk : keep S T GI GR GA GQ) (hI : nin [144] GI = true) (hR : nin [247, 121, 140, 141, 142, 143] GR = true) (hA : nin [42, 43, 44, 45] GA = true) (e0 : mI x' 25 = mI x 25) (e1 : mA x' 26 = mA x 26) (e2 : mA x' 27 = mA x 27) (e3 : mA x' 28 = mA x 28) (e4 : mA x' 29 = mA x 29) (h : rRul M x S) : rRul M x' T := by
  unfold rRul at h ⊢
  simp only [nN, nA, e0, e1, e2, e3, e4] at h ⊢
  exact ⟨kD hk h.1 (by decide), kD hk h.2.1 (by decide), kR hk h.1 (by decide) (nin_of hR (by decide)) h.2.2.1, kR hk h.2.1 (by decide) (nin_of hR (by decide)) h.2.2.2.1, fun j hj => have q := h.2.2.2.2.1 j hj; ⟨kD hk q.1 (by decide), kR hk q.1 (by decide) (nin_of hR (by decide)) q.2.1, kR hk q.1 (by decide) (nin_of hR (by decide)) q.2.2.1, kR hk q.1 (by decide) (nin_of hR (by decide)) q.2.2.2.1, kR hk q.1 (by decide) (nin_of hR (by decide)) q.2.2.2.2.1, ⟨kD hk q.2.2.2.2.2.1.1 (by decide), kN hk q.2.2.2.2.2.1.1 (by decide) q.2.2.2.2.2.1.2⟩, ⟨kD hk q.2.2.2.2.2.2.1.1 (by decide), kN hk q.2.2.2.2.2.2.1.1 (by decide) q.2.2.2.2.2.2.1.2⟩, ⟨kD hk q.2.2.2.2.2.2.2.1.1 (by decide), kN hk q.2.2.2.2.2.2.2.1.1 (by decide) q.2.2.2.2.2.2.2.1.2⟩, ⟨kD hk q.2.2.2.2.2.2.2.2.1 (by decide), kN hk q.2.2.2.2.2.2.2.2.1 (by decide) q.2.2.2.2.2.2.2.2.2⟩⟩, h.2.2.2.2.2.1, kI hk (h.2.2.2.2.1 0 (by decide)).1 (by decide) (nin_of hI (by decide)) h.2.2.2.2.2.2.1, fun r hr => have q := h.2.2.2.2.2.2.2 r hr; have z := h.2.2.2.2.1 0 (by decide); ⟨kA hk z.2.2.2.2.2.1.1 (by decide) (nin_of hA (by decide)) r q.1, kA hk z.2.2.2.2.2.2.1.1 (by decide) (nin_of hA (by decide)) r q.2.1, kA hk z.2.2.2.2.2.2.2.1.1 (by decide) (nin_of hA (by decide)) r q.2.2.1, fun hs => kA hk z.2.2.2.2.2.2.2.2.1 (by decide) (nin_of hA (by decide)) r (q.2.2.2 hs)⟩⟩
theorem k_rVan {S T : CS} {GI GR GA GQ : List Nat} {M : Nat → Nat → Nat} (hk : keep S T GI GR GA GQ) (hR : nin [200, 201, 202, 204, 205, 206, 207, 208] GR = true)  (h : rVan M S) (hA : nin [50] GA = true := by decide) : rVan M T := by
  unfold rVan at h ⊢
  skip
  exact ⟨kD hk h.1 (by decide), kR hk h.1 (by decide) (nin_of hR (by decide)) h.2.1, kR hk h.1 (by decide) (nin_of hR (by decide)) h.2.2.1, kR hk h.1 (by decide) (nin_of hR (by decide)) h.2.2.2.1, kR hk h.1 (by decide) (nin_of hR (by decide)) h.2.2.2.2.1, kR hk h.1 (by decide) (nin_of hR (by decide)) h.2.2.2.2.2.1, kR hk h.1 (by decide) (nin_of hR (by decide)) h.2.2.2.2.2.2.1, kR hk h.1 (by decide) (nin_of hR (by decide)) h.2.2.2.2.2.2.2.1, kR hk h.1 (by decide) (nin_of hR (by decide)) h.2.2.2.2.2.2.2.2.1, ⟨kD hk h.2.2.2.2.2.2.2.2.2.1.1 (by decide), kN hk h.2.2.2.2.2.2.2.2.2.1.1 (by decide) h.2.2.2.2.2.2.2.2.2.1.2⟩, ⟨kD hk h.2.2.2.2.2.2.2.2.2.2.1.1 (by decide), kN hk h.2.2.2.2.2.2.2.2.2.2.1.1 (by decide) h.2.2.2.2.2.2.2.2.2.2.1.2⟩, ⟨kD hk h.2.2.2.2.2.2.2.2.2.2.2.1.1 (by decide), kN hk h.2.2.2.2.2.2.2.2.2.2.2.1.1 (by decide) h.2.2.2.2.2.2.2.2.2.2.2.1.2⟩, ⟨kD hk h.2.2.2.2.2.2.2.2.2.2.2.2.1.1 (by decide), kN hk h.2.2.2.2.2.2.2.2.2.2.2.2.1.1 (by decide) h.2.2.2.2.2.2.2.2.2.2.2.2.1.2⟩, ⟨kD hk h.2.2.2.2.2.2.2.2.2.2.2.2.2.1.1 (by decide), kN hk h.2.2.2.2.2.2.2.2.2.2.2.2.2.1.1 (by decide) h.2.2.2.2.2.2.2.2.2.2.2.2.2.1.2⟩, ⟨kD hk h.2.2.2.2.2.2.2.2.2.2.2.2.2.2.1.1 (by decide), kN hk h.2.2.2.2.2.2.2.2.2.2.2.2.2.2.1.1 (by decide) h.2.2.2.2.2.2.2.2.2.2.2.2.2.2.1.2⟩, kD hk h.2.2.2.2.2.2.2.2.2.2.2.2.2.2.2.1 (by decide), kN hk h.2.2.2.2.2.2.2.2.2.2.2.2.2.2.2.1 (by decide) h.2.2.2.2.2.2.2.2.2.2.2.2.2.2.2.2.1, kA hk h.2.2.2.2.2.2.2.2.2.2.2.1.1 (by decide) (nin_of hA (by decide)) 0 h.2.2.2.2.2.2.2.2.2.2.2.2.2.2.2.2.2⟩
theorem k_rRoa {S T : CS} {GI GR GA GQ : List Nat} {M : Nat → Nat → Nat} {x x' : MS} (hk : keep S T GI GR GA GQ) (hA : nin [55] GA = true) (hQ : nin [62] GQ = true) (e0 : mA x' 42 = mA x 42) (h : rRoa M x S) : rRoa M x' T := by
  unfold rRoa at h ⊢
  simp only [nN, nA, e0] at h ⊢
  exact ⟨kD hk h.1 (by decide), kN hk h.1 (by decide) h.2.1, h.2.2.1, fun i hi => have q := h.2.2.2 i hi; ⟨kQ hk h.1 (by decide) (nin_of hQ (by decide)) i q.1, kD hk q.2.1 (by decide), kN hk q.2.1 (by decide) q.2.2.1, fun j hj => ⟨kA hk q.2.1 (by decide) (nin_of hA (by decide)) j (q.2.2.2 j hj).1, (q.2.2.2 j hj).2⟩⟩⟩
theorem k_rSto {S T : CS} {GI GR GA GQ : List Nat} {M : Nat → Nat → Nat} {x x' : MS} (hk : keep S T GI GR GA GQ) (hI : nin [209] GI = true) (hA : nin [54] GA = true) (e0 : mI x' 56 = mI x 56) (e1 : mA x' 55 = mA x 55) (h : rSto M x S) : rSto M x' T := by
  unfold rSto okN at h ⊢
  rw [show nN x' 56 = nN x 56 by unfold nN; rw [e0], e0, e1]
  exact ⟨kD hk h.1 (by decide), kD hk h.2.1 (by decide), kI hk h.1 (by decide) (nin_of hI (by decide)) h.2.2.1, h.2.2.2.imp id (fun q => ⟨q.1, fun i hi => kA hk h.2.1 (by decide) (nin_of hA (by decide)) i (q.2 i hi)⟩)⟩
