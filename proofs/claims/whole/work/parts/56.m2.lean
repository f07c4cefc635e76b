/-! PURE: lots told, wants, roads, stops, the tape cut -/
section M2
variable {ae k : Nat} {M : Nat → Nat → Nat} {x : MS} {S : CS}
theorem ev_find (n : Nat × Nat) (h : Rep ae k M x S) (t : Int32) : fX7_find n S (M 0 2) t = some (if ixB (mI x 4) t then some (M 1 t.toNatClampNeg) else none) := by
  have hO := (g_rOk h).2.1
  have hL := (g_rLotL h).1
  have hF := g_rFix h
  have hn : nN x 4 < 2 ^ 31 := by have := hO.2; omega
  unfold fX7_find
  have kl : cD S _ = 20 := hL.1
  simp only [grd, bnd, cal, onn, hF.2.1, hF.2.2.2.2.2.2.2.2.2.2.2.1, kl, ev_size n hL, ev_within, if_true]
  rw [ix_is hn, ← hO.1]
  cases hb : ixB (mI x 4) t
  · simp [bI]
  · obtain ⟨j, hj, rfl⟩ := ixB_of hO hb (by decide)
    have ek : cD S (M 1 j) = 3 := list_el hL hj
    have hj2 : j < 2 ^ 31 := by omega
    simp [bI, ev_get n hL hj, ek, nI_clamp hj2]
theorem ev_tell (n : Nat × Nat) (h : Rep ae k M x S) {j : Nat} (hj : j < nN x 4) (w : Int32) : fX2_tell n S (M 1 j) w = some (if w = 0 then mA x 5 j else if w = 1 then mA x 6 j else if w = 2 then mA x 7 j else if w = 3 then mA x 8 j else if w = 4 then mA x 9 j else if w = 5 then mA x 10 j else if w = 6 then mA x 11 j else if w = 7 then mA x 12 j else -1) := by
  have hL := g_rLot h j hj
  unfold fX2_tell
  simp only [grd, bnd, hL.1, hL.2.2.1, hL.2.2.2.1, hL.2.2.2.2.1, hL.2.2.2.2.2.1, hL.2.2.2.2.2.2.1, hL.2.2.2.2.2.2.2.1, hL.2.2.2.2.2.2.2.2.1, hL.2.2.2.2.2.2.2.2.2, if_true]
  (repeat' split) <;> rfl
theorem st_lot (n : Nat × Nat) (h : Rep ae k M x S) (a b : Int32) : fX11_lot n S (M 0 0) a b = some (lotF x a b) := by
  have hF := g_rFix h
  unfold fX11_lot lotF
  simp only [grd, bnd, cal, onn, hF.1, hF.2.1, hF.2.2.2.2.2.1, ev_find n h, if_true]
  cases hb : ixB (mI x 4) a
  · simp [oel]
  · obtain ⟨j, hj, rfl⟩ := ixB_of (g_rOk h).2.1 hb (by decide)
    have hj2 : j < 2 ^ 31 := by have := (g_rOk h).2.1.2; omega
    simp only [oel, if_true, nI_clamp hj2, (g_rLot h j hj).1, ev_tell n h hj]
theorem st_got (n : Nat × Nat) (h : Rep ae k M x S) (a b : Int32) : fX11_got n S (M 0 0) a b = some (gotF x a b) := by
  have hF := g_rFix h
  unfold fX11_got gotF
  simp only [grd, bnd, cal, onn, hF.1, ev_findTable n h, ev_kind, if_true]
  cases hb : ixB (mI x 13) a
  · simp [oel]
  · cases h2 : isB b 0 9
    · simp [oel, bI]
    · obtain ⟨j, hj, rfl⟩ := ixB_of (g_rOk h).2.2.1 hb (by decide)
      obtain ⟨i, hi, rfl⟩ := isB_nI h2 (n := 10) (by decide) (by decide)
      have hj3 := (g_rOk h).2.2.1.2
      have hj2 : j < 2 ^ 31 := by omega
      have hi2 : i < 2 ^ 31 := by omega
      have hT := g_rTab h j hj
      have hG := ((g_rGot h).1 j hj).2 i hi
      have hv : ¬ (nI i < 0 ∨ cN S (M 4 j) ≤ (nI i).toNatClampNeg) := by rw [hT.2.2.2.2.2.2]; exact vp_in_nI hi (by decide)
      rw [nI_clamp hi2] at hv
      simp only [oel, bI, if_true, nI_clamp hj2, nI_clamp hi2, hT.1, hT.2.2.1, hT.2.2.2.2.2.1, hG, wI10, nI_clamp (show 10 * j + i < 2 ^ 31 by omega), Bool.and_self]
      simp [hv]
theorem st_end (n : Nat × Nat) (h : Rep ae k M x S) (a : Int32) : ∃ T, fX11_end n S (M 0 0) a = some ((endF x a).1, T) ∧ Rep ae (k + 1) M (endF x a).2 T := by
  have hF := g_rFix h
  have hT := g_rTap h
  unfold fX11_end endF
  simp only [grd, bnd, cal, onn, hF.1, hF.2.2.2.2.2.2.2.2.2.1, hT.1, hT.2.2.2.1, ev_within, if_true]
  by_cases c1 : a < 0
  · have : isB a 0 (mI x 58) = false := by
      cases e : isB a 0 (mI x 58)
      · rfl
      · exact absurd (isB_1 (h := mI x 58) c1) (by rw [e]; decide)
    refine ⟨S, ?_, ?_⟩
    · simp [this, bI, c1]
    · rw [if_pos c1]; exact rep_mono h
  · by_cases c2 : a ≤ mI x 58
    · have e : isB a 0 (mI x 58) = true := by
        have := isB_3 (a := a) (b := 0) (h := mI x 58) c1 (by rw [Int32.lt_iff_toInt_lt]; rw [Int32.le_iff_toInt_le] at c2; omega)
        cases e : isB a 0 (mI x 58)
        · rw [e] at this; exact absurd this (by decide)
        · rfl
      refine ⟨uI S 124 (M 0 8) a, ?_, ?_⟩
      · simp [e, bI, c1, c2]
      · rw [if_neg c1, if_pos c2]
        apply rep_mono
        obtain ⟨j, hj, rfl⟩ := nI_of c1
        have o58 := (g_rOk h).2.2.2.2.2.2.1
        have hjm : j ≤ nN x 58 := by
          rw [o58.1, nI_leI hj (by have := o58.2; omega)] at c2
          exact c2
        have en : nN (sI x 58 (nI j)) 58 = j := by
          show (upd x.1 58 (nI j) 58).toNatClampNeg = j
          rw [show upd x.1 58 (nI j) 58 = nI j from if_pos rfl, nI_clamp hj]
        obtain ⟨hB, hOk, hLim, hNew, hSum, hWho, hFix, hNum, hSta, hCon, hLotL, hLot, hCha, hWei, hTabL, hTab, hWan, hGot, hLoa, hFamL, hFam, hHad, hRef, hParL, hPar, hTap, hRul, hVan, hRoa, hSto⟩ := h
        have hk := keep_uI S 124 (M 0 8) (nI j)
        exact ⟨hB,
    by
      obtain ⟨q0, q1, q2, q3, q4, q5, q6, q7⟩ := hOk
      exact ⟨q0, q1, q2, q3, q4, q5, ⟨by show nI j = nI (nN (sI x 58 (nI j)) 58); rw [en], by rw [en]; exact Nat.le_trans hjm o58.2⟩, q7⟩,
    k_rLim rfl rfl rfl rfl rfl rfl rfl rfl rfl rfl rfl rfl rfl rfl rfl rfl hLim,
    k_rNew rfl rfl rfl rfl rfl hNew,
    k_rSum rfl rfl rfl rfl rfl rfl rfl hSum,
    k_rWho rfl rfl rfl rfl rfl rfl rfl rfl rfl rfl rfl hWho,
    k_rFix hk rfl hFix,
    k_rNum hk rfl rfl rfl rfl hNum,
    k_rSta hk rfl rfl hSta,
    k_rCon hk rfl rfl hCon,
    k_rLotL hk rfl rfl rfl rfl hLotL,
    k_rLot hk rfl rfl rfl rfl rfl rfl rfl rfl rfl rfl hLot,
    k_rCha hk rfl rfl rfl rfl rfl hCha,
    k_rWei hk rfl rfl rfl rfl rfl rfl rfl hWei,
    k_rTabL hk rfl rfl rfl rfl hTabL,
    k_rTab hk rfl rfl hTab,
    k_rWan hk rfl rfl rfl hWan,
    k_rGot hk rfl rfl rfl hGot,
    k_rLoa hk rfl rfl rfl rfl hLoa,
    k_rFamL hk rfl rfl rfl rfl hFamL,
    k_rFam hk rfl rfl rfl rfl rfl hFam,
    k_rHad hk rfl rfl rfl rfl rfl rfl rfl rfl hHad,
    k_rRef hk rfl rfl rfl rfl rfl rfl rfl rfl hRef,
    k_rParL hk rfl rfl rfl rfl hParL,
    k_rPar hk rfl rfl rfl rfl rfl rfl rfl rfl rfl rfl rfl hPar,
    ⟨hTap.1, hTap.2.1, hTap.2.2.1, by rw [cI_uI, set1_s, set1_s]; rfl, hTap.2.2.2.2.1, fun i hi => hTap.2.2.2.2.2 i (by rw [en] at hi; omega)⟩,
    k_rRul hk rfl rfl rfl rfl rfl rfl rfl rfl hRul,
    k_rVan hk rfl hVan,
    k_rRoa hk rfl rfl rfl hRoa,
    k_rSto hk rfl rfl rfl rfl hSto⟩
    · have : isB a 0 (mI x 58) = false := by
        cases e : isB a 0 (mI x 58)
        · rfl
        · exact absurd (isB_2 (b := 0) (show mI x 58 < a by rw [Int32.lt_iff_toInt_lt]; rw [Int32.le_iff_toInt_le] at c2; omega)) (by rw [e]; decide)
      refine ⟨S, ?_, ?_⟩
      · simp [this, bI, c1, c2]
      · rw [if_neg c1, if_neg c2]; exact rep_mono h
theorem st_stop (n : Nat × Nat) (h : Rep ae k M x S) (a : Int32) : fX11_stop n S (M 0 0) a = some (stopF x a) := by
  have hF := g_rFix h
  have hV := g_rVan h
  have hS := g_rSto h
  unfold fX11_stop stopF fX9_tellStop
  have v1 : (cD S (M 0 18) = 54 ∧ cN S (M 0 18) = 15) := ⟨hV.2.2.2.2.2.2.2.2.2.2.2.2.2.2.2.1, hV.2.2.2.2.2.2.2.2.2.2.2.2.2.2.2.2.1⟩
  simp only [grd, bnd, cal, onn, hF.1, hF.2.2.2.2.2.2.2.2.2.2.1, hV.1, hS.2.2.1, hV.2.2.2.2.2.2.2.2.1, v1.1, v1.2, ev_within, if_true]
  rcases hS.2.2.2 with e | ⟨o, q⟩
  · rw [e]
    by_cases c : a = -1
    · subst c; simp
    · have : isB a 0 (-2) = false := by
        cases e : isB a 0 (-2)
        · rfl
        · simp only [isB, Bool.and_eq_true, decide_eq_true_eq, Int32.le_iff_toInt_le] at e
          have h0 : (0 : Int32).toInt = 0 := by decide
          have h1 : (-2 : Int32).toInt = -2 := by decide
          omega
      simp [c, this, bI]
  · have hp : (0 : Int32) ≤ mI x 56 := by
      rw [o.1]
      exact nI_le (a := 0) (Nat.zero_le _) (by have := o.2; omega)
    rw [if_pos hp]
    by_cases c : a = -1
    · simp [c]
    · have hn : nN x 56 < 2 ^ 31 := by have := o.2; omega
      rw [if_neg c, if_neg c]
      have e1 : isB a 0 (mI x 56 - 1) = ixB (mI x 56) a := by rw [o.1]; exact ix_is hn a
      rw [e1]
      cases hb : ixB (mI x 56) a
      · simp [bI]
      · obtain ⟨j, hj, rfl⟩ := ixB_of o hb (by decide)
        have ho := o.2
        have hj2 : j < 2 ^ 31 := by omega
        have c15 : ¬ (15 : Int32) ≤ nI j := by
          show ¬ nI 15 ≤ nI j
          rw [nI_leI (by decide) hj2]
          omega
        have c16 : ¬ (nI j < 0 ∨ 15 ≤ (nI j).toNatClampNeg) := vp_in_nI (by omega) (by decide)
        have c17 : ¬ (15 : Nat) ≤ (nI j).toNatClampNeg := fun z => c16 (Or.inr z)
        rw [nI_clamp hj2] at c16
        simp only [bI, if_true, if_neg c15, nI_clamp hj2, q j hj, if_pos c16]
        rfl
theorem st_want (n : Nat × Nat) (h : Rep ae k M x S) (a b c : Int32) : ∃ T, fX11_want n S (M 0 0) a b c = some ((wantF x a b c).1, T) ∧ Rep ae (k + 1) M (wantF x a b c).2 T := by
  have hF := g_rFix h
  cases h1 : isB b 0 9
  · exact ⟨uI S 251 (M 0 0) (-1), by simp [fX11_want, wantF, grd, bnd, cal, un2, ev_kind, ev_within, h1, bI, hF.1, ev_refuse _ hF.1], by simp only [wantF, h1, Bool.false_and]; exact rep_no (by decide) h⟩
  · cases h2 : isB c 0 1000000
    · exact ⟨uI S 251 (M 0 0) (-1), by simp [fX11_want, wantF, grd, bnd, cal, un2, ev_kind, ev_within, h1, h2, bI, hF.1, ev_refuse _ hF.1], by simp only [wantF, h1, h2, Bool.and_false]; exact rep_no (by decide) h⟩
    · cases h3 : ixB (mI x 13) a
      · exact ⟨uI S 251 (M 0 0) (-2), by simp [fX11_want, wantF, grd, bnd, cal, un2, oel, ev_kind, ev_within, ev_findTable n h, h1, h2, h3, bI, hF.1, ev_refuse _ hF.1], by simp only [wantF, h1, h2, h3, Bool.and_self, if_true]; exact rep_no (by decide) h⟩
      · obtain ⟨j, hj, rfl⟩ := ixB_of (g_rOk h).2.2.1 h3 (by decide)
        obtain ⟨i, hi, rfl⟩ := isB_nI h1 (n := 10) (by decide) (by decide)
        have hj3 := (g_rOk h).2.2.1.2
        have ej : (nI j).toNatClampNeg = j := nI_clamp (by omega)
        have ei : (nI i).toNatClampNeg = i := nI_clamp (by omega)
        have eq : (10 * nI j + nI i).toNatClampNeg = 10 * j + i := by rw [wI10, nI_clamp (by omega)]
        have hT := g_rTab h j hj
        have hG := ((g_rWan h).1 j hj).2 i hi
        have hlim := (g_rLim h).2.2.1 (10 * j + i)
        have hpos : 0 ≤ mA x 14 (10 * j + i) := by
          simp only [isB, Bool.and_eq_true, decide_eq_true_eq] at hlim
          exact hlim.1
        have hv : ¬ (nI i < 0 ∨ cN S (M 3 j) ≤ (nI i).toNatClampNeg) := by rw [hT.2.2.2.2.1]; exact vp_in_nI hi (by decide)
        refine ⟨uI (uA S 46 (M 3 j) i c) 251 (M 0 0) 0, ?_, ?_⟩
        · have hd2 : cD (uA S 46 (M 3 j) i c) (M 0 0) = 12 := hF.1
          simp only [fX11_want, wantF, grd, bnd, cal, un2, onn, oel, ev_kind, ev_within, ev_findTable n h, h1, h2, h3, bI, hF.1, hT.1, hT.2.1, hT.2.2.2.1, if_true, ej, ei, eq, hG, Bool.and_self] at hv ⊢
          simp [hv, ev_accept _ hd2]
        · simp only [wantF, h1, h2, h3, Bool.and_self, if_true, eq]
          refine rep_yes hpos ?_
          obtain ⟨hB, hOk, hLim, hNew, hSum, hWho, hFix, hNum, hSta, hCon, hLotL, hLot, hCha, hWei, hTabL, hTab, hWan, hGot, hLoa, hFamL, hFam, hHad, hRef, hParL, hPar, hTap, hRul, hVan, hRoa, hSto⟩ := h
          have hk := keep_uA S 46 (M 3 j) i c
          exact ⟨hB,
    k_rOk rfl rfl rfl rfl rfl rfl rfl rfl rfl rfl rfl rfl rfl rfl hOk,
    ⟨hLim.1, hLim.2.1, fun q => by
      show isB (upd (mA x 14) (10 * j + i) c q) 0 1000000 = true
      by_cases e : q = 10 * j + i
      · rw [e, pk_us]; exact h2
      · rw [pk_un e]; exact hLim.2.2.1 q, hLim.2.2.2⟩,
    k_rNew rfl rfl rfl rfl rfl hNew,
    k_rSum rfl rfl rfl rfl rfl rfl rfl hSum,
    k_rWho rfl rfl rfl rfl rfl rfl rfl rfl rfl rfl rfl hWho,
    k_rFix hk rfl hFix,
    k_rNum hk rfl rfl rfl rfl hNum,
    k_rSta hk rfl rfl hSta,
    k_rCon hk rfl rfl hCon,
    k_rLotL hk rfl rfl rfl rfl hLotL,
    k_rLot hk rfl rfl rfl rfl rfl rfl rfl rfl rfl rfl hLot,
    k_rCha hk rfl rfl rfl rfl rfl hCha,
    k_rWei hk rfl rfl rfl rfl rfl rfl rfl hWei,
    k_rTabL hk rfl rfl rfl rfl hTabL,
    k_rTab hk rfl rfl hTab,
    ⟨fun t ht => ⟨(hWan.1 t ht).1, fun q hq => by
      rw [cA_uA, set1_s]
      show set1 (cA S 46) (M 3 j) (va_up (cA S 46 (M 3 j)) i c) (M 3 t) q = upd (mA x 14) (10 * j + i) c (10 * t + q)
      by_cases e : t = j
      · subst e
        rw [set1_s]
        by_cases e2 : q = i
        · simp [va_up, upd, e2]
        · have e3 : ¬ 10 * t + q = 10 * t + i := by omega
          simp [va_up, upd, e2, e3, (hWan.1 t ht).2 q hq]
      · have e3 : ¬ 10 * t + q = 10 * j + i := by omega
        rw [set1_n _ _ (fun z => e (hTabL.2.2.1 t j ht hj z)), pk_un e3]
        exact (hWan.1 t ht).2 q hq⟩, fun q hq => by
      show upd (mA x 14) (10 * j + i) c q = 0
      have hq : 10 * nN x 13 ≤ q := hq
      rw [pk_un (by omega)]
      exact hWan.2 q hq⟩,
    k_rGot hk rfl rfl rfl hGot,
    k_rLoa hk rfl rfl rfl rfl hLoa,
    k_rFamL hk rfl rfl rfl rfl hFamL,
    k_rFam hk rfl rfl rfl rfl rfl hFam,
    k_rHad hk rfl rfl rfl rfl rfl rfl rfl rfl hHad,
    k_rRef hk rfl rfl rfl rfl rfl rfl rfl rfl hRef,
    k_rParL hk rfl rfl rfl rfl hParL,
    k_rPar hk rfl rfl rfl rfl rfl rfl rfl rfl rfl rfl rfl hPar,
    k_rTap hk rfl rfl rfl rfl rfl hTap,
    k_rRul hk rfl rfl rfl rfl rfl rfl rfl rfl hRul,
    k_rVan hk rfl hVan,
    k_rRoa hk rfl rfl rfl hRoa,
    k_rSto hk rfl rfl rfl rfl hSto⟩
end M2
