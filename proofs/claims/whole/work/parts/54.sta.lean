/-! PURE: the pieces that speak of the reference alone -/
theorem nN_e {x x' : MS} {f : Nat} (e : mI x' f = mI x f) : nN x' f = nN x f := by unfold nN; rw [e]
theorem k_rOk {x x' : MS} {k : Nat} (e0 : mI x' 0 = mI x 0) (e1 : mI x' 4 = mI x 4) (e2 : mI x' 13 = mI x 13) (e3 : mI x' 16 = mI x 16) (e4 : mI x' 20 = mI x 20) (e5 : mI x' 25 = mI x 25) (e6 : mI x' 58 = mI x 58) (e7 : mI x' 65 = mI x 65) (e8 : mI x' 32 = mI x 32) (e9 : mI x' 2 = mI x 2) (e10 : mI x' 37 = mI x 37) (e11 : mA x' 35 = mA x 35) (e12 : mA x' 38 = mA x 38) (e13 : mA x' 9 = mA x 9) (h : rOk k x) : rOk k x' := by
  unfold rOk okN lnOk nA cntL at h ⊢
  rw [nN_e e1, nN_e e2, nN_e e3, nN_e e4, nN_e e5, nN_e e6, nN_e e7, nN_e e8, nN_e e10, e0, e1, e2, e3, e4, e5, e6, e7, e8, e9, e10, e11, e12, e13]
  exact h
theorem m_rOk {x : MS} {k : Nat} (h : rOk k x) : rOk (k + 1) x := by
  unfold rOk at h ⊢
  obtain ⟨h0, h1, h2, h3, h4, h5, h6, h7, ⟨h8, h8'⟩, h9, h10, h11, h12, h13⟩ := h
  exact ⟨h0, h1, h2, h3, h4, h5, h6, h7, ⟨h8, by omega⟩, h9, h10, h11, by omega, h13⟩
theorem k_rLim {x x' : MS} (e0 : mI x' 4 = mI x 4) (e1 : mI x' 25 = mI x 25) (e2 : mI x' 16 = mI x 16) (e3 : mA x' 5 = mA x 5) (e4 : mA x' 6 = mA x 6) (e5 : mA x' 7 = mA x 7) (e6 : mA x' 8 = mA x 8) (e7 : mA x' 9 = mA x 9) (e8 : mA x' 10 = mA x 10) (e9 : mA x' 11 = mA x 11) (e10 : mA x' 12 = mA x 12) (e11 : mA x' 14 = mA x 14) (e12 : mA x' 26 = mA x 26) (e13 : mA x' 27 = mA x 27) (e14 : mA x' 28 = mA x 28) (e15 : mA x' 18 = mA x 18) (h : rLim x) : rLim x' := by
  unfold rLim at h ⊢
  rw [nN_e e0, nN_e e1, nN_e e2, e3, e4, e5, e6, e7, e8, e9, e10, e11, e12, e13, e14, e15]
  exact h
theorem k_rNew {x x' : MS} (e0 : mI x' 4 = mI x 4) (e1 : mA x' 9 = mA x 9) (e2 : mA x' 10 = mA x 10) (e3 : mA x' 11 = mA x 11) (e4 : mA x' 12 = mA x 12) (h : rNew x) : rNew x' := by
  unfold rNew at h ⊢
  rw [nN_e e0, e1, e2, e3, e4]
  exact h
theorem k_rSum {x x' : MS} (e0 : mI x' 4 = mI x 4) (e1 : mI x' 32 = mI x 32) (e2 : mI x' 37 = mI x 37) (e3 : mL x' 40 = mL x 40) (e4 : mA x' 36 = mA x 36) (e5 : mA x' 39 = mA x 39) (e6 : mA x' 10 = mA x 10) (h : rSum x) : rSum x' := by
  unfold rSum at h ⊢
  rw [nN_e e0, nN_e e1, nN_e e2, e3, e4, e5, e6]
  exact h
theorem k_rWho {x x' : MS} (e0 : mI x' 4 = mI x 4) (e1 : mI x' 16 = mI x 16) (e2 : mI x' 20 = mI x 20) (e3 : mI x' 32 = mI x 32) (e4 : mI x' 65 = mI x 65) (e5 : mA x' 21 = mA x 21) (e6 : mA x' 33 = mA x 33) (e7 : mA x' 66 = mA x 66) (e8 : mA x' 35 = mA x 35) (e9 : mI x' 37 = mI x 37) (e10 : mA x' 38 = mA x 38) (h : rWho x) : rWho x' := by
  unfold rWho nA at h ⊢
  rw [nN_e e0, nN_e e1, nN_e e2, nN_e e3, nN_e e4, nN_e e9, e5, e6, e7, e8, e10]
  exact h
section STA
variable {ae k : Nat} {M : Nat → Nat → Nat} {x : MS} {S : CS}
theorem rep_mono (hR : Rep ae k M x S) : Rep ae (k + 1) M x S := ⟨hR.1, m_rOk hR.2.1, hR.2.2⟩
theorem rep_sta (w : Int32) (hR : Rep ae k M x S) : Rep ae (k + 1) M (sI x 1 w) (uI S 251 (M 0 0) w) := by
  obtain ⟨hB, hOk, hLim, hNew, hSum, hWho, hFix, hNum, hSta, hCon, hLotL, hLot, hCha, hWei, hTabL, hTab, hWan, hGot, hLoa, hFamL, hFam, hHad, hRef, hParL, hPar, hTap, hRul, hVan, hRoa, hSto⟩ := hR
  have hk := keep_uI S 251 (M 0 0) w
  exact ⟨hB,
    m_rOk (k_rOk rfl rfl rfl rfl rfl rfl rfl rfl rfl rfl rfl rfl rfl rfl hOk),
    k_rLim rfl rfl rfl rfl rfl rfl rfl rfl rfl rfl rfl rfl rfl rfl rfl rfl hLim,
    k_rNew rfl rfl rfl rfl rfl hNew,
    k_rSum rfl rfl rfl rfl rfl rfl rfl hSum,
    k_rWho rfl rfl rfl rfl rfl rfl rfl rfl rfl rfl rfl hWho,
    k_rFix hk rfl hFix,
    k_rNum hk rfl rfl rfl rfl hNum,
    ⟨hSta.1, by rw [cI_uI, set1_s, set1_s]; rfl⟩,
    k_rCon hk rfl rfl hCon,
    k_rLotL hk rfl rfl rfl rfl hLotL,
    k_rLot hk rfl rfl rfl rfl rfl rfl rfl rfl rfl rfl hLot,
    k_rCha hk rfl rfl rfl rfl rfl hCha,
    k_rWei hk rfl rfl rfl rfl rfl rfl rfl hWei,
    k_rTabL hk rfl rfl rfl rfl hTabL,
    k_rTab hk rfl rfl hTab,
    k_rWan hk rfl rfl rfl hWan,
    k_rGot hk rfl rfl rfl hGot,
    k_rLoa hk rfl rfl rfl rfl hLoa,
    k_rFamL hk rfl rfl rfl rfl hFamL,
    k_rFam hk rfl rfl rfl rfl rfl hFam,
    k_rHad hk rfl rfl rfl rfl rfl rfl rfl rfl hHad,
    k_rRef hk rfl rfl rfl rfl rfl rfl rfl rfl hRef,
    k_rParL hk rfl rfl rfl rfl hParL,
    k_rPar hk rfl rfl rfl rfl rfl rfl rfl rfl rfl rfl rfl hPar,
    k_rTap hk rfl rfl rfl rfl rfl hTap,
    k_rRul hk rfl rfl rfl rfl rfl rfl rfl rfl hRul,
    k_rVan hk rfl hVan,
    k_rRoa hk rfl rfl rfl hRoa,
    k_rSto hk rfl rfl rfl rfl hSto⟩
theorem rep_sta0 (w : Int32) (hR : Rep ae k M x S) : Rep ae k M (sI x 1 w) (uI S 251 (M 0 0) w) := by
  obtain ⟨hB, hOk, hLim, hNew, hSum, hWho, hFix, hNum, hSta, hCon, hLotL, hLot, hCha, hWei, hTabL, hTab, hWan, hGot, hLoa, hFamL, hFam, hHad, hRef, hParL, hPar, hTap, hRul, hVan, hRoa, hSto⟩ := hR
  have hk := keep_uI S 251 (M 0 0) w
  exact ⟨hB,
    k_rOk rfl rfl rfl rfl rfl rfl rfl rfl rfl rfl rfl rfl rfl rfl hOk,
    k_rLim rfl rfl rfl rfl rfl rfl rfl rfl rfl rfl rfl rfl rfl rfl rfl rfl hLim,
    k_rNew rfl rfl rfl rfl rfl hNew,
    k_rSum rfl rfl rfl rfl rfl rfl rfl hSum,
    k_rWho rfl rfl rfl rfl rfl rfl rfl rfl rfl rfl rfl hWho,
    k_rFix hk rfl hFix,
    k_rNum hk rfl rfl rfl rfl hNum,
    ⟨hSta.1, by rw [cI_uI, set1_s, set1_s]; rfl⟩,
    k_rCon hk rfl rfl hCon,
    k_rLotL hk rfl rfl rfl rfl hLotL,
    k_rLot hk rfl rfl rfl rfl rfl rfl rfl rfl rfl rfl hLot,
    k_rCha hk rfl rfl rfl rfl rfl hCha,
    k_rWei hk rfl rfl rfl rfl rfl rfl rfl hWei,
    k_rTabL hk rfl rfl rfl rfl hTabL,
    k_rTab hk rfl rfl hTab,
    k_rWan hk rfl rfl rfl hWan,
    k_rGot hk rfl rfl rfl hGot,
    k_rLoa hk rfl rfl rfl rfl hLoa,
    k_rFamL hk rfl rfl rfl rfl hFamL,
    k_rFam hk rfl rfl rfl rfl rfl hFam,
    k_rHad hk rfl rfl rfl rfl rfl rfl rfl rfl hHad,
    k_rRef hk rfl rfl rfl rfl rfl rfl rfl rfl hRef,
    k_rParL hk rfl rfl rfl rfl hParL,
    k_rPar hk rfl rfl rfl rfl rfl rfl rfl rfl rfl rfl rfl hPar,
    k_rTap hk rfl rfl rfl rfl rfl hTap,
    k_rRul hk rfl rfl rfl rfl rfl rfl rfl rfl hRul,
    k_rVan hk rfl hVan,
    k_rRoa hk rfl rfl rfl hRoa,
    k_rSto hk rfl rfl rfl rfl hSto⟩
theorem rep_no {v : Int32} (hv : ¬ 0 ≤ v) (hR : Rep ae k M x S) : Rep ae (k + 1) M (toldF x v) (uI S 251 (M 0 0) v) := by
  unfold toldF
  rw [if_neg hv]
  exact rep_sta v hR
theorem rep_yes {v : Int32} (hv : 0 ≤ v) (hR : Rep ae k M x S) : Rep ae (k + 1) M (toldF x v) (uI S 251 (M 0 0) 0) := by
  unfold toldF
  rw [if_pos hv]
  exact rep_sta 0 hR
theorem rep_yes0 {v : Int32} (hv : 0 ≤ v) (hR : Rep ae k M x S) : Rep ae k M (toldF x v) (uI S 251 (M 0 0) 0) := by
  unfold toldF
  rw [if_pos hv]
  exact rep_sta0 0 hR
theorem rep_no0 {v : Int32} (hv : ¬ 0 ≤ v) (hR : Rep ae k M x S) : Rep ae k M (toldF x v) (uI S 251 (M 0 0) v) := by
  unfold toldF
  rw [if_neg hv]
  exact rep_sta0 v hR
end STA
