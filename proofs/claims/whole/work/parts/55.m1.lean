/-! PURE: the pieces of Rep; simple methods -/
section ACC
variable {ae k : Nat} {M : Nat → Nat → Nat} {x : MS} {S : CS}
theorem g_rBase (h : Rep ae k M x S) : frsh S ∧ cD S ae = 0 ∧ ae < nx S := h.1
theorem g_rOk (h : Rep ae k M x S) : rOk k x := h.2.1
theorem g_rLim (h : Rep ae k M x S) : rLim x := h.2.2.1
theorem g_rNew (h : Rep ae k M x S) : rNew x := h.2.2.2.1
theorem g_rSum (h : Rep ae k M x S) : rSum x := h.2.2.2.2.1
theorem g_rWho (h : Rep ae k M x S) : rWho x := h.2.2.2.2.2.1
theorem g_rFix (h : Rep ae k M x S) : rFix M S := h.2.2.2.2.2.2.1
theorem g_rNum (h : Rep ae k M x S) : rNum M x S := h.2.2.2.2.2.2.2.1
theorem g_rSta (h : Rep ae k M x S) : rSta M x S := h.2.2.2.2.2.2.2.2.1
theorem g_rCon (h : Rep ae k M x S) : rCon M x S := h.2.2.2.2.2.2.2.2.2.1
theorem g_rLotL (h : Rep ae k M x S) : rLotL ae M x S := h.2.2.2.2.2.2.2.2.2.2.1
theorem g_rLot (h : Rep ae k M x S) : rLot M x S := h.2.2.2.2.2.2.2.2.2.2.2.1
theorem g_rCha (h : Rep ae k M x S) : rCha M x S := h.2.2.2.2.2.2.2.2.2.2.2.2.1
theorem g_rWei (h : Rep ae k M x S) : rWei M x S := h.2.2.2.2.2.2.2.2.2.2.2.2.2.1
theorem g_rTabL (h : Rep ae k M x S) : rTabL ae M x S := h.2.2.2.2.2.2.2.2.2.2.2.2.2.2.1
theorem g_rTab (h : Rep ae k M x S) : rTab M S x := h.2.2.2.2.2.2.2.2.2.2.2.2.2.2.2.1
theorem g_rWan (h : Rep ae k M x S) : rWan M x S := h.2.2.2.2.2.2.2.2.2.2.2.2.2.2.2.2.1
theorem g_rGot (h : Rep ae k M x S) : rGot M x S := h.2.2.2.2.2.2.2.2.2.2.2.2.2.2.2.2.2.1
theorem g_rLoa (h : Rep ae k M x S) : rLoa M x S := h.2.2.2.2.2.2.2.2.2.2.2.2.2.2.2.2.2.2.1
theorem g_rFamL (h : Rep ae k M x S) : rFamL ae M x S := h.2.2.2.2.2.2.2.2.2.2.2.2.2.2.2.2.2.2.2.1
theorem g_rFam (h : Rep ae k M x S) : rFam M x S := h.2.2.2.2.2.2.2.2.2.2.2.2.2.2.2.2.2.2.2.2.1
theorem g_rHad (h : Rep ae k M x S) : rHad M x S := h.2.2.2.2.2.2.2.2.2.2.2.2.2.2.2.2.2.2.2.2.2.1
theorem g_rRef (h : Rep ae k M x S) : rRef M x S := h.2.2.2.2.2.2.2.2.2.2.2.2.2.2.2.2.2.2.2.2.2.2.1
theorem g_rParL (h : Rep ae k M x S) : rParL ae M x S := h.2.2.2.2.2.2.2.2.2.2.2.2.2.2.2.2.2.2.2.2.2.2.2.1
theorem g_rPar (h : Rep ae k M x S) : rPar ae M x S := h.2.2.2.2.2.2.2.2.2.2.2.2.2.2.2.2.2.2.2.2.2.2.2.2.1
theorem g_rTap (h : Rep ae k M x S) : rTap M x S := h.2.2.2.2.2.2.2.2.2.2.2.2.2.2.2.2.2.2.2.2.2.2.2.2.2.1
theorem g_rRul (h : Rep ae k M x S) : rRul M x S := h.2.2.2.2.2.2.2.2.2.2.2.2.2.2.2.2.2.2.2.2.2.2.2.2.2.2.1
theorem g_rVan (h : Rep ae k M x S) : rVan M S := h.2.2.2.2.2.2.2.2.2.2.2.2.2.2.2.2.2.2.2.2.2.2.2.2.2.2.2.1
theorem g_rRoa (h : Rep ae k M x S) : rRoa M x S := h.2.2.2.2.2.2.2.2.2.2.2.2.2.2.2.2.2.2.2.2.2.2.2.2.2.2.2.2.1
theorem g_rSto (h : Rep ae k M x S) : rSto M x S := h.2.2.2.2.2.2.2.2.2.2.2.2.2.2.2.2.2.2.2.2.2.2.2.2.2.2.2.2.2
theorem g_D (h : Rep ae k M x S) : cD S (M 0 0) = 12 := (g_rFix h).1
/-- a number among n as an index -/
theorem ix_nI {q : Int32} {m : Nat} (h : ixB (nI m) q = true) (hm : m < 2 ^ 31) : ∃ j, j < m ∧ q = nI j := vp_in_of (ixB_in h hm) hm
theorem list_el {ae r a m : Nat} {f : Nat → Nat} (h : listOk ae S r a m f) {i : Nat} (hi : i < m) : cD S (f i) = elk r := by
  obtain ⟨-, -, -, b, -, -, h6⟩ := h
  exact h6 i hi
theorem ev_findTable (n : Nat × Nat) (h : Rep ae k M x S) (t : Int32) : fX11_findTable n S (M 0 0) t = some (if ixB (mI x 13) t then some (M 2 t.toNatClampNeg) else none) := by
  have hO := (g_rOk h).2.2.1
  have hL := (g_rTabL h).1
  have hF := g_rFix h
  have hn : nN x 13 < 2 ^ 31 := by have := hO.2; omega
  unfold fX11_findTable
  have kl : cD S _ = 21 := hL.1
  simp only [grd, bnd, cal, onn, hF.1, hF.2.2.2.2.2.2.1, kl, ev_size n hL, ev_within, if_true]
  rw [ix_is hn, ← hO.1]
  cases hb : ixB (mI x 13) t
  · simp [bI]
  · obtain ⟨j, hj, rfl⟩ := ixB_of hO hb (by decide)
    have ek : cD S (M 2 j) = 9 := list_el hL hj
    have hj2 : j < 2 ^ 31 := by omega
    simp [bI, ev_get n hL hj, ek, nI_clamp hj2]
theorem ev_findFamily (n : Nat × Nat) (h : Rep ae k M x S) (t : Int32) : fX11_findFamily n S (M 0 0) t = some (if ixB (mI x 16) t then some (M 5 t.toNatClampNeg) else none) := by
  have hO := (g_rOk h).2.2.2.1
  have hL := (g_rFamL h).1
  have hF := g_rFix h
  have hn : nN x 16 < 2 ^ 31 := by have := hO.2; omega
  unfold fX11_findFamily
  have kl : cD S _ = 22 := hL.1
  simp only [grd, bnd, cal, onn, hF.1, hF.2.2.2.2.2.2.2.1, kl, ev_size n hL, ev_within, if_true]
  rw [ix_is hn, ← hO.1]
  cases hb : ixB (mI x 16) t
  · simp [bI]
  · obtain ⟨j, hj, rfl⟩ := ixB_of hO hb (by decide)
    have ek : cD S (M 5 j) = 1 := list_el hL hj
    have hj2 : j < 2 ^ 31 := by omega
    simp [bI, ev_get n hL hj, ek, nI_clamp hj2]
theorem st_status (n : Nat × Nat) (h : Rep ae k M x S) : fX11_status n S (M 0 0) = some (mI x 1) := by
  simp [fX11_status, grd, bnd, (g_rSta h).1, (g_rSta h).2]
theorem st_fault (n : Nat × Nat) (h : Rep ae k M x S) : fX11_fault n S (M 0 0) = some (mI x 63) := by
  have hF := g_rFix h
  have hT := g_rTap h
  simp [fX11_fault, grd, bnd, onn, hF.1, hF.2.2.2.2.2.2.2.2.2.1, hT.1, hT.2.2.2.2.1]
theorem st_contents (n : Nat × Nat) (h : Rep ae k M x S) (a b : Int32) : ∃ T, fX11_contents n S (M 0 0) a b = some ((contentsF x a b).1, T) ∧ Rep ae (k + 1) M (contentsF x a b).2 T := by
  have hF := g_rFix h
  have hC := g_rCon h
  cases h1 : isB a 0 9
  · exact ⟨uI S 251 (M 0 0) (-1), by simp [fX11_contents, contentsF, grd, bnd, cal, un2, ev_kind, ev_within, h1, bI, hF.1, ev_refuse _ hF.1], by simp only [contentsF, h1, Bool.false_and]; exact rep_no (by decide) h⟩
  · cases h2 : isB b 0 255
    · exact ⟨uI S 251 (M 0 0) (-1), by simp [fX11_contents, contentsF, grd, bnd, cal, un2, ev_kind, ev_within, h1, h2, bI, hF.1, ev_refuse _ hF.1], by simp only [contentsF, h1, h2, Bool.and_false]; exact rep_no (by decide) h⟩
    · obtain ⟨j, hj, rfl⟩ := isB_nI h1 (n := 10) (by decide) (by decide)
      have ej : (nI j).toNatClampNeg = j := nI_clamp (by omega)
      have hv : vp_in (nI j) 10 := vp_in_nI hj (by decide)
      refine ⟨uI (uA S 40 (M 0 1) j b) 251 (M 0 0) 0, ?_, ?_⟩
      · have hd2 : cD (uA S 40 (M 0 1) j b) (M 0 0) = 12 := hF.1
        have hv' : ¬ (nI j < 0 ∨ cN S (M 0 1) ≤ (nI j).toNatClampNeg) := by rw [hC.2.1]; exact hv
        simp only [fX11_contents, contentsF, grd, bnd, cal, un2, onn, ev_kind, ev_within, h1, h2, bI, hF.1, hF.2.2.2.2.1, hC.1, if_true, ej] at hv' ⊢
        simp [hv', ev_accept _ hd2]
      · simp only [contentsF, h1, h2, Bool.and_self, if_true, ej]
        refine rep_yes (by decide) ?_
        obtain ⟨hB, hOk, hLim, hNew, hSum, hWho, hFix, hNum, hSta, hCon, hLotL, hLot, hCha, hWei, hTabL, hTab, hWan, hGot, hLoa, hFamL, hFam, hHad, hRef, hParL, hPar, hTap, hRul, hVan, hRoa, hSto⟩ := h
        have hk := keep_uA S 40 (M 0 1) j b
        exact ⟨hB,
    k_rOk rfl rfl rfl rfl rfl rfl rfl rfl rfl rfl rfl rfl rfl rfl hOk,
    k_rLim rfl rfl rfl rfl rfl rfl rfl rfl rfl rfl rfl rfl rfl rfl rfl rfl hLim,
    k_rNew rfl rfl rfl rfl rfl hNew,
    k_rSum rfl rfl rfl rfl rfl rfl rfl hSum,
    k_rWho rfl rfl rfl rfl rfl rfl rfl rfl rfl rfl rfl hWho,
    k_rFix hk rfl hFix,
    k_rNum hk rfl rfl rfl rfl hNum,
    k_rSta hk rfl rfl hSta,
    ⟨hCon.1, hCon.2.1, fun q hq => by
      rw [cA_uA, set1_s, set1_s]
      show va_up _ j b q = upd (mA x 3) j b q
      by_cases e : q = j
      · simp [va_up, upd, e]
      · simp [va_up, upd, e, hCon.2.2 q hq]⟩,
    k_rLotL hk rfl rfl rfl rfl hLotL,
    k_rLot hk rfl rfl rfl rfl rfl rfl rfl rfl rfl rfl hLot,
    k_rCha hk rfl rfl rfl rfl rfl hCha,
    k_rWei hk rfl rfl rfl rfl rfl rfl rfl hWei,
    k_rTabL hk rfl rfl rfl rfl hTabL,
    k_rTab hk rfl rfl hTab,
    k_rWan hk rfl rfl rfl hWan,
    k_rGot hk rfl rfl rfl hGot,
    k_rLoa hk rfl rfl rfl rfl hLoa,
    k_rFamL hk rfl rfl rfl rfl hFamL,
    k_rFam hk rfl rfl rfl rfl rfl hFam,
    k_rHad hk rfl rfl rfl rfl rfl rfl rfl rfl hHad,
    k_rRef hk rfl rfl rfl rfl rfl rfl rfl rfl hRef,
    k_rParL hk rfl rfl rfl rfl hParL,
    k_rPar hk rfl rfl rfl rfl rfl rfl rfl rfl rfl rfl rfl hPar,
    k_rTap hk rfl rfl rfl rfl rfl hTap,
    k_rRul hk rfl rfl rfl rfl rfl rfl rfl rfl hRul,
    k_rVan hk rfl hVan,
    k_rRoa hk rfl rfl rfl hRoa,
    k_rSto hk rfl rfl rfl rfl hSto⟩
end ACC
