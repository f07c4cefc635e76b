/-! PURE: a byte on the tape -/
section M12
variable {ae k : Nat} {M : Nat → Nat → Nat} {x : MS} {S : CS}
theorem byte_rep (h : Rep ae k M x S) (hlt : nN x 58 < 400) {b : Int32} (hb : isB b 0 255 = true) : Rep ae k M (sI (sA x 57 (upd (mA x 57) (nN x 58) b)) 58 (nI (nN x 58 + 1))) (uI (uA S 60 (M 0 9) (nN x 58) b.toInt8.toInt32) 124 (M 0 8) (nI (nN x 58 + 1))) := by
  have hx : nN (sI (sA x 57 (upd (mA x 57) (nN x 58) b)) 58 (nI (nN x 58 + 1))) 58 = nN x 58 + 1 := by
    show (upd x.1 58 (nI (nN x 58 + 1)) 58).toNatClampNeg = _
    rw [show ∀ v, upd x.1 58 v 58 = v from fun v => if_pos rfl, nI_clamp (by omega)]
  have hB' := g_rBase h
  have hk : keep S (uI (uA S 60 (M 0 9) (nN x 58) b.toInt8.toInt32) 124 (M 0 8) (nI (nN x 58 + 1))) [124] [] [60] [] := kpre (keep_tr (keep_uA S 60 (M 0 9) (nN x 58) b.toInt8.toInt32) (keep_uI _ 124 (M 0 8) (nI (nN x 58 + 1)))) (by simp) (by simp) (by simp) (by simp)
  obtain ⟨hB, hOk, hLim, hNew, hSum, hWho, hFix, hNum, hSta, hCon, hLotL, hLot, hCha, hWei, hTabL, hTab, hWan, hGot, hLoa, hFamL, hFam, hHad, hRef, hParL, hPar, hTap, hRul, hVan, hRoa, hSto⟩ := h
  exact ⟨hB',
    by
      obtain ⟨q0, q1, q2, q3, q4, q5, q6, q7⟩ := hOk
      exact ⟨q0, q1, q2, q3, q4, q5, ⟨by show nI (nN x 58 + 1) = nI _; rw [hx], by rw [hx]; omega⟩, q7⟩,
    k_rLim rfl rfl rfl rfl rfl rfl rfl rfl rfl rfl rfl rfl rfl rfl rfl rfl hLim,
    k_rNew rfl rfl rfl rfl rfl hNew,
    k_rSum rfl rfl rfl rfl rfl rfl rfl hSum,
    k_rWho rfl rfl rfl rfl rfl rfl rfl rfl rfl rfl rfl hWho,
    k_rFix hk rfl hFix,
    k_rNum hk rfl rfl rfl rfl hNum,
    k_rSta hk rfl rfl hSta,
    k_rCon hk rfl rfl hCon,
    k_rLotL hk rfl rfl rfl rfl hLotL,
    k_rLot hk rfl rfl rfl rfl rfl rfl rfl rfl rfl rfl hLot,
    k_rCha hk rfl rfl rfl rfl rfl hCha,
    k_rWei hk rfl rfl rfl rfl rfl rfl rfl hWei,
    k_rTabL hk rfl rfl rfl rfl hTabL,
    k_rTab hk rfl rfl hTab,
    k_rWan hk rfl rfl rfl hWan,
    k_rGot hk rfl rfl rfl hGot,
    k_rLoa hk rfl rfl rfl rfl hLoa,
    k_rFamL hk rfl rfl rfl rfl hFamL,
    k_rFam hk rfl rfl rfl rfl rfl hFam,
    k_rHad hk rfl rfl rfl rfl rfl rfl rfl rfl hHad,
    k_rRef hk rfl rfl rfl rfl rfl rfl rfl rfl hRef,
    k_rParL hk rfl rfl rfl rfl hParL,
    k_rPar hk rfl rfl rfl rfl rfl rfl rfl rfl rfl rfl rfl hPar,
    by
      refine ⟨hTap.1, hTap.2.1, hTap.2.2.1, ?_, ?_, fun i hi => ?_⟩
      · rw [cI_uI, set1_s, set1_s]; rfl
      · rw [cI_uI, set1_n _ _ (by decide)]; exact hTap.2.2.2.2.1
      · rw [hx] at hi
        show isB (upd (mA x 57) (nN x 58) b i) 0 255 = true ∧ _ = (upd (mA x 57) (nN x 58) b i).toInt8.toInt32
        rw [cA_uI, cA_uA, set1_s, set1_s]
        by_cases e : i = nN x 58
        · rw [e, pk_us, pk_us]; exact ⟨hb, rfl⟩
        · rw [pk_un e, pk_un e]; exact hTap.2.2.2.2.2 i (by omega),
    k_rRul hk rfl rfl rfl rfl rfl rfl rfl rfl hRul,
    k_rVan hk rfl hVan,
    k_rRoa hk rfl rfl rfl hRoa,
    k_rSto hk rfl rfl rfl rfl hSto⟩
theorem and255 (w : Int32) : isB (w &&& 255) 0 255 = true := by
  rw [pk_and w (m := 255) 8 (by decide)]
  have : w.toBitVec.toNat % 2 ^ 8 < 256 := Nat.mod_lt _ (by decide)
  simp only [isB, Bool.and_eq_true, decide_eq_true_eq]
  exact ⟨nI_le (a := 0) (Nat.zero_le _) (by omega), nI_le (b := 255) (by omega) (by decide)⟩
theorem and255_8 (w : Int32) : (w &&& 255).toInt8 = w.toInt8 := by
  rw [Int32.toInt8_and]
  have : (255 : Int32).toInt8 = -1 := by decide
  rw [this]
  exact Int8.and_neg_one
end M12
