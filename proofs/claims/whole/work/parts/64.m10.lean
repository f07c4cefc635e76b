/-! PURE: days go by -/
theorem cntP_mono {f g : Nat → Int32} (n : Nat) (h : ∀ i, g i ≤ 0 → f i ≤ 0) : cntP f n ≤ cntP g n := by
  induction n with
  | zero => exact Nat.le_of_eq ((itN_0 _ _).trans (itN_0 _ _).symm)
  | succ n ih =>
    rw [cntP_s, cntP_s]
    by_cases c : g n ≤ 0
    · rw [if_pos c, if_pos (h n c)]; exact ih
    · rw [if_neg c]
      split <;> omega
theorem i32_add {a b : Int32} (h1 : -2147483648 ≤ a.toInt + b.toInt) (h2 : a.toInt + b.toInt < 2147483648) : (a + b).toInt = a.toInt + b.toInt := by
  rw [Int32.toInt_add]
  exact Int.bmod_eq_of_le (by omega) (by omega)
section M10
variable {ae k : Nat} {M : Nat → Nat → Nat} {x : MS} {S : CS}
theorem go_rep (h : Rep ae k M x S) {T : CS} {t : Int32} (ht5 : isB t 0 500 = true) (hk : keep S T [248, 65, 68] [] [] []) (fT : frsh T) (h248 : cI T 248 (M 0 0) = t) (hL : ∀ i, i < nN x 4 → cI T 65 (M 1 i) = (if i < nN x 4 ∧ ¬ t ≤ mA x 7 i then 0 else mA x 9 i) ∧ cI T 68 (M 1 i) = (if i < nN x 4 ∧ ¬ t ≤ mA x 7 i then mA x 12 i + mA x 9 i else mA x 12 i)) : Rep ae k M (goX x t (nN x 4)) T := by
  obtain ⟨hB, hOk, hLim, hNew, hSum, hWho, hFix, hNum, hSta, hCon, hLotL, hLot, hCha, hWei, hTabL, hTab, hWan, hGot, hLoa, hFamL, hFam, hHad, hRef, hParL, hPar, hTap, hRul, hVan, hRoa, hSto⟩ := h
  exact ⟨⟨fT, by rw [hk.1.1.2 ae hB.2.2]; exact hB.2.1, by have := hk.1.1.1; omega⟩,
    by
      obtain ⟨q0, q1, q2, q3, q4, q5, q6, q7, q8, q9, q10, q11, q12, q13⟩ := hOk
      refine ⟨q0, q1, q2, q3, q4, q5, q6, q7, q8, ht5, q10, q11, ?_, q13⟩
      show nN x 37 + cntP (mA (goX x t (nN x 4)) 9) (nN x 4) ≤ 11 * k
      have : cntP (mA (goX x t (nN x 4)) 9) (nN x 4) ≤ cntP (mA x 9) (nN x 4) := cntP_mono _ (fun i hi => by
        show (if i < nN x 4 ∧ ¬ t ≤ mA x 7 i then 0 else mA x 9 i) ≤ 0
        split
        · decide
        · exact hi)
      have q12 : nN x 37 + cntP (mA x 9) (nN x 4) ≤ 11 * k := q12
      omega,
    ⟨fun j => by
      show 0 ≤ (if j < nN x 4 ∧ ¬ t ≤ mA x 7 j then 0 else mA x 9 j)
      split
      · decide
      · exact hLim.1 j, fun i hi => by
      have q := hLim.2.1 i hi
      refine ⟨q.1, q.2.1, q.2.2.1, q.2.2.2.1, ?_, ?_, q.2.2.2.2.2.2.1, q.2.2.2.2.2.2.2.1, ?_⟩
      · show isB (if i < nN x 4 ∧ ¬ t ≤ mA x 7 i then 0 else mA x 9 i) 0 1000000 = true
        split
        · decide
        · exact q.2.2.2.2.1
      · show (mA x 6 i).toInt = (if i < nN x 4 ∧ ¬ t ≤ mA x 7 i then 0 else mA x 9 i).toInt + (mA x 10 i).toInt + (mA x 11 i).toInt + (if i < nN x 4 ∧ ¬ t ≤ mA x 7 i then mA x 12 i + mA x 9 i else mA x 12 i).toInt
        by_cases c : i < nN x 4 ∧ ¬ t ≤ mA x 7 i
        · rw [if_pos c, if_pos c]
          have hs : (mA x 12 i + mA x 9 i).toInt = (mA x 12 i).toInt + (mA x 9 i).toInt := by
            have b1 := q.2.1
            have b3 := q.2.2.2.2.1
            obtain ⟨z1, z2, z3⟩ := q.2.2.2.2.2.2
            have z0 : (0 : Int32).toInt = 0 := by decide
            have zm : (1000000 : Int32).toInt = 1000000 := by decide
            have ee := q.2.2.2.2.2.1
            simp only [isB, Bool.and_eq_true, decide_eq_true_eq, Int32.le_iff_toInt_le] at b1 b3 z1 z2 z3
            exact i32_add (by omega) (by omega)
          rw [hs]
          have z0 : (0 : Int32).toInt = 0 := by decide
          have := q.2.2.2.2.2.1
          omega
        · rw [if_neg c, if_neg c]; exact q.2.2.2.2.2.1
      · show 0 ≤ (if i < nN x 4 ∧ ¬ t ≤ mA x 7 i then mA x 12 i + mA x 9 i else mA x 12 i)
        by_cases c : i < nN x 4 ∧ ¬ t ≤ mA x 7 i
        · rw [if_pos c]
          have b1 := q.2.1
          have b3 := q.2.2.2.2.1
          obtain ⟨z1, z2, z3⟩ := q.2.2.2.2.2.2
          have z0 : (0 : Int32).toInt = 0 := by decide
          have zm : (1000000 : Int32).toInt = 1000000 := by decide
          have ee := q.2.2.2.2.2.1
          simp only [isB, Bool.and_eq_true, decide_eq_true_eq, Int32.le_iff_toInt_le] at b1 b3 z1 z2 z3 ⊢
          rw [i32_add (by omega) (by omega)]
          omega
        · rw [if_neg c]; exact q.2.2.2.2.2.2.2.2, hLim.2.2⟩,
    fun j hj => by
      have hj : nN x 4 ≤ j := hj
      have q := hNew j hj
      refine ⟨q.1, q.2.1, ?_, ?_⟩
      · show (if j < nN x 4 ∧ ¬ t ≤ mA x 7 j then mA x 12 j + mA x 9 j else mA x 12 j) = 0
        rw [if_neg (by omega)]; exact q.2.2.1
      · show (if j < nN x 4 ∧ ¬ t ≤ mA x 7 j then 0 else mA x 9 j) = 0
        rw [if_neg (by omega)]; exact q.2.2.2,
    k_rSum rfl rfl rfl rfl rfl rfl rfl hSum,
    k_rWho rfl rfl rfl rfl rfl rfl rfl rfl rfl rfl rfl hWho,
    k_rFix hk rfl hFix,
    ⟨kD hk hNum.1 (by decide), h248, kI hk hNum.1 (by decide) (by decide) hNum.2.2.1, kI hk hNum.1 (by decide) (by decide) hNum.2.2.2⟩,
    k_rSta hk rfl rfl hSta,
    k_rCon hk rfl rfl hCon,
    k_rLotL hk rfl rfl rfl rfl hLotL,
    fun i hi => by
      have q := hLot i hi
      have e := hL i hi
      exact ⟨kD hk q.1 (by decide), kI hk q.1 (by decide) (by decide) q.2.1, kI hk q.1 (by decide) (by decide) q.2.2.1, kI hk q.1 (by decide) (by decide) q.2.2.2.1, kI hk q.1 (by decide) (by decide) q.2.2.2.2.1, kI hk q.1 (by decide) (by decide) q.2.2.2.2.2.1, e.1, kI hk q.1 (by decide) (by decide) q.2.2.2.2.2.2.2.1, kI hk q.1 (by decide) (by decide) q.2.2.2.2.2.2.2.2.1, e.2⟩,
    k_rCha hk rfl rfl rfl rfl rfl hCha,
    k_rWei hk rfl rfl rfl rfl rfl rfl rfl hWei,
    k_rTabL hk rfl rfl rfl rfl hTabL,
    k_rTab hk rfl rfl hTab,
    k_rWan hk rfl rfl rfl hWan,
    k_rGot hk rfl rfl rfl hGot,
    k_rLoa hk rfl rfl rfl rfl hLoa,
    k_rFamL hk rfl rfl rfl rfl hFamL,
    k_rFam hk rfl rfl rfl rfl rfl hFam,
    k_rHad hk rfl rfl rfl rfl rfl rfl rfl rfl hHad,
    k_rRef hk rfl rfl rfl rfl rfl rfl rfl rfl hRef,
    k_rParL hk rfl rfl rfl rfl hParL,
    k_rPar hk rfl rfl rfl rfl rfl rfl rfl rfl rfl rfl rfl hPar,
    k_rTap hk rfl rfl rfl rfl rfl hTap,
    k_rRul hk rfl rfl rfl rfl rfl rfl rfl rfl hRul,
    k_rVan hk rfl hVan,
    k_rRoa hk rfl rfl rfl hRoa,
    k_rSto hk rfl rfl rfl rfl hSto⟩
end M10
