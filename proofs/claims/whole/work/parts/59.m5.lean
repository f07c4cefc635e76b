/-! PURE: given, road -/
section M5
variable {ae k : Nat} {M : Nat → Nat → Nat} {x : MS} {S : CS}
theorem n10 : ¬ (1 : Int32) = 0 := by decide
theorem ev_given_lp (n : Nat × Nat) (hn : 30000 ≤ n.1) (h : Rep ae k M x S) (gi kn : Int32) : ∀ (d i fuel : Nat), i + d = nN x 4 → d < fuel → fX7_givenBy_lp5 n S (M 0 2) gi kn fuel (givN x gi kn i) (nI i) = some (givN x gi kn (nN x 4))
  | d, i, 0, _, hf => absurd hf (Nat.not_lt_zero _)
  | d, i, fuel + 1, hi, hf => by
    have hO := (g_rOk h).2.1
    have h200 := hO.2
    have hL := (g_rLotL h).1
    have hF := g_rFix h
    unfold fX7_givenBy_lp5
    have kl : cD S (M 0 3) = 20 := hL.1
    simp only [grd, bnd, cal, onn, hF.2.1, hF.2.2.2.2.2.2.2.2.2.2.2.1, kl, ev_size n hL, if_true]
    cases d with
    | zero =>
      rw [if_pos (nI_le (by omega) (by omega)), show i = nN x 4 by omega]
    | succ d =>
      have hlt : i < nN x 4 := by omega
      have hl := g_rLot h i hlt
      rw [if_neg (nI_ge hlt (by omega))]
      simp only [ev_get n hL hlt, hl.1, hl.2.2.2.2.2.1, if_true, ev_known n hn h hlt]
      have ih := ev_given_lp n hn h gi kn d (i + 1) fuel (by omega) (by omega)
      rw [← nI_1] at ih
      have st : givN x gi kn (i + 1) = givN x gi kn i + if mA x 8 i = gi then (wN x i kn (nN x 65)).toInt64 else 0 := rfl
      by_cases c : mA x 8 i = gi
      · rw [if_pos c]
        rw [st, if_pos c] at ih
        exact ih
      · rw [if_neg c]
        rw [st, if_neg c, Int64.add_zero] at ih
        exact ih
theorem st_given (n : Nat × Nat) (hn : 30000 ≤ n.1) (h : Rep ae k M x S) (a b : Int32) : fX11_given n S (M 0 0) a b = some (givenF x a b) := by
  have hF := g_rFix h
  unfold fX11_given givenF
  simp only [bnd, ev_within]
  cases h1 : isB a 0 19
  · simp [bI]
  · cases h2 : isB b 0 100000
    · simp [bI]
    · have lp := ev_given_lp n hn h a b (nN x 4) 0 n.1 (by omega) (by have := (g_rOk h).2.1.2; omega)
      rw [show givN x a b 0 = 0 from rfl, nI_0] at lp
      simp only [bI, grd, onn, cal, fX7_givenBy, bnd, hF.1, hF.2.1, hF.2.2.2.2.2.1, if_true, lp, Bool.and_self, if_neg n10]
theorem st_road (n : Nat × Nat) (h : Rep ae k M x S) (a b c : Int32) : ∃ T, fX11_road n S (M 0 0) a b c = some ((roadF x a b c).1, T) ∧ Rep ae (k + 1) M (roadF x a b c).2 T := by
  have hF := g_rFix h
  cases h1 : isB a 0 12
  · exact ⟨uI S 251 (M 0 0) (-1), by simp [fX11_road, roadF, grd, bnd, cal, un2, ev_within, h1, bI, hF.1, ev_refuse _ hF.1], by simp only [roadF, h1, Bool.false_and]; exact rep_no (by decide) h⟩
  · cases h2 : isB b 0 12
    · exact ⟨uI S 251 (M 0 0) (-1), by simp [fX11_road, roadF, grd, bnd, cal, un2, ev_within, h1, h2, bI, hF.1, ev_refuse _ hF.1], by simp only [roadF, h1, h2, Bool.and_false, Bool.false_and]; exact rep_no (by decide) h⟩
    · by_cases h3 : a = b
      · exact ⟨uI S 251 (M 0 0) (-1), by simp [fX11_road, roadF, grd, bnd, cal, un2, ev_within, h2, h3, bI, hF.1, ev_refuse _ hF.1], by simp only [roadF, h1, h2, h3, decide_true, Bool.not_true, Bool.and_false, Bool.false_and]; exact rep_no (by decide) h⟩
      · cases h4 : isB c 0 600
        · exact ⟨uI S 251 (M 0 0) (-1), by simp [fX11_road, roadF, grd, bnd, cal, un2, ev_within, h1, h2, h3, h4, bI, hF.1, ev_refuse _ hF.1], by simp only [roadF, h4, Bool.and_false]; exact rep_no (by decide) h⟩
        · obtain ⟨i, hi, rfl⟩ := isB_nI h1 (n := 13) (by decide) (by decide)
          obtain ⟨j, hj, rfl⟩ := isB_nI h2 (n := 13) (by decide) (by decide)
          have hij : i ≠ j := fun e => h3 (by rw [e])
          have ei : (nI i).toNatClampNeg = i := nI_clamp (by omega)
          have ej : (nI j).toNatClampNeg = j := nI_clamp (by omega)
          have e13 : ∀ p q : Nat, p < 13 → q < 13 → (13 * nI p + nI q).toNatClampNeg = 13 * p + q := fun p q hp hq => by
            rw [show (13 : Int32) = nI 13 from rfl, pk_mul, nI_add, nI_clamp (by omega)]
          obtain ⟨r1, r2, r3, r4⟩ := g_rRoa h
          have hV := g_rVan h
          have qi := r4 i hi
          have qj := r4 j hj
          have gi : ¬ (nI i < 0 ∨ 13 ≤ i) := by have := vp_in_nI hi (N := 13) (by decide); unfold vp_in at this; rw [ei] at this; exact this
          have gj : ¬ (nI j < 0 ∨ 13 ≤ j) := by have := vp_in_nI hj (N := 13) (by decide); unfold vp_in at this; rw [ej] at this; exact this
          obtain ⟨S1, eS1⟩ : ∃ z, z = uA S 55 (M 12 i) j c := ⟨_, rfl⟩
          obtain ⟨S2, eS2⟩ : ∃ z, z = uA S1 55 (M 12 j) i c := ⟨_, rfl⟩
          have hk1 : keep S S1 [] [] [55] [] := by rw [eS1]; exact keep_uA S _ _ _ _
          have hk : keep S S2 [] [] [55] [] := by
            rw [eS2]
            exact kpre (keep_tr hk1 (keep_uA S1 _ _ _ _)) (by simp) (by simp) (by simp) (by simp)
          have sD : ∀ q, cD S1 q = cD S q := fun q => by rw [eS1]; rfl
          have sD2 : ∀ q, cD S2 q = cD S q := fun q => by rw [eS2]; exact sD q
          have sR : ∀ g q, cR S1 g q = cR S g q := fun g q => by rw [eS1]; rfl
          have sQ : ∀ g q p, cQ S1 g q p = cQ S g q p := fun g q p => by rw [eS1]; rfl
          have sN : ∀ q, cN S1 q = cN S q := fun q => by rw [eS1]; rfl
          refine ⟨uI S2 251 (M 0 0) 0, ?_, ?_⟩
          · have hd2 : cD S2 (M 0 0) = 12 := (sD2 _).trans hF.1
            simp only [fX11_road, roadF, grd, bnd, cal, un2, onn, ev_within, h1, h2, h3, h4, bI, hF.1, hF.2.2.2.2.2.2.2.2.2.2.1, hV.1, hV.2.1, r1, r2, qi.1, qi.2.1, qi.2.2.1, ei, ej, if_true, ← eS1, sD, sR, sN, sQ, qj.1, qj.2.1, qj.2.2.1, ← eS2, decide_false, Bool.not_false, Bool.and_self, if_false]
            simp only [if_neg n10, if_pos gi, if_pos gj, ev_accept _ hd2]
          · simp only [roadF, h1, h2, h3, h4, decide_false, Bool.not_false, Bool.and_self, if_true]
            refine rep_yes (by decide) ?_
            have e42 : ∀ p q, p < 13 → q < 13 → mA (roadX x (nI i) (nI j) c) 42 (13 * p + q) = if (p = i ∧ q = j) ∨ (p = j ∧ q = i) then c else mA x 42 (13 * p + q) := fun p q hp hq => by
              show upd (upd (mA x 42) (13 * nI i + nI j).toNatClampNeg c) (13 * nI j + nI i).toNatClampNeg c (13 * p + q) = _
              rw [e13 i j hi hj, e13 j i hj hi]
              by_cases c1 : p = j ∧ q = i
              · rw [if_pos (Or.inr c1), c1.1, c1.2, pk_us]
              · rw [pk_un (by omega)]
                by_cases c2 : p = i ∧ q = j
                · rw [if_pos (Or.inl c2), c2.1, c2.2, pk_us]
                · rw [pk_un (by omega), if_neg (fun z => z.elim c2 c1)]
            have eA : ∀ p q, p < 13 → q < 13 → cA S2 55 (M 12 p) q = if (p = i ∧ q = j) ∨ (p = j ∧ q = i) then c else mA x 42 (13 * p + q) := fun p q hp hq => by
              rw [eS2, cA_uA, set1_s]
              by_cases c1 : p = j
              · subst c1
                rw [set1_s]
                by_cases c2 : q = i
                · rw [if_pos (Or.inr ⟨rfl, c2⟩), c2]; exact pk_us
                · rw [if_neg (fun z => z.elim (fun z => hij z.1.symm) (fun z => c2 z.2))]
                  rw [pk_un c2]
                  rw [eS1, cA_uA, set1_s, set1_n _ _ (fun z => hij (r3 p i hp hi z).symm)]
                  exact ((r4 p hp).2.2.2 q hq).1
              · rw [set1_n _ _ (fun z => c1 (r3 p j hp hj z)), eS1, cA_uA, set1_s]
                by_cases c3 : p = i
                · subst c3
                  rw [set1_s]
                  by_cases c2 : q = j
                  · rw [if_pos (Or.inl ⟨rfl, c2⟩), c2]; exact pk_us
                  · rw [if_neg (fun z => z.elim (fun z => c2 z.2) (fun z => c1 z.1))]
                    rw [pk_un c2]
                    exact ((r4 p hp).2.2.2 q hq).1
                · rw [set1_n _ _ (fun z => c3 (r3 p i hp hi z)), if_neg (fun z => z.elim (fun z => c3 z.1) (fun z => c1 z.1))]
                  exact ((r4 p hp).2.2.2 q hq).1
            obtain ⟨hB, hOk, hLim, hNew, hSum, hWho, hFix, hNum, hSta, hCon, hLotL, hLot, hCha, hWei, hTabL, hTab, hWan, hGot, hLoa, hFamL, hFam, hHad, hRef, hParL, hPar, hTap, hRul, hVan, hRoa, hSto⟩ := h
            have hB' : frsh S2 ∧ cD S2 ae = 0 ∧ ae < nx S2 := ⟨fun q hq => by rw [sD2]; exact hB.1 q (by rw [eS2, eS1] at hq; exact hq), by rw [sD2]; exact hB.2.1, by rw [eS2, eS1]; exact hB.2.2⟩
            exact ⟨hB',
    k_rOk rfl rfl rfl rfl rfl rfl rfl rfl rfl rfl rfl rfl rfl rfl hOk,
    k_rLim rfl rfl rfl rfl rfl rfl rfl rfl rfl rfl rfl rfl rfl rfl rfl rfl hLim,
    k_rNew rfl rfl rfl rfl rfl hNew,
    k_rSum rfl rfl rfl rfl rfl rfl rfl hSum,
    k_rWho rfl rfl rfl rfl rfl rfl rfl rfl rfl rfl rfl hWho,
    k_rFix hk rfl hFix,
    k_rNum hk rfl rfl rfl rfl hNum,
    k_rSta hk rfl rfl hSta,
    k_rCon hk rfl rfl hCon,
    k_rLotL hk rfl rfl rfl rfl hLotL,
    k_rLot hk rfl rfl rfl rfl rfl rfl rfl rfl rfl rfl hLot,
    k_rCha hk rfl rfl rfl rfl rfl hCha,
    k_rWei hk rfl rfl rfl rfl rfl rfl rfl hWei,
    k_rTabL hk rfl rfl rfl rfl hTabL,
    k_rTab hk rfl rfl hTab,
    k_rWan hk rfl rfl rfl hWan,
    k_rGot hk rfl rfl rfl hGot,
    k_rLoa hk rfl rfl rfl rfl hLoa,
    k_rFamL hk rfl rfl rfl rfl hFamL,
    k_rFam hk rfl rfl rfl rfl rfl hFam,
    k_rHad hk rfl rfl rfl rfl rfl rfl rfl rfl hHad,
    k_rRef hk rfl rfl rfl rfl rfl rfl rfl rfl hRef,
    k_rParL hk rfl rfl rfl rfl hParL,
    k_rPar hk rfl rfl rfl rfl rfl rfl rfl rfl rfl rfl rfl hPar,
    k_rTap hk rfl rfl rfl rfl rfl hTap,
    k_rRul hk rfl rfl rfl rfl rfl rfl rfl rfl hRul,
    k_rVan hk rfl hVan,
    ⟨kD hk r1 (by decide), kN hk r1 (by decide) r2, r3, fun p hp => ⟨kQ hk r1 (by decide) (by decide) p (r4 p hp).1, kD hk (r4 p hp).2.1 (by decide), kN hk (r4 p hp).2.1 (by decide) (r4 p hp).2.2.1, fun q hq => by
      rw [eA p q hp hq, e42 p q hp hq, e42 q p hq hp]
      refine ⟨rfl, ?_, ?_⟩
      · by_cases c1 : (p = i ∧ q = j) ∨ (p = j ∧ q = i)
        · rw [if_pos c1, if_pos (c1.elim (fun z => Or.inr ⟨z.2, z.1⟩) (fun z => Or.inl ⟨z.2, z.1⟩))]
        · rw [if_neg c1, if_neg (fun z => c1 (z.elim (fun z => Or.inr ⟨z.2, z.1⟩) (fun z => Or.inl ⟨z.2, z.1⟩)))]
          exact ((r4 p hp).2.2.2 q hq).2.1
      · by_cases c1 : (p = i ∧ q = j) ∨ (p = j ∧ q = i)
        · rw [if_pos c1]; exact h4
        · rw [if_neg c1]; exact ((r4 p hp).2.2.2 q hq).2.2⟩⟩,
    k_rSto hk rfl rfl rfl rfl hSto⟩
end M5
