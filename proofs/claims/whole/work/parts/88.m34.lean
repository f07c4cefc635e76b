/-! PURE: part -/
def totN (gs : Nat → Nat) (t : Nat) : Nat := itN (fun i s => s + gs i) 0 t
theorem totN_s (gs : Nat → Nat) (t : Nat) : totN gs (t + 1) = totN gs t + gs t := rfl
theorem totN_0 (gs : Nat → Nat) : totN gs 0 = 0 := itN_0 _ _
theorem tot_is {x : MS} {kd : Nat} {L r : Int} {gs : Nat → Nat} (hgs : ∀ t, (gs t : Int) = shS x kd L r t) : ∀ t, (totN gs t : Int) = toS x kd L r t
  | 0 => by rw [totN_0, toS_0]; rfl
  | t + 1 => by
    have ih := tot_is hgs t
    rw [totN_s, toS_s, ← hgs t, ← ih]
    omega
theorem tot_mono (gs : Nat → Nat) (t : Nat) : ∀ d, totN gs t ≤ totN gs (t + d)
  | 0 => Nat.le_refl _
  | d + 1 => by
    have := tot_mono gs t d
    rw [← Nat.add_assoc, totN_s]
    omega
theorem tot_nil (gs : Nat → Nat) : ∀ t, totN gs t = 0 → ∀ i, i < t → gs i = 0
  | 0, _, i, hi => absurd hi (Nat.not_lt_zero _)
  | t + 1, h, i, hi => by
    rw [totN_s] at h
    rcases Nat.lt_or_ge i t with q | q
    · exact tot_nil gs t (by omega) i q
    · rw [show i = t by omega]; omega
def w14 (x : MS) (kd : Nat) (gs : Nat → Nat) (t : Nat) : Nat → Int32 := fun j => if j % 10 = kd ∧ j / 10 < t then mA x 14 j - nI (gs (j / 10)) else mA x 14 j
def w15 (x : MS) (kd : Nat) (gs : Nat → Nat) (t : Nat) : Nat → Int64 := fun j => if j % 10 = kd ∧ j / 10 < t then mB x 15 j + (nI (gs (j / 10))).toInt64 else mB x 15 j
def Kt (n : Nat × Nat) (x : MS) (kd : Nat) (gs : Nat → Nat) (t : Nat) (y : MS) : Prop := (∀ f, mI y f = mI x f) ∧ (∀ f, [9, 11, 14, 41].contains f = false → mA y f = mA x f) ∧ (∀ f, mL y f = mL x f) ∧ (∀ f, [15].contains f = false → mB y f = mB x f) ∧ (∀ i, i < nN x 13 → mA y 41 i = nI (gs i)) ∧ (mA y 9 = mA (giveN (nI kd) n.1 x (nI (totN gs t))) 9 ∧ mA y 11 = mA (giveN (nI kd) n.1 x (nI (totN gs t))) 11) ∧ mA y 14 = w14 x kd gs t ∧ mB y 15 = w15 x kd gs t
theorem all_lp (n : Nat × Nat) (hn : 30000 ≤ n.1) {x : MS} (o4 : okN x 4 200) (o13 : okN x 13 12) (o25 : okN x 25 30) (hLL : okL x) {kd : Nat} (hkd : kd < 10) {le : Int32} (hle : le = mI x 2 + spareN x (nI kd) (nN x 25)) {gs : Nat → Nat} (hg6 : ∀ t, gs t ≤ 1000000) (hA : (totN gs (nN x 13) : Int) ≤ aS x (nI kd) le (nN x 4)) : ∀ (d t fuel : Nat) (sum : Int32) (y : MS), t + d = nN x 13 → d < fuel → sum = nI (totN gs t) → Kt n x kd gs t y → ∃ y', fX12_part_lp298 n (nI kd) fuel sum (nI t) y = some (nI (totN gs (nN x 13)), y') ∧ Kt n x kd gs (nN x 13) y'
  | d, t, 0, _, _, _, hf, _, _ => absurd hf (Nat.not_lt_zero _)
  | d, t, fuel + 1, sum, y, hi, hf, hs, hK => by
    have h12 := o13.2
    have h200 := o4.2
    obtain ⟨kI, kA, kL, kB, k41, ⟨k9, k11⟩, k14, k15⟩ := hK
    unfold fX12_part_lp298
    have e13 : mI y 13 = nI (nN x 13) := by rw [kI 13]; exact o13.1
    by_cases hd : d = 0
    · have e : t = nN x 13 := by omega
      simp only [bnd, e13]
      rw [if_pos (nI_le (by omega) (by omega)), hs, e]
      rw [e] at k9 k11 k14 k15
      exact ⟨y, rfl, kI, kA, kL, kB, k41, ⟨k9, k11⟩, k14, k15⟩
    · have hlt : t < nN x 13 := by omega
      obtain ⟨e1, e2, e3⟩ := ix10 (t := t) (kd := kd) (by omega) hkd
      have et : (nI t).toNatClampNeg = t := nI_clamp (by omega)
      have ht : ¬ (nI t < 0 ∨ 12 ≤ t) := by
        have := vp_in_nI (n := t) (N := 12) (by omega) (by decide)
        unfold vp_in at this
        rw [et] at this
        exact this
      have mo := tot_mono gs (t + 1) (d - 1)
      rw [show t + 1 + (d - 1) = nN x 13 by omega] at mo
      have ts := totN_s gs t
      have ab := aS_b hLL.1 (nI kd) le (nN x 4) (Nat.le_refl _)
      have g6 := hg6 t
      obtain ⟨z, ez⟩ : ∃ q, q = giveN (nI kd) n.1 x (nI (totN gs t)) := ⟨_, rfl⟩
      rw [← ez] at k9 k11
      have hzK : Kg x z := by rw [ez]; exact Kg_giveN _ _ _ _ (Kg_rf x)
      have hzO := okL_giveN (nI kd) n.1 x (nI (totN gs t)) (by omega) hLL
      rw [← ez] at hzO
      have hcl : cntL x ≤ 200 := Nat.le_trans (cntP_le _ _) h200
      have et0 : (nI (totN gs t)).toInt = (totN gs t : Int) := nI_toInt (by omega)
      have egt : (nI (gs t)).toInt = (gs t : Int) := nI_toInt (by omega)
      have za : aS z (nI kd) le (nN x 4) = aS x (nI kd) le (nN x 4) - totN gs t := by
        rw [ez, giveN_aS n.1 x (nI (totN gs t)) (by omega) (okL_nng hLL) hle (by omega) (by omega) (by omega), et0]
      have yag : ag y z := ⟨(kI 2).trans (hzK.1 2).symm, (kI 4).trans (hzK.1 4).symm, (kI 25).trans (hzK.1 25).symm, (kA 5 rfl).trans (hzK.2.1 5 (by decide) (by decide)).symm, (kA 7 rfl).trans (hzK.2.1 7 (by decide) (by decide)).symm, (kA 26 rfl).trans (hzK.2.1 26 (by decide) (by decide)).symm, (kA 27 rfl).trans (hzK.2.1 27 (by decide) (by decide)).symm, (kA 28 rfl).trans (hzK.2.1 28 (by decide) (by decide)).symm, k9, k11⟩
      have yn : ∀ f, nN y f = nN x f := fun f => by unfold nN; rw [kI]
      have yok : ∀ f b, okN x f b → okN y f b := fun f b q => by unfold okN; rw [kI, yn]; exact q
      have ynn : nng y := fun i => by rw [k9]; exact okL_nng hzO.1 i
      have ysp : spareN y (nI kd) (nN y 25) = spareN x (nI kd) (nN x 25) := by
        unfold spareN
        rw [yn, kA 26 rfl, kA 27 rfl, kA 28 rfl]
      have yaS : aS y (nI kd) le (nN y 4) = aS z (nI kd) le (nN x 4) := by
        unfold aS
        rw [yn, kA 5 rfl, kA 7 rfl, k9, hzK.2.1 5 (by decide) (by decide), hzK.2.1 7 (by decide) (by decide)]
      have ycl : cntL y ≤ 200 := Nat.le_trans (cntP_le _ _) (by rw [yn]; exact h200)
      have gr := give_ref n hn (kd := nI kd) (le := le) n.1 y (nI (gs t)) (yok _ _ o4) (yok _ _ o25) ynn (by rw [kI 2, ysp]; exact hle) (by rw [yaS, za, egt]; omega) (by omega)
      have ag2 := ag_giveN (nI kd) n.1 y z (nI (gs t)) yag
      have sp := give_split (nI kd) n.1 n.1 n.1 x (nI (totN gs t)) (nI (gs t)) (by omega) (okL_nng hLL) (by omega) (by omega) (by omega) (by omega) (by omega) (by omega)
      rw [nI_add, ← ts, ← ez] at sp
      have hyK : Kg y (giveN (nI kd) n.1 y (nI (gs t))) := Kg_giveN _ _ _ _ (Kg_rf y)
      obtain ⟨y1, ey1⟩ : ∃ q, q = giveN (nI kd) n.1 y (nI (gs t)) := ⟨_, rfl⟩
      rw [← ey1] at gr ag2 hyK
      rw [← sp] at ag2
      obtain ⟨v4, ev4⟩ : ∃ q, q = mA y1 14 (10 * t + kd) - nI (gs t) := ⟨_, rfl⟩
      obtain ⟨y2, ey2⟩ : ∃ q, q = sA y1 14 (upd (mA y1 14) (10 * t + kd) v4) := ⟨_, rfl⟩
      obtain ⟨v5, ev5⟩ : ∃ q, q = mB y2 15 (10 * t + kd) + (nI (gs t)).toInt64 := ⟨_, rfl⟩
      obtain ⟨y3, ey3⟩ : ∃ q, q = sB y2 15 (vp_updL (mB y2 15) (10 * t + kd) v5) := ⟨_, rfl⟩
      have gv : fX12_give n y (nI t) (nI kd) (nI (gs t)) = some y3 := by
        simp only [fX12_give, cal, bnd, grd, gr, e1, e2, if_pos e3, ← ev4, ← ey2, ← ev5, ← ey3]
      have y14 : mA y1 14 = w14 x kd gs t := (hyK.2.1 14 (by decide) (by decide)).trans k14
      have y15 : mB y2 15 = w15 x kd gs t := by rw [ey2]; exact (hyK.2.2.2 15).trans k15
      have nk : Kt n x kd gs (t + 1) y3 := by
        refine ⟨fun f => ?_, fun f hf => ?_, fun f => ?_, fun f hf => ?_, fun i hi2 => ?_, ⟨?_, ?_⟩, ?_, ?_⟩
        · rw [ey3, ey2]; exact (hyK.1 f).trans (kI f)
        · have n9 : f ≠ 9 := fun q => by rw [q] at hf; exact absurd hf (by decide)
          have n11 : f ≠ 11 := fun q => by rw [q] at hf; exact absurd hf (by decide)
          have n14 : f ≠ 14 := fun q => by rw [q] at hf; exact absurd hf (by decide)
          rw [ey3, mA_sB, ey2, mA_sA, if_neg n14]
          exact (hyK.2.1 f n9 n11).trans (kA f hf)
        · rw [ey3, ey2]; exact (hyK.2.2.1 f).trans (kL f)
        · have n15 : f ≠ 15 := fun q => by rw [q] at hf; exact absurd hf (by decide)
          rw [ey3, mB_sB, if_neg n15, ey2, mB_sA]
          exact (hyK.2.2.2 f).trans (kB f hf)
        · rw [ey3, mA_sB, ey2, mA_sA, if_neg (by decide)]
          rw [hyK.2.1 41 (by decide) (by decide)]
          exact k41 i hi2
        · rw [ey3, mA_sB, ey2, mA_sA, if_neg (by decide)]
          exact ag2.2.2.2.2.2.2.2.2.1
        · rw [ey3, mA_sB, ey2, mA_sA, if_neg (by decide)]
          exact ag2.2.2.2.2.2.2.2.2.2
        · rw [ey3, mA_sB, ey2, mA_sA, if_pos rfl, ev4, y14]
          funext j
          by_cases e : j = 10 * t + kd
          · rw [e, pk_us]
            unfold w14
            have m1 : (10 * t + kd) % 10 = kd := by omega
            have m2 : (10 * t + kd) / 10 = t := by omega
            rw [m1, m2, if_neg (fun w => Nat.lt_irrefl _ w.2), if_pos ⟨rfl, Nat.lt_succ_self _⟩]
          · rw [pk_un e]
            unfold w14
            by_cases c : j % 10 = kd ∧ j / 10 < t
            · rw [if_pos c, if_pos ⟨c.1, by omega⟩]
            · rw [if_neg c, if_neg (fun w => c ⟨w.1, by omega⟩)]
        · rw [ey3, mB_sB, if_pos rfl, ev5, y15]
          funext j
          by_cases e : j = 10 * t + kd
          · rw [e]
            show (if 10 * t + kd = 10 * t + kd then _ else _) = _
            rw [if_pos rfl]
            unfold w15
            have m1 : (10 * t + kd) % 10 = kd := by omega
            have m2 : (10 * t + kd) / 10 = t := by omega
            rw [m1, m2, if_neg (fun w => Nat.lt_irrefl _ w.2), if_pos ⟨rfl, Nat.lt_succ_self _⟩]
          · show (if j = 10 * t + kd then _ else _) = _
            rw [if_neg e]
            unfold w15
            by_cases c : j % 10 = kd ∧ j / 10 < t
            · rw [if_pos c, if_pos ⟨c.1, by omega⟩]
            · rw [if_neg c, if_neg (fun w => c ⟨w.1, by omega⟩)]
      simp only [bnd, e13, if_neg (nI_ge hlt (show nN x 13 < 2 ^ 31 by omega)), grd, et, if_pos ht, k41 t hlt, cal, gv, nI_inc1]
      exact all_lp n hn o4 o13 o25 hLL hkd hle hg6 hA (d - 1) (t + 1) fuel _ y3 (by omega) (by omega) (by rw [hs, nI_add, ts]) nk
section M34
variable {ae k : Nat} {M : Nat → Nat → Nat} {x : MS} {S : CS}
theorem part_rep (n : Nat × Nat) (h : Rep ae k M x S) {kd : Nat} (hkd : kd < 10) {gs : Nat → Nat} (hsb : ∀ t, (gs t : Int) ≤ wnt x kd t ∧ wnt x kd t ≤ 1000000) {T1 T2 : CS} (hQ : QL M x S kd gs (nN x 13) T1) (k12 : keep T1 T2 [65, 67] [] [] []) (nT : nx T2 = nx T1) (cT : ∀ q, cD T2 q = cD T1 q) {Y : MS} (hK : Kt n x kd gs (nN x 13) Y) (hlotZ : rLot M (giveN (nI kd) n.1 x (nI (totN gs (nN x 13)))) T2) : Rep ae k M Y T2 := by
  obtain ⟨yI, yA, yL, yB, -, ⟨y9, y11⟩, y14, y15⟩ := hK
  have hZK : Kg x (giveN (nI kd) n.1 x (nI (totN gs (nN x 13)))) := Kg_giveN _ _ _ _ (Kg_rf x)
  have hZ := okL_giveN (nI kd) n.1 x (nI (totN gs (nN x 13))) (by have := (g_rOk h).2.1.2; omega) ⟨g_rLim h, g_rNew h⟩
  obtain ⟨Z, eZ⟩ : ∃ q, q = giveN (nI kd) n.1 x (nI (totN gs (nN x 13))) := ⟨_, rfl⟩
  rw [← eZ] at hZK hZ y9 y11 hlotZ
  have yN : ∀ f, nN Y f = nN x f := fun f => by unfold nN; rw [yI]
  have hk : keep S T2 [65, 67] [] [46, 47] [] := kpre (keep_tr hQ.1 k12) (by simp) (by simp) (by simp) (by simp)
  have nT2 : nx T2 = nx S := nT.trans hQ.2.1
  have fT2 : frsh T2 := fun q hq => by rw [cT, hQ.2.2.1]; exact (g_rBase h).1 q (by rw [← nT2]; exact hq)
  have kTe : cD T2 ae = 0 := by rw [cT, hQ.2.2.1]; exact (g_rBase h).2.1
  have a46 : ∀ t, t < nN x 13 → cA T2 46 (M 3 t) = cA T1 46 (M 3 t) := fun t ht => k12.2.2.2.1 46 (by simp) _ (by rw [hQ.2.2.1, ((g_rWan h).1 t ht).1]; decide)
  have a47 : ∀ t, t < nN x 13 → cA T2 47 (M 4 t) = cA T1 47 (M 4 t) := fun t ht => k12.2.2.2.1 47 (by simp) _ (by rw [hQ.2.2.1, ((g_rGot h).1 t ht).1]; decide)
  obtain ⟨hB, hOk, hLim, hNew, hSum, hWho, hFix, hNum, hSta, hCon, hLotL, hLot, hCha, hWei, hTabL, hTab, hWan, hGot, hLoa, hFamL, hFam, hHad, hRef, hParL, hPar, hTap, hRul, hVan, hRoa, hSto⟩ := h
  exact ⟨⟨fT2, kTe, by rw [nT2]; exact hB.2.2⟩,
    by
      obtain ⟨q0, q1, q2, q3, q4, q5, q6, q7, q8, q9, q10, q11, q12, q13⟩ := hOk
      have oc : ∀ f b, okN x f b → okN Y f b := fun f b hf => by unfold okN nN at hf ⊢; rw [yI]; exact hf
      have e35 : ∀ p, nA Y 35 p = nA x 35 p := fun p => by unfold nA; rw [yA 35 rfl]
      refine ⟨by rw [yI]; exact q0, oc _ _ q1, oc _ _ q2, oc _ _ q3, oc _ _ q4, oc _ _ q5, oc _ _ q6, oc _ _ q7, ⟨oc _ _ q8.1, by rw [yN]; exact q8.2⟩, by rw [yI]; exact q9, ⟨by rw [yN]; exact q10.1, fun p hp => ?_, fun p hp => ?_, fun q hq => ?_⟩, by rw [yI, yN]; exact q11, ?_, by rw [e35, yN, yN]; exact q13⟩
      · rw [yN] at hp; rw [e35, yN, yA 35 rfl]; exact q10.2.1 p hp
      · rw [yN] at hp; rw [e35, e35]; exact q10.2.2.1 p hp
      · rw [yN] at hq; rw [yA 38 rfl]; exact q10.2.2.2 q hq
      · have e1 : cntL Y = cntL Z := by unfold cntL; rw [yN, y9, Kg_nN hZK 4]
        have := hZ.2
        rw [e1, yN]; omega,
    by
      have zl := hZ.1.1
      have zf : ∀ f, f ≠ 9 → f ≠ 11 → mA Z f = mA x f := hZK.2.1
      refine ⟨fun j => by rw [y9]; exact zl.1 j, fun i hi => ?_, fun j => ?_, fun r hr => ?_, fun i hi => ?_⟩
      · rw [yN] at hi
        have q := zl.2.1 i (by rw [Kg_nN hZK 4]; exact hi)
        rw [zf 5 (by decide) (by decide), zf 6 (by decide) (by decide), zf 7 (by decide) (by decide), zf 8 (by decide) (by decide), zf 10 (by decide) (by decide), zf 12 (by decide) (by decide)] at q
        rw [yA 5 rfl, yA 6 rfl, yA 7 rfl, yA 8 rfl, y9, yA 10 rfl, y11, yA 12 rfl]
        exact q
      · rw [y14]
        show isB (if j % 10 = kd ∧ j / 10 < nN x 13 then mA x 14 j - nI (gs (j / 10)) else mA x 14 j) 0 1000000 = true
        by_cases c : j % 10 = kd ∧ j / 10 < nN x 13
        · rw [if_pos c]
          have e : 10 * (j / 10) + kd = j := by omega
          have b := hsb (j / 10)
          unfold wnt at b
          rw [e] at b
          have eg : (nI (gs (j / 10))).toInt = (gs (j / 10) : Int) := nI_toInt (by omega)
          have z0 : (0 : Int32).toInt = 0 := by decide
          have z6 : (1000000 : Int32).toInt = 1000000 := by decide
          simp only [isB, Bool.and_eq_true, decide_eq_true_eq, Int32.le_iff_toInt_le]
          rw [i32_sb (by omega) (by omega)]
          omega
        · rw [if_neg c]; exact hLim.2.2.1 j
      · rw [yN] at hr
        rw [yA 26 rfl, yA 27 rfl, yA 28 rfl]; exact hLim.2.2.2.1 r hr
      · rw [yN] at hi
        rw [yA 18 rfl]; exact hLim.2.2.2.2 i hi,
    by
      intro j hj
      rw [yN] at hj
      have q := hZ.1.2 j (by rw [Kg_nN hZK 4]; exact hj)
      rw [hZK.2.1 10 (by decide) (by decide), hZK.2.1 12 (by decide) (by decide)] at q
      rw [yA 10 rfl, y11, yA 12 rfl, y9]; exact q,
    k_rSum (yI 4) (yI 32) (yI 37) (yL 40) (yA 36 rfl) (yA 39 rfl) (yA 10 rfl) hSum,
    k_rWho (yI 4) (yI 16) (yI 20) (yI 32) (yI 65) (yA 21 rfl) (yA 33 rfl) (yA 66 rfl) (yA 35 rfl) (yI 37) (yA 38 rfl) hWho,
    k_rFix hk (by decide) hFix,
    k_rNum hk (by decide) (yI 2) (yI 20) (yI 65) hNum,
    k_rSta hk (by decide) (yI 1) hSta,
    k_rCon hk (by decide) (yA 3 rfl) hCon,
    k_rLotL hk (by decide) (by decide) (by decide) (yI 4) hLotL,
    by
      intro i hi
      rw [yN] at hi
      have q := hlotZ i (by rw [Kg_nN hZK 4]; exact hi)
      rw [hZK.2.1 5 (by decide) (by decide), hZK.2.1 6 (by decide) (by decide), hZK.2.1 7 (by decide) (by decide), hZK.2.1 8 (by decide) (by decide), hZK.2.1 10 (by decide) (by decide), hZK.2.1 12 (by decide) (by decide)] at q
      rw [yA 5 rfl, yA 6 rfl, yA 7 rfl, yA 8 rfl, y9, yA 10 rfl, y11, yA 12 rfl]
      exact q,
    k_rCha hk (by decide) (by decide) (yI 4) (yA 5 rfl) (yA 7 rfl) hCha,
    k_rWei hk (by decide) (by decide) (yI 4) (yI 65) (yA 66 rfl) (yA 67 rfl) (yA 68 rfl) hWei,
    k_rTabL hk (by decide) (by decide) (by decide) (yI 13) hTabL,
    k_rTab hk (by decide) (yI 13) hTab,
    by
      refine ⟨fun t ht => ?_, fun j hj => ?_⟩
      · rw [yN] at ht
        refine ⟨kD hk (hWan.1 t ht).1 (by decide), fun q hq => ?_⟩
        rw [a46 t ht, (hQ.2.2.2 t ht q hq).1, y14]
        show _ = if (10 * t + q) % 10 = kd ∧ (10 * t + q) / 10 < nN x 13 then mA x 14 (10 * t + q) - nI (gs ((10 * t + q) / 10)) else mA x 14 (10 * t + q)
        have e1 : (10 * t + q) % 10 = q := by omega
        have e2 : (10 * t + q) / 10 = t := by omega
        rw [e1, e2]
        by_cases c : q = kd
        · rw [if_pos ⟨ht, c⟩, if_pos ⟨c, ht⟩, c]
        · rw [if_neg (fun w => c w.2), if_neg (fun w => c w.1)]
      · rw [yN] at hj
        rw [y14]
        show (if j % 10 = kd ∧ j / 10 < nN x 13 then mA x 14 j - nI (gs (j / 10)) else mA x 14 j) = 0
        rw [if_neg (fun w => by omega)]
        exact hWan.2 j hj,
    by
      refine ⟨fun t ht => ?_, fun j hj => ?_⟩
      · rw [yN] at ht
        refine ⟨kD hk (hGot.1 t ht).1 (by decide), fun q hq => ?_⟩
        rw [a47 t ht, (hQ.2.2.2 t ht q hq).2, y15]
        show _ = (if (10 * t + q) % 10 = kd ∧ (10 * t + q) / 10 < nN x 13 then mB x 15 (10 * t + q) + (nI (gs ((10 * t + q) / 10))).toInt64 else mB x 15 (10 * t + q)).toInt32
        have e1 : (10 * t + q) % 10 = q := by omega
        have e2 : (10 * t + q) / 10 = t := by omega
        rw [e1, e2]
        by_cases c : q = kd
        · rw [if_pos ⟨ht, c⟩, if_pos ⟨c, ht⟩, c, Int64.toInt32_add, Int32.toInt32_toInt64]
        · rw [if_neg (fun w => c w.2), if_neg (fun w => c w.1)]
      · rw [yN] at hj
        rw [y15]
        show (if j % 10 = kd ∧ j / 10 < nN x 13 then mB x 15 j + (nI (gs (j / 10))).toInt64 else mB x 15 j) = 0
        rw [if_neg (fun w => by omega)]
        exact hGot.2 j hj,
    k_rLoa hk (by decide) (yI 13) (yA 43 rfl) (yI 44) hLoa,
    k_rFamL hk (by decide) (by decide) (by decide) (yI 16) hFamL,
    k_rFam hk (by decide) (by decide) (yI 16) (yA 18 rfl) (yA 19 rfl) hFam,
    k_rHad hk (by decide) (yI 16) (yI 32) (yA 8 rfl) (yA 33 rfl) (yA 35 rfl) (yA 38 rfl) (yA 39 rfl) hHad,
    k_rRef hk (by decide) (by decide) (yI 16) (yI 20) (yA 21 rfl) (yA 22 rfl) (yA 23 rfl) (yA 24 rfl) hRef,
    k_rParL hk (by decide) (by decide) (by decide) (yI 32) hParL,
    k_rPar hk (by decide) (by decide) (by decide) (yI 32) (yI 37) (yA 33 rfl) (yA 34 rfl) (yA 35 rfl) (yA 36 rfl) (yA 38 rfl) (yA 39 rfl) hPar,
    k_rTap hk (by decide) (by decide) (yI 58) (yI 63) (yA 57 rfl) hTap,
    k_rRul hk (by decide) (by decide) (by decide) (yI 25) (yA 26 rfl) (yA 27 rfl) (yA 28 rfl) (yA 29 rfl) hRul,
    k_rVan hk (by decide) hVan,
    k_rRoa hk (by decide) (by decide) (yA 42 rfl) hRoa,
    k_rSto hk (by decide) (by decide) (yI 56) (yA 55 rfl) hSto⟩
end M34
