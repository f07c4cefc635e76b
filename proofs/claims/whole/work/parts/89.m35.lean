/-! PURE: the call part -/
theorem ev12_kind (a : Int32) : fX12_isKind a = bI (isB a 0 9) := by
  unfold fX12_isKind bnd
  rw [ev12_in]
  exact congrArg bI (inL_i a 0 9)
theorem ev12_told (n : Nat × Nat) (x : MS) (v : Int32) : fX12_told n x v = some (v, toldF x v) := by
  unfold fX12_told toldF bnd
  split <;> rfl
section M35
variable {ae k : Nat} {M : Nat → Nat → Nat} {x : MS} {S : CS}
theorem QL_nil (h : Rep ae k M x S) {kd : Nat} {gs : Nat → Nat} {T : CS} (hQ : QL M x S kd gs (nN x 13) T) (h0 : ∀ i, i < nN x 13 → gs i = 0) : Rep ae k M x T := by
  have hk := hQ.1
  have v : ∀ i, i < nN x 13 → ∀ q, q < 10 → cA T 46 (M 3 i) q = mA x 14 (10 * i + q) ∧ cA T 47 (M 4 i) q = (mB x 15 (10 * i + q)).toInt32 := fun i hi q hq => by
    have v := hQ.2.2.2 i hi q hq
    rw [h0 i hi, nI_0, Int32.sub_zero, Int32.add_zero] at v
    by_cases c : i < nN x 13 ∧ q = kd
    · rw [if_pos c, if_pos c] at v
      rw [c.2]; rw [c.2] at v; exact v
    · rw [if_neg c, if_neg c] at v; exact v
  have hB : frsh T ∧ cD T ae = 0 ∧ ae < nx T := ⟨fun q hq => by rw [hQ.2.2.1]; exact (g_rBase h).1 q (by rw [← hQ.2.1]; exact hq), by rw [hQ.2.2.1]; exact (g_rBase h).2.1, by rw [hQ.2.1]; exact (g_rBase h).2.2⟩
  have w1 : rWan M x T := ⟨fun t ht => ⟨kD hk ((g_rWan h).1 t ht).1 (by decide), fun q hq => (v t ht q hq).1⟩, (g_rWan h).2⟩
  have w2 : rGot M x T := ⟨fun t ht => ⟨kD hk ((g_rGot h).1 t ht).1 (by decide), fun q hq => (v t ht q hq).2⟩, (g_rGot h).2⟩
  exact ⟨hB, g_rOk h, g_rLim h, g_rNew h, g_rSum h, g_rWho h, k_rFix hk (by decide) (g_rFix h), k_rNum hk (by decide) rfl rfl rfl (g_rNum h), k_rSta hk (by decide) rfl (g_rSta h), k_rCon hk (by decide) rfl (g_rCon h), k_rLotL hk (by decide) (by decide) (by decide) rfl (g_rLotL h), k_rLot hk (by decide) rfl rfl rfl rfl rfl rfl rfl rfl rfl (g_rLot h), k_rCha hk (by decide) (by decide) rfl rfl rfl (g_rCha h), k_rWei hk (by decide) (by decide) rfl rfl rfl rfl rfl (g_rWei h), k_rTabL hk (by decide) (by decide) (by decide) rfl (g_rTabL h), k_rTab hk (by decide) rfl (g_rTab h), w1, w2, k_rLoa hk (by decide) rfl rfl rfl (g_rLoa h), k_rFamL hk (by decide) (by decide) (by decide) rfl (g_rFamL h), k_rFam hk (by decide) (by decide) rfl rfl rfl (g_rFam h), k_rHad hk (by decide) rfl rfl rfl rfl rfl rfl rfl (g_rHad h), k_rRef hk (by decide) (by decide) rfl rfl rfl rfl rfl rfl (g_rRef h), k_rParL hk (by decide) (by decide) (by decide) rfl (g_rParL h), k_rPar hk (by decide) (by decide) (by decide) rfl rfl rfl rfl rfl rfl rfl rfl (g_rPar h), k_rTap hk (by decide) (by decide) rfl rfl rfl (g_rTap h), k_rRul hk (by decide) (by decide) (by decide) rfl rfl rfl rfl rfl (g_rRul h), k_rVan hk (by decide) (g_rVan h), k_rRoa hk (by decide) (by decide) rfl (g_rRoa h), k_rSto hk (by decide) (by decide) rfl rfl (g_rSto h)⟩
theorem st_part (n : Nat × Nat) (hn : 30000 ≤ n.1) (h : Rep ae k M x S) (a : Int32) : ∃ (r : Int32) (T : CS) (X : MS), fX11_part n S (M 0 0) a = some (r, T) ∧ fX12_part n x a = some (r, X) ∧ Rep ae (k + 1) M X T := by
  have hF := g_rFix h
  have hO := g_rOk h
  have o4 := hO.2.1
  have h200 := o4.2
  have o13 := hO.2.2.1
  have h12 := o13.2
  have o25 := hO.2.2.2.2.2.1
  have hLim := g_rLim h
  cases h1 : isB a 0 9
  · refine ⟨-1, uI S 251 (M 0 0) (-1), toldF x (-1), ?_, ?_, rep_no (by decide) h⟩
    · simp [fX11_part, grd, bnd, cal, un2, ev_kind, h1, bI, hF.1, ev_refuse _ hF.1]
    · simp [fX12_part, bnd, cal, un2, ev12_kind, h1, bI, sI_0 hO.1, ev12_told]
  obtain ⟨kd, hkd, rfl⟩ := isB_nI h1 (n := 10) (by decide) (by decide)
  obtain ⟨le, ele⟩ : ∃ q, q = mI x 2 + spareN x (nI kd) (nN x 25) := ⟨_, rfl⟩
  have day := ev_day n hn o25 hF (g_rNum h) (g_rRul h) (nI kd)
  rw [← ele] at day
  obtain ⟨q, eq, hq⟩ := ev_mayGrams n hn h hkd le
  have ab := aS_b hLim (nI kd) le (nN x 4) (Nat.le_refl _)
  obtain ⟨A, eA⟩ : ∃ w, w = aS x (nI kd) le (nN x 4) := ⟨_, rfl⟩
  rw [← eA] at hq ab
  obtain ⟨L, eL, bL, uL, tL⟩ := ev_level n hn h hkd (A := q) (by omega)
  have q20 : (2 : Nat) ^ 20 = 1048576 := by decide
  have nL : (nI L).toInt = L := nI_toInt (by omega)
  obtain ⟨u, eu, hu⟩ := ev_wanted n hn h hkd (L := nI L) (by omega)
  rw [nL] at hu
  have ub := uS_bd (kd := kd) hLim (show (0 : Int) ≤ L by omega) (nN x 13)
  obtain ⟨r, er⟩ : ∃ w, w = A - uS x kd L (nN x 13) := ⟨_, rfl⟩
  have ov : (q - u).toInt = r := by rw [i32_sb (by omega) (by omega), hq, hu, er]
  obtain ⟨gs, hgs⟩ : ∃ g : Nat → Nat, ∀ t, (g t : Int) = shS x kd L r t := ⟨fun t => (shS x kd L r t).toNat, fun t => by
    have := sh_b (kd := kd) (r := r) hLim (show (0 : Int) ≤ L by omega) t
    dsimp only
    omega⟩
  have hsb : ∀ t, (gs t : Int) ≤ wnt x kd t ∧ wnt x kd t ≤ 1000000 := fun t => ⟨by rw [hgs]; exact (sh_b (kd := kd) (r := r) hLim (show (0 : Int) ≤ L by omega) t).2, (wnt_b (kd := kd) hLim t).2⟩
  obtain ⟨p, T1, ep, hp, hQ⟩ := lvl_lp n h hkd bL (r := r) (by omega) (by omega) hgs (nN x 13) 0 n.1 (q - u) 0 S (by omega) (by omega) ov (by rw [toS_0]; rfl) (QL_0 h kd gs)
  rw [nI_0] at ep
  have ep : fX11_partAtLevel n S (M 0 0) (nI kd) (nI L) (q - u) = some (p, T1) := by
    simp only [fX11_partAtLevel, bnd, cal, un2, ep]
  have tot := tot_is hgs (nN x 13)
  have hep : p = nI (totN gs (nN x 13)) := by
    have tb := to_b (kd := kd) (r := r) hLim (show (0 : Int) ≤ L by omega) (nN x 13)
    apply Int32.toInt.inj
    rw [hp, nI_toInt (by omega), tot]
  obtain ⟨all, eall⟩ : ∃ w, w = upN x kd 1000000 (nN x 13) := ⟨_, rfl⟩
  have k6 : (1000000 : Int64).toInt = 1000000 := by decide
  have hall : all.toInt = uS x kd 1000000 (nN x 13) := by
    rw [eall, up_is hLim (by rw [k6]; omega) (by rw [k6]; omega) (nN x 13) h12, k6]
  have allb := uS_bd (kd := kd) hLim (show (0 : Int) ≤ 1000000 by omega) (nN x 13)
  obtain ⟨th, eth, hth⟩ := part35 n o4 hLim (nI kd) le (nN x 4) 0 n.1 0 (by omega) (by omega) (by rw [aS_0]; rfl)
  rw [← eA] at hth
  rw [nI_0] at eth
  rw [hq] at uL tL
  have hFT1 := k_rFix hQ.1 (by decide) hF
  have z0 : (0 : Int64).toInt = 0 := by decide
  -- the reference's level
  obtain ⟨L2, e2, b20, b21, u2, t2⟩ := bis_lp n hn o13 hLim hkd (A := th) 20 n.1 0 1000000 (by omega) (by rw [z0]; omega) (by rw [z0, k6]; omega) (by rw [k6]; omega) (by rw [z0, k6]; decide) (by rw [z0, uS_z hLim]; omega) (Or.inl k6)
  rw [hth] at u2 t2
  have same := fun t => sh_eq (kd := kd) hLim (A := A) (k := nN x 13) (show (0 : Int) ≤ L by omega) b20 b21 uL u2 tL t2 t
  rw [← er] at same
  have tmin := (same 0).2
  have c11 : fX11_part n S (M 0 0) (nI kd) = (if p = 0 then some (-4, uI T1 251 (M 0 0) (-4)) else cal (fX7_partOut n T1 (M 0 2) (nI kd) le p) (fun S75 => grd (cD S75 (M 0 0) = 12) (cal (fX11_accept n S75 (M 0 0) p) (un2 fun r81 S81 => some (r81, S81))))) := by
    simp only [fX11_part, grd, bnd, onn, cal, un2, ev_kind, h1, bI, if_true, if_neg n10, hF.1, hF.2.1, hF.2.2.2.2.2.1, day, eq, eL, eu, ep, hFT1.1, hFT1.2.1, hFT1.2.2.2.2.2.1, ev_refuse _ hFT1.1]
  by_cases c0 : all.toInt = 0 ∨ A = 0
  · have p0 : p = 0 := by
      apply Int32.toInt.inj
      rw [hp, tmin, ← hall, show (0 : Int32).toInt = 0 by decide]
      omega
    refine ⟨-4, uI T1 251 (M 0 0) (-4), toldF x (-4), by rw [c11, if_pos p0], ?_, ?_⟩
    · simp only [fX12_part, bnd, cal, un2, ev12_kind, h1, bI, if_true, if_neg n10, sI_0 hO.1, ev12_told, ev12_spared n hn o25, ← ele, eth, ev12_upTo n hn o13 hkd, ← eall, lg_cmp_eq]
      by_cases ca : all = 0
      · rw [if_pos ca]
      · rw [if_neg ca, if_pos]
        apply Int64.toInt.inj
        rw [hth, z0]
        rcases c0 with w | w
        · exact absurd (Int64.toInt.inj (by rw [w, z0])) ca
        · exact w
    · have t0 : totN gs (nN x 13) = 0 := by
        have := tot
        rw [tmin, ← hall] at this
        omega
      exact rep_no (by decide) (QL_nil h hQ (fun i hi => tot_nil gs (nN x 13) t0 i hi))
  · have na : ¬ all = 0 := fun w => c0 (Or.inl (by rw [w, z0]))
    have nt : ¬ th = 0 := fun w => c0 (Or.inr (by rw [← hth, w, z0]))
    have pn : ¬ p = 0 := fun w => by
      have := congrArg Int32.toInt w
      rw [hp, tmin, ← hall, show (0 : Int32).toInt = 0 by decide] at this
      omega
    -- the reference goes on
    obtain ⟨u2v, eu2⟩ : ∃ w, w = upN x kd L2 (nN x 13) := ⟨_, rfl⟩
    have hu2 : u2v.toInt = uS x kd L2.toInt (nN x 13) := by rw [eu2]; exact up_is hLim b20 (by omega) (nN x 13) h12
    have ub2 := uS_bd (kd := kd) hLim b20 (nN x 13)
    obtain ⟨r2, er2⟩ : ∃ w, w = A - uS x kd L2.toInt (nN x 13) := ⟨_, rfl⟩
    have hr2 : (th - u2v).toInt = r2 := by rw [i64_sub (by omega) (by omega), hth, hu2, er2]
    have hgs2 : ∀ t, (gs t : Int) = shS x kd L2.toInt r2 t := fun t => by rw [hgs, er2]; exact (same t).1
    obtain ⟨y, ey, yK, y41⟩ := shr_lp n o13 hLim hkd (L := L2) ⟨b20, b21⟩ (r := r2) (by omega) (by omega) hgs2 (nN x 13) 0 n.1 (th - u2v) x (by omega) (by omega) hr2 ⟨fun _ => rfl, fun _ _ => rfl, fun _ => rfl, fun _ => rfl⟩ (fun i hi => absurd hi (Nat.not_lt_zero _))
    rw [nI_0] at ey
    have hLL : okL x := ⟨hLim, g_rNew h⟩
    have hA2 : (totN gs (nN x 13) : Int) ≤ aS x (nI kd) le (nN x 4) := by rw [tot, tmin, ← eA]; omega
    have w140 : mA x 14 = w14 x kd gs 0 := by
      funext j
      unfold w14
      rw [if_neg (fun w => Nat.not_lt_zero _ w.2)]
    have w150 : mB x 15 = w15 x kd gs 0 := by
      funext j
      unfold w15
      rw [if_neg (fun w => Nat.not_lt_zero _ w.2)]
    have kt0 : Kt n x kd gs 0 y := by
      have g0 : giveN (nI kd) n.1 x (nI (totN gs 0)) = x := by rw [totN_0, nI_0]; exact giveN_0 (Int32.le_refl 0) _
      refine ⟨yK.1, fun f hf => yK.2.1 f (fun w => by rw [w] at hf; exact absurd hf (by decide)), yK.2.2.1, fun f _ => yK.2.2.2 f, y41, ⟨?_, ?_⟩, ?_, ?_⟩
      · rw [g0]; exact yK.2.1 9 (by decide)
      · rw [g0]; exact yK.2.1 11 (by decide)
      · rw [← w140]; exact yK.2.1 14 (by decide)
      · rw [← w150]; exact yK.2.2.2 15
    obtain ⟨Y, eY, YK⟩ := all_lp n hn o4 o13 o25 hLL hkd ele (fun t => by have := hsb t; omega) hA2 (nN x 13) 0 n.1 0 y (by omega) (by omega) (by rw [totN_0, nI_0]) kt0
    rw [nI_0] at eY
    -- the class goes on
    obtain ⟨js, j1, j2, j3⟩ := (g_rCha h).2.2 kd hkd
    have len : js.length ≤ nN x 4 := chain_len (p := fun j => mA x 5 j = nI kd) (sooner_nd j3) j2
    have hCT := k_rCha hQ.1 (by decide) (by decide) rfl rfl rfl (g_rCha h)
    have qo : cQ T1 61 (M 0 4) kd = cQ S 61 (M 0 4) kd := kQ hQ.1 (g_rCha h).1 (by decide) (by simp) kd rfl
    obtain ⟨T2, eT2, lot2, k12, nT, cT⟩ := out_lp (M := M) n h200 (g_rLotL h).2 ele j2 j3 js [] n.1 x p (cQ T1 61 (M 0 4) kd) T1 n.1 rfl (Kg_rf x) (k_rLot hQ.1 (by decide) rfl rfl rfl rfl rfl rfl rfl rfl rfl (g_rLot h)) (by rw [qo]; exact keep_chn hQ.1 (by decide) (by simp) js _ j1) (Or.inr (fun i hi => absurd hi List.not_mem_nil)) (by omega) (by omega)
    rw [hep] at lot2
    have RR := part_rep n h hkd hsb hQ k12 nT cT YK lot2
    have hFT2 := k_rFix k12 (by decide) hFT1
    have hpp : 0 ≤ nI (totN gs (nN x 13)) := nI_le (a := 0) (Nat.zero_le _) (by
      have tb := to_b (kd := kd) (r := r) hLim (show (0 : Int) ≤ L by omega) (nN x 13)
      omega)
    refine ⟨p, uI T2 251 (M 0 0) 0, toldF Y p, ?_, ?_, by rw [hep]; exact rep_yes hpp RR⟩
    · rw [c11, if_neg pn]
      have po : fX7_partOut n T1 (M 0 2) (nI kd) le p = some T2 := by
        simp only [fX7_partOut, grd, cal, hFT1.2.1, ev_soonest' n hFT1 hCT hkd, eT2, if_true]
      simp only [cal, grd, un2, po, hFT2.1, if_true, ev_accept _ hFT2.1]
    · simp only [fX12_part, bnd, cal, un2, ev12_kind, h1, bI, if_true, if_neg n10, sI_0 hO.1, ev12_told, ev12_spared n hn o25, ← ele, eth, ev12_upTo n hn o13 hkd, ← eall, lg_cmp_eq, if_neg na, if_neg nt, e2, ← eu2, ey, eY, hep]
end M35
