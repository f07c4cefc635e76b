/-! PURE: the call parcel -/
section M28
variable {ae k : Nat} {M : Nat → Nat → Nat} {x : MS} {S : CS}
theorem parcel_z (h : Rep ae k M x S) (hk : k < 512) (f : Int32) : PInv x (kinN x f 10).1 (nN x 37 + cntL x + 10) := by
  have hO := g_rOk h
  have h11 := hO.2.2.2.2.2.2.2.2.2.2.2.2.1
  have hPx : PInv x x (nN x 37 + cntL x) := ⟨Kp_refl x, hO.2.2.2.2.2.2.2.2.2.2.2.1, Nat.le_refl _, (g_rLim h).1⟩
  exact kinN_inv hO.2.1 hPx 10 (by omega)
theorem st_parcel (n : Nat × Nat) (hn : 30000 ≤ n.1) (hae : n.2 = ae) (hk5 : k < 512) (h : Rep ae k M x S) (a : Int32) : ∃ (M' : Nat → Nat → Nat) (T : CS) (mc ms : Nat), fX11_parcel n S (M 0 0) a = some (((parcelF x a).1, T), mc, ms) ∧ mc ≤ 1100 ∧ ms ≤ 14000 ∧ M' 0 0 = M 0 0 ∧ Rep ae (k + 1) M' (parcelF x a).2 T := by
  have hF := g_rFix h
  have hNm := g_rNum h
  have hO := g_rOk h
  have o16 := hO.2.2.2.1
  have h40 := o16.2
  have h20 := hO.2.2.2.2.1.2
  have h11 := hO.2.2.2.2.2.2.2.2.2.2.2.2.1
  have e37x := hO.2.2.2.2.2.2.2.2.2.2.2.1
  cases h1 : ixB (mI x 16) a
  · exact ⟨M, uI S 251 (M 0 0) (-2), 0, 0, by simp [fX11_parcel, parcelF, grd, bnd, cal, un2, oel, ev_findFamily n h, h1, hF.1, ev_refuse _ hF.1], by omega, by omega, rfl, by simp only [parcelF, h1]; exact rep_no (by decide) h⟩
  obtain ⟨f, hf, rfl⟩ := ixB_of o16 h1 (by decide)
  have ef : (nI f).toNatClampNeg = f := nI_clamp (by omega)
  have hfam := g_rFam h f hf
  have rf := ev_referral n hn h hf (mI x 2)
  have ff := ev_findFamily n h (nI f)
  rw [h1, if_pos rfl, ef] at ff
  by_cases hr : 0 ≤ refN x (nI f) (mI x 2) (nN x 20)
  · rw [if_pos hr] at rf
    obtain ⟨e, he, ee, hlets⟩ : ∃ e, e < nN x 20 ∧ refN x (nI f) (mI x 2) (nN x 20) = nI e ∧ letsB x e (nI f) (mI x 2) = true := by
      rcases refN_lets x (nI f) (mI x 2) (nN x 20) with q | q
      · rw [q] at hr; exact absurd hr (by decide)
      · exact q
    have eec : (refN x (nI f) (mI x 2) (nN x 20)).toNatClampNeg = e := by rw [ee]; exact nI_clamp (by omega)
    rw [eec] at rf
    have hpos : 0 < mA x 24 e := by
      unfold letsB at hlets
      simp only [Bool.and_eq_true, decide_eq_true_eq] at hlets
      exact hlets.2
    obtain ⟨hB1, hB2, hB3⟩ := g_rBase h
    have p0 := pk_0 trivial h (f := f)
    have hPz := parcel_z h hk5 (nI f)
    obtain ⟨S1, eS1⟩ : ∃ q, q = parS S ae (nI f) (mI x 2) := ⟨_, rfl⟩
    have ini := ev_par_init n S (nI f) (mI x 2)
    rw [hae, ← eS1] at ini
    rw [← eS1] at p0
    obtain ⟨T, N, mc, ms, lp, hpk, hcst⟩ := kind_lp n hn hae h (P := nx S) (Lc := nx S + 1) (was := nN x 37) hf (hB1 _ (Nat.le_refl _)) (hB1 _ (Nat.le_succ _)) rfl (by omega) 10 0 n.1 S1 (M 11) rfl (by omega) (by rw [kinN_0]; exact p0)
    rw [nI_0] at lp
    rw [kinN_0] at hcst
    dsimp only at hcst
    have hz37 := hPz.2.2.1
    have hcap := hpk.2.2
    have hcl : cntL x ≤ 200 := Nat.le_trans (cntP_le _ _) hO.2.1.2
    obtain ⟨z, ez⟩ : ∃ q, q = (kinN x (nI f) 10).1 := ⟨_, rfl⟩
    obtain ⟨mis, emis⟩ : ∃ q, q = (kinN x (nI f) 10).2 := ⟨_, rfl⟩
    have hpF : parcelF x (nI f) = if mI z 37 = mI x 37 then (-4, toldF z (-4)) else (nI (nN x 32), toldF (parcelX z e (nN x 32) (nI f) (mI x 37) mis) 0) := by
      unfold parcelF
      rw [if_pos h1, if_pos hr, eec, ← ez, ← emis]
    rw [← ez] at hPz hz37 hpk hcst
    rw [← emis] at hpk
    have hk := hpk.1.2.1
    have hFT := k_rFix hk (by decide) hF
    have pD := hpk.1.2.2.2.2.2.2.2.2.1
    have pL := hpk.1.2.2.2.2.2.2.2.2.2.2.2.1
    have pl := hpk.1.2.2.2.2.2.2.2.2.2.2.2.2.2.2
    have klD : cD T (nx S + 1) = 24 := pl.1
    have hle := hpk.2.1
    have kw : keep S (nw S 4 0) [] [] [] [] := keep_nw 4 0 (hB1 _ (Nat.le_refl _))
    have hFw : rFix M (nw S 4 0) := k_rFix kw (by decide) hF
    have hNw := k_rNum kw (by decide) rfl rfl rfl hNm
    have emp := ev_isEmpty n pl
    unfold cst at hcst
    by_cases c0 : nN z 37 = nN x 37
    · have em : mI z 37 = mI x 37 := by rw [hPz.2.1, c0]; exact e37x.symm
      rw [hpF, if_pos em]
      rw [if_pos (by omega)] at emp
      refine ⟨M, uI T 251 (M 0 0) (-4), 1 + (1 + mc), 5 + (3 + ms), ?_, by omega, by omega, rfl, rep_no0 (by decide) (pk_nil h hpk hPz c0)⟩
      simp only [fX11_parcel, grd, bnd, onn, oel, cal, un2, adc, hF.1, ff, hNm.2.1, hfam.1, rf, if_true, hFw.1, hNw.2.1, ini, lp, pD, pL, klD, emp, if_neg n10, hFT.1, ev_refuse _ hFT.1, Nat.add_zero]
    · have em : ¬ mI z 37 = mI x 37 := fun q => c0 (by unfold nN; rw [q])
      rw [hpF, if_neg em]
      rw [if_neg (by omega)] at emp
      have hRf := (g_rRef h).2.1
      have d7 : ∀ q, q < nN x 20 → cD T (M 7 q) = 5 := fun q hq => kD hk (hRf q hq).1 (by decide)
      have i7 : ∀ q, q < nN x 20 → cI T 102 (M 7 q) = mA x 24 q := fun q hq => kI hk (hRf q hq).1 (by decide) (by decide) (hRf q hq).2.2.2.1
      obtain ⟨w, ew⟩ : ∃ q, q = mA x 24 e - 1 := ⟨_, rfl⟩
      obtain ⟨T3, eT3⟩ : ∃ q, q = uI T 102 (M 7 e) w := ⟨_, rfl⟩
      have k3 : keep T T3 [102] [] [] [] := by rw [eT3]; exact keep_uI _ _ _ _
      have hB := hpk.1.1
      have f3 : frsh T3 := by rw [eT3]; exact hB.1
      have a3 : cD T3 ae = 0 := by rw [eT3]; exact hB.2.1
      have x3 : ae < nx T3 := by rw [eT3]; exact hB.2.2
      have hLp := (g_rParL h).1
      have l3 := keep_list k3 (keep_list hk hLp (by decide) (by decide) (by decide)) (by decide) (by decide) (by decide)
      have h512 := hO.2.2.2.2.2.2.2.2.1
      have pD3 : cD T3 (nx S) = 4 := kD k3 pD (by decide)
      obtain ⟨T4, mc4, ms4, ea, b1, b2, l4, k34, f4, off, -⟩ := ev_add n hae f3 a3 x3 l3 (by omega) (v := nx S) pD3
      have k4 : keep T T4 [102, gM 3, gS 3] [gE 3] [] [33] := kpre (keep_tr k3 k34) (by simp) (by simp) (by simp) (by simp)
      have h102 : ∀ q, q < nN x 20 → cI T4 102 (M 7 q) = if q = e then mA x 24 e - 1 else mA x 24 q := fun q hq => by
        rw [kI k34 (kD k3 (d7 q hq) (by decide)) (by decide) (by decide) rfl, eT3, cI_uI, set1_s]
        by_cases c : q = e
        · rw [c, set1_s, if_pos rfl, ew]
        · rw [set1_n _ _ (fun r => c ((g_rRef h).1 q e hq he r)), if_neg c]
          exact i7 q hq
      have dn := pk_done h hk5 hf he hpos hpk hPz (w := w) k4 f4 l4 h102
      obtain ⟨M', eM', e0⟩ : ∃ q : Nat → Nat → Nat, q = (fun g => if g = 9 then (fun i => if i = nN x 32 then nx S else M 9 i) else if g = 10 then (fun i => if i = nN x 32 then nx S + 1 else M 10 i) else if g = 11 then (fun q => if q < nN x 37 then M 11 q else N q) else M g) ∧ q 0 0 = M 0 0 := ⟨_, rfl, rfl⟩
      rw [← eM'] at dn
      have hFT3 := k_rFix k3 (by decide) hFT
      have hFT4 := k_rFix k34 (by decide) hFT3
      have kl3 : cD T3 (M 0 7) = 23 := l3.1
      have kl4 : cD T4 (M 0 7) = 23 := l4.1
      have sz4 := ev_size n l4
      have e1 : nI (nN x 32 + 1) - 1 = nI (nN x 32) := nI_pred _
      refine ⟨M', uI T4 251 (M 0 0) 0, 1 + (1 + (mc + mc4)), 5 + (3 + (ms + ms4)), ?_, by omega, by omega, e0, by rw [← e0]; exact rep_yes0 (by decide) dn⟩
      · simp only [fX11_parcel, grd, bnd, onn, oel, cal, un2, adc, hF.1, ff, hNm.2.1, hfam.1, rf, if_true, hFw.1, hNw.2.1, ini, lp, pD, pL, klD, emp, d7 e he, i7 e he, ← ew, ← eT3, hFT3.1, hFT3.2.2.2.2.2.2.2.2.1, kl3, ea, hFT4.1, hFT4.2.2.2.2.2.2.2.2.1, kl4, sz4, e1, ev_accept _ hFT4.1, Nat.add_zero]
  · rw [if_neg hr] at rf
    refine ⟨M, uI S 251 (M 0 0) (-3), 0, 0, ?_, by omega, by omega, rfl, ?_⟩
    · simp only [fX11_parcel, parcelF, grd, bnd, onn, oel, cal, un2, hF.1, ff, hNm.2.1, hfam.1, rf, if_true, h1, if_neg hr, ev_refuse _ hF.1]
    · simp only [parcelF, h1, if_true, if_neg hr]
      exact rep_no (by decide) h
end M28
