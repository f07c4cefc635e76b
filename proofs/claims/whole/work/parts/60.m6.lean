/-! PURE: fresh cells; a table -/
section NEW
variable {S T : CS} {GI GR GA GQ : List Nat}
theorem kn_I (h : keep S T GI GR GA GQ) {a : Nat} (ha : cD S a = 0) (g : Nat) (v : Int32) : keep S (uI T g a v) GI GR GA GQ := ⟨h.1, fun g' hg q hq => by
  rw [cI_uI]
  by_cases e : g' = g
  · subst e; rw [set1_s, set1_n _ _ (fun z => hq (by rw [z]; exact ha))]; exact h.2.1 g' hg q hq
  · rw [set1_n _ _ e]; exact h.2.1 g' hg q hq, h.2.2.1, h.2.2.2.1, h.2.2.2.2⟩
theorem kn_R (h : keep S T GI GR GA GQ) {a : Nat} (ha : cD S a = 0) (g : Nat) (v : Option Nat) : keep S (uR T g a v) GI GR GA GQ := ⟨h.1, h.2.1, fun g' hg q hq => by
  rw [cR_uR]
  by_cases e : g' = g
  · subst e; rw [set1_s, set1_n _ _ (fun z => hq (by rw [z]; exact ha))]; exact h.2.2.1 g' hg q hq
  · rw [set1_n _ _ e]; exact h.2.2.1 g' hg q hq, h.2.2.2.1, h.2.2.2.2⟩
theorem kn_w (h : keep S T GI GR GA GQ) (hf : frsh S) (d n : Nat) : keep S (nw T d n) GI GR GA GQ := by
  have ne : ∀ q, cD S q ≠ 0 → q ≠ nx T := fun q hq z => hq (hf q (by rw [z]; exact h.1.1.1))
  exact ⟨⟨⟨Nat.le_succ_of_le h.1.1.1, fun q hq => by rw [cD_nw, set1_n _ _ (Nat.ne_of_lt (Nat.lt_of_lt_of_le hq h.1.1.1))]; exact h.1.1.2 q hq⟩, fun q hq => ⟨by rw [cD_nw, set1_n _ _ (ne q hq)]; exact (h.1.2 q hq).1, by rw [cN_nw, set1_n _ _ (ne q hq)]; exact (h.1.2 q hq).2⟩⟩, fun g hg q hq => by rw [cI_nw]; exact (set1_n _ _ (ne q hq)).trans (h.2.1 g hg q hq), fun g hg q hq => by rw [cR_nw]; exact (set1_n _ _ (ne q hq)).trans (h.2.2.1 g hg q hq), fun g hg q hq => by rw [cA_nw]; exact (set1_n _ _ (ne q hq)).trans (h.2.2.2.1 g hg q hq), fun g hg q hq => by rw [cQ_nw]; exact (set1_n _ _ (ne q hq)).trans (h.2.2.2.2 g hg q hq)⟩
end NEW
/-- another address for one thing -/
def setM (M : Nat → Nat → Nat) (f i v : Nat) : Nat → Nat → Nat := fun g j => if g = f ∧ j = i then v else M g j
theorem setM_s (M : Nat → Nat → Nat) (f i v : Nat) : setM M f i v f i = v := if_pos ⟨rfl, rfl⟩
theorem setM_n (M : Nat → Nat → Nat) (f i v : Nat) {g j : Nat} (h : ¬ (g = f ∧ j = i)) : setM M f i v g j = M g j := if_neg h
section M6
variable {ae k : Nat} {M : Nat → Nat → Nat} {x : MS} {S : CS}
def tabS (S : CS) : CS := uI (uR (nw (uR (nw (nw S 9 0) 46 10) 180 (nx S) (some (nx S + 1))) 47 10) 181 (nx S) (some (nx S + 2))) 182 (nx S) 0
theorem ev_tab_init (n : Nat × Nat) (S : CS) : fX8_init n (nw S 9 0) (nx S) = some (tabS S, 2, 20) := by
  have d1 : cD (nw (nw S 9 0) 46 10) (nx S) = 9 := by rw [cD_nw, nx_nw, set1_n _ _ (by omega)]; exact cD_new S 9 0
  have d2 : cD (nw (uR (nw (nw S 9 0) 46 10) 180 (nx S) (some (nx S + 1))) 47 10) (nx S) = 9 := by rw [cD_nw, set1_n _ _ (by rw [nx_uR, nx_nw, nx_nw]; omega)]; exact d1
  unfold fX8_init
  simp only [bnd, grd, nx_nw, nx_uR, d1, d2, if_true, adc]
  rfl
theorem tabS_facts (S : CS) (hf : frsh S) : keep S (tabS S) [] [] [] [] ∧ nx (tabS S) = nx S + 3 ∧ frsh (tabS S) ∧ cD (tabS S) (nx S) = 9 ∧ (cD (tabS S) (nx S + 1) = 46 ∧ cN (tabS S) (nx S + 1) = 10) ∧ (cD (tabS S) (nx S + 2) = 47 ∧ cN (tabS S) (nx S + 2) = 10) ∧ cR (tabS S) 180 (nx S) = some (nx S + 1) ∧ cR (tabS S) 181 (nx S) = some (nx S + 2) ∧ cI (tabS S) 182 (nx S) = 0 ∧ (∀ j, cA (tabS S) 46 (nx S + 1) j = 0) ∧ ∀ j, cA (tabS S) 47 (nx S + 2) j = 0 := by
  have h0 : cD S (nx S) = 0 := hf _ (Nat.le_refl _)
  refine ⟨kn_I (kn_R (kn_w (kn_R (kn_w (kn_w (keep_rf S) hf 9 0) hf 46 10) h0 _ _) hf 47 10) h0 _ _) h0 _ _, rfl, fun q hq => ?_, ?_, ?_, ?_, ?_, ?_, ?_, ?_, ?_⟩
  · exact frsh_nw 47 10 (frsh_nw (S := nw S 9 0) 46 10 (frsh_nw 9 0 hf)) q hq
  all_goals simp [tabS, cD_uI, cD_uR, cD_nw, cN_uI, cN_uR, cN_nw, cI_uI, cI_uR, cI_nw, cR_uI, cR_uR, cR_nw, cA_uI, cA_uR, cA_nw, nx_nw, nx_uR, set1] <;> omega
theorem st_table (n : Nat × Nat) (hae : n.2 = ae) (h : Rep ae k M x S) : ∃ (M' : Nat → Nat → Nat) (T : CS) (mc ms : Nat), fX11_table n S (M 0 0) = some (((tableF x).1, T), mc, ms) ∧ mc ≤ 1100 ∧ ms ≤ 14000 ∧ M' 0 0 = M 0 0 ∧ Rep ae (k + 1) M' (tableF x).2 T := by
  have hF := g_rFix h
  have hL := (g_rTabL h).1
  have o13 := (g_rOk h).2.2.1
  have h12 := o13.2
  have kl : cD S (M 0 5) = 21 := hL.1
  have e12 : (nI (nN x 13) < 12) ↔ nN x 13 < 12 := nI_ltI (b := 12) (by omega) (by decide)
  by_cases c : nN x 13 = 12
  · refine ⟨M, uI S 251 (M 0 0) (-5), 0, 0, ?_, by omega, by omega, rfl, ?_⟩
    · have : ¬ nI (nN x 13) < 12 := fun z => by have := e12.mp z; omega
      simp only [fX11_table, tableF, grd, onn, cal, bnd, hF.1, hF.2.2.2.2.2.2.1, kl, ev_size n hL, if_true, if_neg this, ev_refuse _ hF.1, un2, if_pos c]
    · simp only [tableF, if_pos c]
      exact rep_no (by decide) h
  · have hlt : nN x 13 < 12 := by omega
    obtain ⟨hB1, hB2, hB3⟩ := g_rBase h
    obtain ⟨f1, f2, f3, f4, f5, f6, f7, f8, f9, f10, f11⟩ := tabS_facts S hB1
    have k0 : cD (tabS S) ae = 0 := by
      rw [f1.1.1.2 ae hB3]; exact hB2
    have hL1 : listOk ae (tabS S) 1 (M 0 5) (nN x 13) (M 2) := keep_list f1 hL (by decide) (by decide) (by decide)
    obtain ⟨T, mc, ms, ea, a1, a2, a3, a4, a5, -⟩ := ev_add n hae f3 k0 (by rw [f2]; omega) hL1 (by omega) (v := nx S) f4
    have kT : keep S T [gM 1, gS 1] [gE 1] [] [31] := kpre (keep_tr f1 a4) (by simp) (by simp) (by simp) (by simp)
    have hF1 := k_rFix f1 rfl hF
    have hFT : rFix M T := k_rFix kT (by decide) hF
    have klT : cD T (M 0 5) = 21 := a3.1
    have szT := ev_size n a3
    have e1 : nI (nN x 13 + 1) - 1 = nI (nN x 13) := nI_pred _
    have kTe : cD T ae = 0 := by
      rw [kT.1.1.2 ae hB3]; exact hB2
    obtain ⟨M', eM⟩ : ∃ z, z = setM (setM (setM M 2 (nN x 13) (nx S)) 3 (nN x 13) (nx S + 1)) 4 (nN x 13) (nx S + 2) := ⟨_, rfl⟩
    refine ⟨M', uI T 251 (M 0 0) 0, 1 + (2 + (mc + 0)), 3 + (20 + (ms + 0)), ?_, by omega, by omega, by rw [eM]; rfl, ?_⟩
    · have := e12.mpr hlt
      simp only [fX11_table, tableF, grd, onn, cal, bnd, hF.1, hF.2.2.2.2.2.2.1, kl, ev_size n hL, if_true, if_pos this, ev_tab_init, un2, hL1.1, ea, hFT.1, hFT.2.2.2.2.2.2.1, klT, szT, e1, ev_accept _ hFT.1, adc, if_neg c]
    · have m2 : ∀ i, M' 2 i = if i = nN x 13 then nx S else M 2 i := fun i => by rw [eM]; simp [setM]
      have m3 : ∀ i, M' 3 i = if i = nN x 13 then nx S + 1 else M 3 i := fun i => by rw [eM]; simp [setM]
      have m4 : ∀ i, M' 4 i = if i = nN x 13 then nx S + 2 else M 4 i := fun i => by rw [eM]; simp [setM]
      have mo : ∀ f, f ≠ 2 → f ≠ 3 → f ≠ 4 → M' f = M f := fun f z2 z3 z4 => by funext i; rw [eM]; simp [setM, z2, z3, z4]
      have hx : nN (sI x 13 (nI (nN x 13 + 1))) 13 = nN x 13 + 1 := by
        show (upd x.1 13 (nI (nN x 13 + 1)) 13).toNatClampNeg = _
        rw [show ∀ v, upd x.1 13 v 13 = v from fun v => if_pos rfl, nI_clamp (by omega)]
      have l3 : ∀ t, t < nN x 13 → M 2 t < nx S ∧ M 3 t < nx S ∧ M 4 t < nx S := fun t ht => by
        have q := g_rTab h t ht
        refine ⟨?_, ?_, ?_⟩
        · rcases Nat.lt_or_ge (M 2 t) (nx S) with z | z
          · exact z
          · have := hB1 _ z; omega
        · rcases Nat.lt_or_ge (M 3 t) (nx S) with z | z
          · exact z
          · have := hB1 _ z; omega
        · rcases Nat.lt_or_ge (M 4 t) (nx S) with z | z
          · exact z
          · have := hB1 _ z; omega
      simp only [tableF, if_neg c]
      rw [show M 0 0 = M' 0 0 by rw [mo 0 (by decide) (by decide) (by decide)]]
      refine rep_yes (by decide) ?_
      have hk := kT
      obtain ⟨hB, hOk, hLim, hNew, hSum, hWho, hFix, hNum, hSta, hCon, hLotL, hLot, hCha, hWei, hTabL, hTab, hWan, hGot, hLoa, hFamL, hFam, hHad, hRef, hParL, hPar, hTap, hRul, hVan, hRoa, hSto⟩ := h
      have mz := fun f a b c => (mo f a b c).symm
      exact ⟨⟨a5, kTe, by have := kT.1.1.1; omega⟩,
    by
      obtain ⟨q0, q1, q2, q3⟩ := hOk
      exact ⟨q0, q1, ⟨by show nI (nN x 13 + 1) = nI _; rw [hx], by rw [hx]; omega⟩, q3⟩,
    k_rLim rfl rfl rfl rfl rfl rfl rfl rfl rfl rfl rfl rfl rfl rfl rfl rfl hLim,
    k_rNew rfl rfl rfl rfl rfl hNew,
    k_rSum rfl rfl rfl rfl rfl rfl rfl hSum,
    k_rWho rfl rfl rfl rfl rfl rfl rfl rfl rfl rfl rfl hWho,
    (show _ from by rw [eM]; exact k_rFix hk rfl hFix),
    (show _ from by rw [eM]; exact k_rNum hk rfl rfl rfl rfl hNum),
    (show _ from by rw [eM]; exact k_rSta hk rfl rfl hSta),
    (show _ from by rw [eM]; exact k_rCon hk rfl rfl hCon),
    (show _ from by rw [eM]; exact k_rLotL hk rfl rfl rfl rfl hLotL),
    (show _ from by rw [eM]; exact k_rLot hk rfl rfl rfl rfl rfl rfl rfl rfl rfl rfl hLot),
    (show _ from by rw [eM]; exact k_rCha hk rfl rfl rfl rfl rfl hCha),
    (show _ from by rw [eM]; exact k_rWei hk rfl rfl rfl rfl rfl rfl rfl hWei),
    by
      refine ⟨?_, fun i j hi hj e => ?_, fun i j hi hj e => ?_, fun i j hi hj e => ?_⟩
      · rw [mo 0 (by decide) (by decide) (by decide), hx, show M' 2 = fun i => if i = nN x 13 then nx S else M 2 i from funext m2]; exact a3
      · rw [hx] at hi hj
        rw [m2, m2] at e
        by_cases e1 : i = nN x 13 <;> by_cases e2 : j = nN x 13 <;> simp only [e1, e2, if_true, if_false] at e
        · omega
        · have := (l3 j (by omega)).1; omega
        · have := (l3 i (by omega)).1; omega
        · exact hTabL.2.1 i j (by omega) (by omega) e
      · rw [hx] at hi hj
        rw [m3, m3] at e
        by_cases e1 : i = nN x 13 <;> by_cases e2 : j = nN x 13 <;> simp only [e1, e2, if_true, if_false] at e
        · omega
        · have := (l3 j (by omega)).2.1; omega
        · have := (l3 i (by omega)).2.1; omega
        · exact hTabL.2.2.1 i j (by omega) (by omega) e
      · rw [hx] at hi hj
        rw [m4, m4] at e
        by_cases e1 : i = nN x 13 <;> by_cases e2 : j = nN x 13 <;> simp only [e1, e2, if_true, if_false] at e
        · omega
        · have := (l3 j (by omega)).2.2; omega
        · have := (l3 i (by omega)).2.2; omega
        · exact hTabL.2.2.2 i j (by omega) (by omega) e,
    fun t ht => by
      rw [hx] at ht
      rw [m2, m3, m4]
      by_cases e1 : t = nN x 13
      · rw [if_pos e1, if_pos e1, if_pos e1]
        exact ⟨kD a4 f4 (by decide), kR a4 f4 (by decide) (by decide) f7, kR a4 f4 (by decide) (by decide) f8, kD a4 f5.1 (by decide), kN a4 f5.1 (by decide) f5.2, kD a4 f6.1 (by decide), kN a4 f6.1 (by decide) f6.2⟩
      · rw [if_neg e1, if_neg e1, if_neg e1]
        exact k_rTab hk rfl rfl hTab t (by omega),
    ⟨fun t ht => by
      rw [hx] at ht
      rw [m3]
      by_cases e1 : t = nN x 13
      · rw [if_pos e1]
        exact ⟨kD a4 f5.1 (by decide), fun j hj => by rw [kA a4 f5.1 (by decide) (by decide) j (f10 j)]; exact (hWan.2 _ (by omega)).symm⟩
      · rw [if_neg e1]
        exact (k_rWan hk rfl rfl rfl hWan).1 t (by omega), fun j hj => hWan.2 j (by rw [hx] at hj; omega)⟩,
    ⟨fun t ht => by
      rw [hx] at ht
      rw [m4]
      by_cases e1 : t = nN x 13
      · rw [if_pos e1]
        exact ⟨kD a4 f6.1 (by decide), fun j hj => by rw [kA a4 f6.1 (by decide) (by decide) j (f11 j)]; show 0 = (mB x 15 (10 * t + j)).toInt32; rw [hGot.2 _ (by omega)]; rfl⟩
      · rw [if_neg e1]
        exact (k_rGot hk rfl rfl rfl hGot).1 t (by omega), fun j hj => hGot.2 j (by rw [hx] at hj; omega)⟩,
    by
      have ec : cntP (mA x 43) (nN x 13 + 1) = cntP (mA x 43) (nN x 13) := by rw [cntP_s, if_pos (by rw [hLoa.2.1 _ (Nat.le_refl _)]; decide)]
      refine ⟨fun t ht => ?_, fun j hj => hLoa.2.1 j (by rw [hx] at hj; omega), hLoa.2.2.1, ?_, ?_⟩
      · rw [hx] at ht
        rw [m2]
        by_cases e1 : t = nN x 13
        · rw [if_pos e1]
          refine ⟨kD a4 f4 (by decide), ?_⟩
          rw [kI a4 f4 (by decide) (by decide) f9]
          exact (hLoa.2.1 t (by omega)).symm
        · rw [if_neg e1]
          exact (k_rLoa hk rfl rfl rfl rfl hLoa).1 t (by omega)
      · rw [hx]
        show mI x 44 = nI (cntP (mA x 43) (nN x 13 + 1))
        rw [ec]; exact hLoa.2.2.2.1
      · rw [hx]
        show cntP (mA x 43) (nN x 13 + 1) ≤ 8
        rw [ec]; exact hLoa.2.2.2.2,
    (show _ from by rw [eM]; exact k_rFamL hk rfl rfl rfl rfl hFamL),
    (show _ from by rw [eM]; exact k_rFam hk rfl rfl rfl rfl rfl hFam),
    (show _ from by rw [eM]; exact k_rHad hk rfl rfl rfl rfl rfl rfl rfl rfl hHad),
    (show _ from by rw [eM]; exact k_rRef hk rfl rfl rfl rfl rfl rfl rfl rfl hRef),
    (show _ from by rw [eM]; exact k_rParL hk rfl rfl rfl rfl hParL),
    (show _ from by rw [eM]; exact k_rPar hk rfl rfl rfl rfl rfl rfl rfl rfl rfl rfl rfl hPar),
    (show _ from by rw [eM]; exact k_rTap hk rfl rfl rfl rfl rfl hTap),
    (show _ from by rw [eM]; exact k_rRul hk rfl rfl rfl rfl rfl rfl rfl rfl hRul),
    (show _ from by rw [eM]; exact k_rVan hk rfl hVan),
    (show _ from by rw [eM]; exact k_rRoa hk rfl rfl rfl hRoa),
    (show _ from by rw [eM]; exact k_rSto hk rfl rfl rfl rfl hSto)⟩
end M6
