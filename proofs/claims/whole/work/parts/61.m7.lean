/-! PURE: a family -/
section M7
variable {ae k : Nat} {M : Nat → Nat → Nat} {x : MS} {S : CS}
def famS (S : CS) (h b : Int32) : CS := uI (uI (uR (uR (nw (nw S 1 0) 41 20) 22 (nx S) (some (nx S + 1))) 23 (nx S) none) 20 (nx S) h) 21 (nx S) b
theorem ev_fam_init (n : Nat × Nat) (S : CS) (h b : Int32) : fX0_init n (nw S 1 0) (nx S) h b = some (famS S h b, 1, 20) := by
  have d1 : cD (nw (nw S 1 0) 41 20) (nx S) = 1 := by rw [cD_nw, nx_nw, set1_n _ _ (by omega)]; exact cD_new S 1 0
  unfold fX0_init
  simp only [bnd, grd, nx_nw, d1, if_true, adc]
  rfl
section FAMS
variable (S : CS) (h b : Int32)
theorem famS_k (hf : frsh S) : keep S (famS S h b) [] [] [] [] := by
  have h0 : cD S (nx S) = 0 := hf _ (Nat.le_refl _)
  unfold famS
  refine kn_I ?_ h0 _ _
  refine kn_I ?_ h0 _ _
  refine kn_R ?_ h0 _ _
  refine kn_R ?_ h0 _ _
  exact kn_w (kn_w (keep_rf S) hf 1 0) hf 41 20
theorem famS_x : nx (famS S h b) = nx S + 2 := rfl
theorem famS_f (hf : frsh S) : frsh (famS S h b) := by
  intro q hq
  rw [famS_x] at hq
  simp only [famS, cD_uI, cD_uR, cD_nw]
  rw [set1_n _ _ (by rw [nx_nw]; omega), set1_n _ _ (by omega)]
  exact hf q (by omega)
theorem famS_d0 : cD (famS S h b) (nx S) = 1 := by
  simp only [famS, cD_uI, cD_uR, cD_nw]
  rw [set1_n _ _ (by rw [nx_nw]; omega), set1_s]
theorem famS_d1 : cD (famS S h b) (nx S + 1) = 41 := by
  simp only [famS, cD_uI, cD_uR, cD_nw (nw S 1 0), nx_nw]
  rw [set1_s]
theorem famS_n1 : cN (famS S h b) (nx S + 1) = 20 := by
  simp only [famS, cN_uI, cN_uR, cN_nw (nw S 1 0), nx_nw]
  rw [set1_s]
theorem famS_r22 : cR (famS S h b) 22 (nx S) = some (nx S + 1) := by
  simp only [famS, cR_uI]
  rw [cR_uR, set1_n _ _ (by decide), cR_uR, set1_s, set1_s]
theorem famS_r23 : cR (famS S h b) 23 (nx S) = none := by
  simp only [famS, cR_uI]
  rw [cR_uR, set1_s, set1_s]
theorem famS_i20 : cI (famS S h b) 20 (nx S) = h := by
  simp only [famS]
  rw [cI_uI, set1_n _ _ (by decide), cI_uI, set1_s, set1_s]
theorem famS_i21 : cI (famS S h b) 21 (nx S) = b := by
  simp only [famS]
  rw [cI_uI, set1_s, set1_s]
theorem famS_a (j : Nat) : cA (famS S h b) 41 (nx S + 1) j = 0 := by
  simp only [famS, cA_uI, cA_uR]
  rw [cA_nw]
  show set1 _ (nx S + 1) (fun _ => (0 : Int32)) (nx S + 1) j = 0
  rw [set1_s]
end FAMS
theorem famS_facts (S : CS) (hf : frsh S) (h b : Int32) : keep S (famS S h b) [] [] [] [] ∧ nx (famS S h b) = nx S + 2 ∧ frsh (famS S h b) ∧ cD (famS S h b) (nx S) = 1 ∧ (cD (famS S h b) (nx S + 1) = 41 ∧ cN (famS S h b) (nx S + 1) = 20) ∧ cR (famS S h b) 22 (nx S) = some (nx S + 1) ∧ cR (famS S h b) 23 (nx S) = none ∧ cI (famS S h b) 20 (nx S) = h ∧ cI (famS S h b) 21 (nx S) = b ∧ ∀ j, cA (famS S h b) 41 (nx S + 1) j = 0 :=
  ⟨famS_k S h b hf, famS_x S h b, famS_f S h b hf, famS_d0 S h b, ⟨famS_d1 S h b, famS_n1 S h b⟩, famS_r22 S h b, famS_r23 S h b, famS_i20 S h b, famS_i21 S h b, famS_a S h b⟩
theorem led_new {x : MS} (hw : rWho x) {g : Int32} (h40 : nN x 16 < 100) : ledN x g (nI (nN x 16)) (nN x 32) = 0 := by
  have : ∀ m, m ≤ nN x 32 → ledN x g (nI (nN x 16)) m = 0 := by
    intro m
    induction m with
    | zero => intro _; rfl
    | succ m ih =>
      intro hm
      have st : ledN x g (nI (nN x 16)) (m + 1) = if mA x 33 m = nI (nN x 16) then linN x g (nA x 35 m) (ledN x g (nI (nN x 16)) m) (nA x 35 (m + 1) - nA x 35 m) else ledN x g (nI (nN x 16)) m := rfl
      obtain ⟨f, hf, e⟩ := hw.1 m (by omega)
      rw [st, if_neg (by rw [e, nI_eq (by omega) (by omega)]; omega)]
      exact ih (by omega)
  exact this _ (Nat.le_refl _)
theorem st_family (n : Nat × Nat) (hae : n.2 = ae) (h : Rep ae k M x S) (a b c : Int32) : ∃ (M' : Nat → Nat → Nat) (T : CS) (mc ms : Nat), fX11_family n S (M 0 0) a b c = some (((familyF x a b c).1, T), mc, ms) ∧ mc ≤ 1100 ∧ ms ≤ 14000 ∧ M' 0 0 = M 0 0 ∧ Rep ae (k + 1) M' (familyF x a b c).2 T := by
  have hF := g_rFix h
  have hL := (g_rFamL h).1
  have o16 := (g_rOk h).2.2.2.1
  have h40 := o16.2
  have kl : cD S (M 0 6) = 22 := hL.1
  have e40 : (nI (nN x 16) < 40) ↔ nN x 16 < 40 := nI_ltI (b := 40) (by omega) (by decide)
  cases h1 : isB b 1 12
  · exact ⟨M, uI S 251 (M 0 0) (-1), 0, 0, by simp [fX11_family, familyF, grd, bnd, cal, un2, ev_within, h1, bI, hF.1, ev_refuse _ hF.1], by omega, by omega, rfl, by simp only [familyF, h1, Bool.false_and]; exact rep_no (by decide) h⟩
  cases h2 : isB c 0 255
  · exact ⟨M, uI S 251 (M 0 0) (-1), 0, 0, by simp [fX11_family, familyF, grd, bnd, cal, un2, ev_within, h1, h2, bI, hF.1, ev_refuse _ hF.1], by omega, by omega, rfl, by simp only [familyF, h1, h2, Bool.and_false]; exact rep_no (by decide) h⟩
  cases h3 : ixB (mI x 13) a
  · exact ⟨M, uI S 251 (M 0 0) (-2), 0, 0, by simp [fX11_family, familyF, grd, bnd, cal, un2, oel, ev_within, ev_findTable n h, h1, h2, h3, bI, hF.1, ev_refuse _ hF.1], by omega, by omega, rfl, by simp only [familyF, h1, h2, h3, Bool.and_self, if_true]; exact rep_no (by decide) h⟩
  by_cases cc : nN x 16 = 40
  · refine ⟨M, uI S 251 (M 0 0) (-5), 0, 0, ?_, by omega, by omega, rfl, ?_⟩
    · have : ¬ nI (nN x 16) < 40 := fun z => by have := e40.mp z; omega
      simp only [fX11_family, familyF, grd, onn, oel, cal, bnd, ev_within, ev_findTable n h, h1, h2, h3, bI, hF.1, hF.2.2.2.2.2.2.2.1, kl, ev_size n hL, if_true, if_neg this, if_neg n10, ev_refuse _ hF.1, un2, if_pos cc, Bool.and_self]
    · simp only [familyF, h1, h2, h3, Bool.and_self, if_true, if_pos cc]
      exact rep_no (by decide) h
  · have hlt : nN x 16 < 40 := by omega
    obtain ⟨hB1, hB2, hB3⟩ := g_rBase h
    obtain ⟨f1, f2, f3, f4, f5, f6, f7, f8, f9, f10⟩ := famS_facts S hB1 b c
    have k0 : cD (famS S b c) ae = 0 := by
      rw [f1.1.1.2 ae hB3]; exact hB2
    have hL1 : listOk ae (famS S b c) 2 (M 0 6) (nN x 16) (M 5) := keep_list f1 hL (by decide) (by decide) (by decide)
    obtain ⟨T, mc, ms, ea, a1, a2, a3, a4, a5, -⟩ := ev_add n hae f3 k0 (by rw [f2]; omega) hL1 (by omega) (v := nx S) f4
    have kT : keep S T [gM 2, gS 2] [gE 2] [] [32] := kpre (keep_tr f1 a4) (by simp) (by simp) (by simp) (by simp)
    have hFT : rFix M T := k_rFix kT (by decide) hF
    have klT : cD T (M 0 6) = 22 := a3.1
    have szT := ev_size n a3
    have e1 : nI (nN x 16 + 1) - 1 = nI (nN x 16) := nI_pred _
    have kTe : cD T ae = 0 := by
      rw [kT.1.1.2 ae hB3]; exact hB2
    obtain ⟨M', eM⟩ : ∃ z, z = setM (setM M 5 (nN x 16) (nx S)) 6 (nN x 16) (nx S + 1) := ⟨_, rfl⟩
    refine ⟨M', uI T 251 (M 0 0) 0, 1 + (1 + (mc + 0)), 4 + (20 + (ms + 0)), ?_, by omega, by omega, by rw [eM]; rfl, ?_⟩
    · have := e40.mpr hlt
      simp only [fX11_family, familyF, grd, onn, oel, cal, bnd, ev_within, ev_findTable n h, h1, h2, h3, bI, hF.1, hF.2.2.2.2.2.2.2.1, kl, ev_size n hL, if_true, if_pos this, if_neg n10, ev_fam_init, un2, hL1.1, ea, hFT.1, hFT.2.2.2.2.2.2.2.1, klT, szT, e1, ev_accept _ hFT.1, adc, if_neg cc, Bool.and_self]
    · have m5 : ∀ i, M' 5 i = if i = nN x 16 then nx S else M 5 i := fun i => by rw [eM]; simp [setM]
      have m6 : ∀ i, M' 6 i = if i = nN x 16 then nx S + 1 else M 6 i := fun i => by rw [eM]; simp [setM]
      have mo : ∀ f, f ≠ 5 → f ≠ 6 → M' f = M f := fun f z2 z3 => by funext i; rw [eM]; simp [setM, z2, z3]
      have hx : nN (familyX x (nN x 16) a b c) 16 = nN x 16 + 1 := by
        show (upd x.1 16 (nI (nN x 16 + 1)) 16).toNatClampNeg = _
        rw [show ∀ v, upd x.1 16 v 16 = v from fun v => if_pos rfl, nI_clamp (by omega)]
      have l3 : ∀ t, t < nN x 16 → M 5 t < nx S ∧ M 6 t < nx S := fun t ht => by
        have q := g_rFam h t ht
        refine ⟨?_, ?_⟩
        · rcases Nat.lt_or_ge (M 5 t) (nx S) with z | z
          · exact z
          · have := hB1 _ z; omega
        · rcases Nat.lt_or_ge (M 6 t) (nx S) with z | z
          · exact z
          · have := hB1 _ z; omega
      simp only [familyF, h1, h2, h3, Bool.and_self, if_true, if_neg cc]
      rw [show M 0 0 = M' 0 0 by rw [mo 0 (by decide) (by decide)]]
      refine rep_yes (by decide) ?_
      have hk := kT
      obtain ⟨hB, hOk, hLim, hNew, hSum, hWho, hFix, hNum, hSta, hCon, hLotL, hLot, hCha, hWei, hTabL, hTab, hWan, hGot, hLoa, hFamL, hFam, hHad, hRef, hParL, hPar, hTap, hRul, hVan, hRoa, hSto⟩ := h
      exact ⟨⟨a5, kTe, by have := kT.1.1.1; omega⟩,
    by
      obtain ⟨q0, q1, q2, q3, q4⟩ := hOk
      exact ⟨q0, q1, q2, ⟨by show nI (nN x 16 + 1) = nI _; rw [hx], by rw [hx]; omega⟩, q4⟩,
    ⟨hLim.1, hLim.2.1, hLim.2.2.1, hLim.2.2.2.1, fun i hi => by
      rw [hx] at hi
      show isB (upd (mA x 18) (nN x 16) b i) 1 12 = true
      by_cases e : i = nN x 16
      · rw [e, pk_us]; exact h1
      · rw [pk_un e]; exact hLim.2.2.2.2 i (by omega)⟩,
    k_rNew rfl rfl rfl rfl rfl hNew,
    k_rSum rfl rfl rfl rfl rfl rfl rfl hSum,
    ⟨fun p hp => by
      obtain ⟨f, hf, e⟩ := hWho.1 p hp
      exact ⟨f, by rw [hx]; omega, e⟩, fun p hp => by
      obtain ⟨f, hf, e⟩ := hWho.2.1 p hp
      exact ⟨f, by rw [hx]; omega, e⟩, hWho.2.2⟩,
    (show _ from by rw [eM]; exact k_rFix hk rfl hFix),
    (show _ from by rw [eM]; exact k_rNum hk rfl rfl rfl rfl hNum),
    (show _ from by rw [eM]; exact k_rSta hk rfl rfl hSta),
    (show _ from by rw [eM]; exact k_rCon hk rfl rfl hCon),
    (show _ from by rw [eM]; exact k_rLotL hk rfl rfl rfl rfl hLotL),
    (show _ from by rw [eM]; exact k_rLot hk rfl rfl rfl rfl rfl rfl rfl rfl rfl rfl hLot),
    (show _ from by rw [eM]; exact k_rCha hk rfl rfl rfl rfl rfl hCha),
    (show _ from by rw [eM]; exact k_rWei hk rfl rfl rfl rfl rfl rfl rfl hWei),
    (show _ from by rw [eM]; exact k_rTabL hk rfl rfl rfl rfl hTabL),
    (show _ from by rw [eM]; exact k_rTab hk rfl rfl hTab),
    (show _ from by rw [eM]; exact k_rWan hk rfl rfl rfl hWan),
    (show _ from by rw [eM]; exact k_rGot hk rfl rfl rfl hGot),
    (show _ from by rw [eM]; exact k_rLoa hk rfl rfl rfl rfl hLoa),
    by
      refine ⟨?_, fun i j hi hj e => ?_, fun i j hi hj e => ?_⟩
      · rw [mo 0 (by decide) (by decide), hx, show M' 5 = fun i => if i = nN x 16 then nx S else M 5 i from funext m5]; exact a3
      · rw [hx] at hi hj
        rw [m5, m5] at e
        by_cases e1 : i = nN x 16 <;> by_cases e2 : j = nN x 16 <;> simp only [e1, e2, if_true, if_false] at e
        · omega
        · have := (l3 j (by omega)).1; omega
        · have := (l3 i (by omega)).1; omega
        · exact hFamL.2.1 i j (by omega) (by omega) e
      · rw [hx] at hi hj
        rw [m6, m6] at e
        by_cases e1 : i = nN x 16 <;> by_cases e2 : j = nN x 16 <;> simp only [e1, e2, if_true, if_false] at e
        · omega
        · have := (l3 j (by omega)).2; omega
        · have := (l3 i (by omega)).2; omega
        · exact hFamL.2.2 i j (by omega) (by omega) e,
    fun i hi => by
      rw [hx] at hi
      rw [m5, m6]
      show _ ∧ cI T 20 _ = upd (mA x 18) (nN x 16) b i ∧ cI T 21 _ = upd (mA x 19) (nN x 16) c i ∧ _
      by_cases e1 : i = nN x 16
      · rw [if_pos e1, if_pos e1, e1, pk_us, pk_us]
        exact ⟨kD a4 f4 (by decide), kI a4 f4 (by decide) (by decide) f8, kI a4 f4 (by decide) (by decide) f9, kR a4 f4 (by decide) (by decide) f6, kD a4 f5.1 (by decide), kN a4 f5.1 (by decide) f5.2⟩
      · rw [if_neg e1, if_neg e1, pk_un e1, pk_un e1]
        exact k_rFam (x' := x) hk rfl rfl rfl rfl rfl hFam i (by omega),
    fun i hi => by
      rw [hx] at hi
      rw [m6]
      show _ ∧ ∀ g, g < 20 → (cA T 41 _ g).toInt64 = ledN x (nI g) (nI i) (nN x 32)
      by_cases e1 : i = nN x 16
      · rw [if_pos e1]
        refine ⟨kD a4 f5.1 (by decide), fun g hg => ?_⟩
        rw [kA a4 f5.1 (by decide) (by decide) g (f10 g), e1, led_new hWho (by omega)]
        rfl
      · rw [if_neg e1]
        exact k_rHad (x' := x) hk rfl rfl rfl rfl rfl rfl rfl rfl hHad i (by omega),
    by
      have q := k_rRef (x' := x) hk rfl rfl rfl rfl rfl rfl rfl rfl hRef
      refine ⟨by rw [mo 7 (by decide) (by decide)]; exact q.1, by rw [mo 7 (by decide) (by decide)]; exact q.2.1, fun i hi => ?_⟩
      rw [hx] at hi
      rw [m5, mo 7 (by decide) (by decide)]
      by_cases e1 : i = nN x 16
      · rw [if_pos e1]
        refine ⟨kD a4 f4 (by decide), [], kR a4 f4 (by decide) (by decide) f7, fun e => ⟨fun z => absurd z List.not_mem_nil, fun z => ?_⟩, List.Pairwise.nil⟩
        obtain ⟨f, hf, ef⟩ := hWho.2.1 e z.1
        have z2 : mA x 21 e = nI i := z.2
        rw [ef, e1, nI_eq (by omega) (by omega)] at z2
        omega
      · rw [if_neg e1]
        exact q.2.2 i (by omega),
    (show _ from by rw [eM]; exact k_rParL hk rfl rfl rfl rfl hParL),
    (show _ from by rw [eM]; exact k_rPar hk rfl rfl rfl rfl rfl rfl rfl rfl rfl rfl rfl hPar),
    (show _ from by rw [eM]; exact k_rTap hk rfl rfl rfl rfl rfl hTap),
    (show _ from by rw [eM]; exact k_rRul hk rfl rfl rfl rfl rfl rfl rfl rfl hRul),
    (show _ from by rw [eM]; exact k_rVan hk rfl hVan),
    (show _ from by rw [eM]; exact k_rRoa hk rfl rfl rfl hRoa),
    (show _ from by rw [eM]; exact k_rSto hk rfl rfl rfl rfl hSto)⟩
end M7
