/-! PURE: a weighing -/
section M9
variable {ae k : Nat} {M : Nat → Nat → Nat} {x : MS} {S : CS}
def weiS (S : CS) (o : Option Nat) (a b : Int32) : CS := uR (uI (uI (nw S 11 0) 220 (nx S) a) 221 (nx S) b) 222 (nx S) o
theorem weiS_k (S : CS) (hf : frsh S) (o : Option Nat) (a b : Int32) : keep S (weiS S o a b) [] [] [] [] := by
  have h0 : cD S (nx S) = 0 := hf _ (Nat.le_refl _)
  unfold weiS
  refine kn_R ?_ h0 _ _
  refine kn_I ?_ h0 _ _
  refine kn_I ?_ h0 _ _
  exact kn_w (keep_rf S) hf 11 0
theorem st_weigh (n : Nat × Nat) (h : Rep ae k M x S) (a b c : Int32) : ∃ (M' : Nat → Nat → Nat) (T : CS) (mc ms : Nat), fX11_weigh n S (M 0 0) a b c = some (((weighF x a b c).1, T), mc, ms) ∧ mc ≤ 1100 ∧ ms ≤ 14000 ∧ M' 0 0 = M 0 0 ∧ Rep ae (k + 1) M' (weighF x a b c).2 T := by
  have hF := g_rFix h
  have hNm := g_rNum h
  have o20 := (g_rOk h).2.2.2.2.2.2.2.1
  have h100 := o20.2
  have e100 : (nI (nN x 65) < 100) ↔ nN x 65 < 100 := nI_ltI (b := 100) (by omega) (by decide)
  cases h1 : isB b 0 1000000
  · exact ⟨M, uI S 251 (M 0 0) (-1), 0, 0, by simp [fX11_weigh, weighF, grd, bnd, cal, un2, ev_within, h1, bI, hF.1, ev_refuse _ hF.1], by omega, by omega, rfl, by simp only [weighF, h1, Bool.false_and]; exact rep_no (by decide) h⟩
  cases h2 : isB c 0 100000
  · exact ⟨M, uI S 251 (M 0 0) (-1), 0, 0, by simp [fX11_weigh, weighF, grd, bnd, cal, un2, ev_within, h1, h2, bI, hF.1, ev_refuse _ hF.1], by omega, by omega, rfl, by simp only [weighF, h2, Bool.and_false]; exact rep_no (by decide) h⟩
  cases h3 : ixB (mI x 4) a
  · exact ⟨M, uI S 251 (M 0 0) (-2), 0, 0, by simp [fX11_weigh, weighF, grd, bnd, cal, un2, onn, oel, ev_within, ev_find n h, h1, h2, h3, bI, hF.1, hF.2.1, hF.2.2.2.2.2.1, ev_refuse _ hF.1], by omega, by omega, rfl, by simp only [weighF, h1, h2, h3, Bool.and_self, if_true]; exact rep_no (by decide) h⟩
  by_cases cc : nN x 65 = 100
  · refine ⟨M, uI S 251 (M 0 0) (-5), 0, 0, ?_, by omega, by omega, rfl, ?_⟩
    · have : ¬ nI (nN x 65) < 100 := fun z => by have := e100.mp z; omega
      simp only [fX11_weigh, weighF, grd, onn, oel, cal, bnd, ev_within, ev_find n h, h1, h2, h3, bI, hF.1, hF.2.1, hF.2.2.2.2.2.1, hNm.2.2.2, o20.1, if_true, if_neg this, if_neg n10, ev_refuse _ hF.1, un2, if_pos cc, Bool.and_self]
    · simp only [weighF, h1, h2, h3, Bool.and_self, if_true, if_pos cc]
      exact rep_no (by decide) h
  · have hlt : nN x 65 < 100 := by omega
    obtain ⟨j, hj, rfl⟩ := ixB_of (g_rOk h).2.1 h3 (by decide)
    have h40 := (g_rOk h).2.1.2
    have ej : (nI j).toNatClampNeg = j := nI_clamp (by omega)
    obtain ⟨hB1, hB2, hB3⟩ := g_rBase h
    have hfj := g_rLot h j hj
    have lt0 : ∀ q, cD S q ≠ 0 → q < nx S := fun q hq => by
      rcases Nat.lt_or_ge q (nx S) with z | z
      · exact z
      · exact absurd (hB1 q z) hq
    have hfx : M 1 j < nx S := lt0 _ (by rw [hfj.1]; decide)
    have h0x : M 0 0 < nx S := lt0 _ (by rw [hF.1]; decide)
    obtain ⟨S1, eS1⟩ : ∃ z, z = weiS S (cR S 70 (M 1 j)) b c := ⟨_, rfl⟩
    have k1 : keep S S1 [] [] [] [] := by rw [eS1]; exact weiS_k S hB1 _ _ _
    obtain ⟨w, ew⟩ : ∃ z : Int32, z = nI (nN x 65) + 1 := ⟨_, rfl⟩
    obtain ⟨T, eT⟩ : ∃ z, z = uI (uR S1 70 (M 1 j) (some (nx S))) 250 (M 0 0) w := ⟨_, rfl⟩
    have kT : keep S T [250] [70] [] [] := by
      rw [eT]
      exact kpre (keep_tr k1 (keep_tr (keep_uR S1 70 (M 1 j) (some (nx S))) (keep_uI _ 250 (M 0 0) w))) (by simp) (by simp) (by simp) (by simp)
    have hFT : rFix M T := k_rFix kT (by decide) hF
    have kTe : cD T ae = 0 := by rw [kT.1.1.2 ae hB3]; exact hB2
    have fT : frsh T := by
      intro q hq
      rw [eT, eS1] at hq ⊢
      simp only [weiS, nx_uI, nx_uR, nx_nw, cD_uI, cD_uR, cD_nw] at hq ⊢
      rw [set1_n _ _ (by omega)]
      exact hB1 q (by omega)
    have t0 : cD T (nx S)= 11 := by
      rw [eT, cD_uI, cD_uR, eS1]
      unfold weiS
      rw [cD_uR, cD_uI, cD_uI, cD_nw, set1_s]
    have t1 : cI T 220 (nx S) = b := by
      rw [eT, cI_uI, set1_n _ _ (by decide), cI_uR, eS1]
      unfold weiS
      rw [cI_uR, cI_uI, set1_n _ _ (by decide), cI_uI, set1_s, set1_s]
    have t2 : cI T 221 (nx S) = c := by
      rw [eT, cI_uI, set1_n _ _ (by decide), cI_uR, eS1]
      unfold weiS
      rw [cI_uR, cI_uI, set1_s, set1_s]
    have t4 : cR T 70 (M 1 j) = some (nx S) := by rw [eT, cR_uI, cR_uR, set1_s, set1_s]
    have t5 : cR T 222 (nx S) = cR S 70 (M 1 j) := by
      rw [eT, cR_uI, cR_uR, set1_n _ _ (by decide), eS1]
      unfold weiS
      rw [cR_uR, set1_s, set1_s]
    have t6 : ∀ i, i < nN x 4 → i ≠ j → cR T 70 (M 1 i) = cR S 70 (M 1 i) := fun i hi e => by
      rw [eT, cR_uI, cR_uR, set1_s, set1_n _ _ (fun z => e ((g_rLotL h).2 i j hi hj z))]
      exact k1.2.2.1 70 (by simp) _ (by rw [(g_rLot h i hi).1]; decide)
    obtain ⟨M', eM⟩ : ∃ z, z = setM M 8 (nN x 65) (nx S) := ⟨_, rfl⟩
    refine ⟨M', uI T 251 (M 0 0) 0, 1 + 0, 3 + 0, ?_, by omega, by omega, by rw [eM]; rfl, ?_⟩
    · have := e100.mpr hlt
      have d1 : cD (nw S 11 0) (M 1 j) = 3 := by rw [cD_nw, set1_n _ _ (by omega)]; exact hfj.1
      have d2 : cR (nw S 11 0) 70 (M 1 j) = cR S 70 (M 1 j) := by rw [cR_nw]; exact set1_n _ _ (by omega)
      have d3 : fX10_init n (nw S 11 0) (nx S) b c (cR S 70 (M 1 j)) = some S1 := by
        simp only [fX10_init, grd, bnd, cD_new, if_true, eS1, weiS]
      have d4 : cD S1 (M 1 j) = 3 := kD k1 hfj.1 (by decide)
      have d5 : cD (uR S1 70 (M 1 j) (some (nx S))) (M 0 0) = 12 := kD k1 hF.1 (by decide)
      have d6 : cI (uR S1 70 (M 1 j) (some (nx S))) 250 (M 0 0) = nI (nN x 65) := by rw [cI_uR, ← o20.1]; exact kI k1 hF.1 (by decide) (by decide) hNm.2.2.2
      have d7 : cI T 250 (M 0 0) = nI (nN x 65 + 1) := by rw [eT, cI_uI, set1_s, set1_s, ew, nI_1]
      simp only [fX11_weigh, weighF, grd, onn, oel, cal, bnd, ev_within, ev_find n h, h1, h2, h3, bI, hF.1, hF.2.1, hF.2.2.2.2.2.1, hNm.2.2.2, o20.1, if_true, if_pos this, if_neg n10, un2, ej, d1, d2, d3, d4, d5, d6, ← ew, ← eT, d7, ev_accept _ hFT.1, adc, if_neg cc, Bool.and_self]
    · have m8 : ∀ i, M' 8 i = if i = nN x 65 then nx S else M 8 i := fun i => by rw [eM]; simp [setM]
      have mo : ∀ f, f ≠ 8 → M' f = M f := fun f z2 => by funext i; rw [eM]; simp [setM, z2]
      have hx : nN (weighX x (nN x 65) (nI j) b c) 65 = nN x 65 + 1 := by
        show (upd x.1 65 (nI (nN x 65 + 1)) 65).toNatClampNeg = _
        rw [show ∀ v, upd x.1 65 v 65 = v from fun v => if_pos rfl, nI_clamp (by omega)]
      have l3 : ∀ e, e < nN x 65 → M 8 e < nx S := fun e he => lt0 _ (by rw [((g_rWei h).2.1 e he).1]; decide)
      simp only [weighF, h1, h2, h3, Bool.and_self, if_true, if_neg cc]
      rw [show M 0 0 = M' 0 0 by rw [mo 0 (by decide)]]
      refine rep_yes ?_ ?_
      · exact (by decide)
      have hk := kT
      obtain ⟨hB, hOk, hLim, hNew, hSum, hWho, hFix, hNum, hSta, hCon, hLotL, hLot, hCha, hWei, hTabL, hTab, hWan, hGot, hLoa, hFamL, hFam, hHad, hRef, hParL, hPar, hTap, hRul, hVan, hRoa, hSto⟩ := h
      exact ⟨⟨fT, kTe, by have := kT.1.1.1; omega⟩,
    by
      obtain ⟨q0, q1, q2, q3, q4, q5, q6, q7, q8⟩ := hOk
      exact ⟨q0, q1, q2, q3, q4, q5, q6, ⟨by show nI (nN x 65 + 1) = nI _; rw [hx], by rw [hx]; omega⟩, q8⟩,
    k_rLim rfl rfl rfl rfl rfl rfl rfl rfl rfl rfl rfl rfl rfl rfl rfl rfl hLim,
    k_rNew rfl rfl rfl rfl rfl hNew,
    k_rSum rfl rfl rfl rfl rfl rfl rfl hSum,
    ⟨hWho.1, hWho.2.1, ⟨fun e he => by
      rw [hx] at he
      show ∃ f, f < nN x 4 ∧ upd (mA x 66) (nN x 65) (nI j) e = nI f
      by_cases e1 : e = nN x 65
      · rw [e1, pk_us]; exact ⟨j, hj, rfl⟩
      · rw [pk_un e1]; exact hWho.2.2.1 e (by omega), hWho.2.2.2⟩⟩,
    (show _ from by rw [eM]; exact k_rFix hk rfl hFix),
    by
      have z0 : M' 0 = M 0 := mo 0 (by decide)
      unfold rNum
      rw [z0]
      exact ⟨hFT.1, (kI hk hF.1 (by decide) (by decide) hNum.2.1), (kI hk hF.1 (by decide) (by decide) hNum.2.2.1), by rw [eT, cI_uI, set1_s, set1_s, ew, nI_1]; rfl⟩,
    (show _ from by rw [eM]; exact k_rSta hk rfl rfl hSta),
    (show _ from by rw [eM]; exact k_rCon hk rfl rfl hCon),
    (show _ from by rw [eM]; exact k_rLotL hk rfl rfl rfl rfl hLotL),
    (show _ from by rw [eM]; exact k_rLot hk rfl rfl rfl rfl rfl rfl rfl rfl rfl rfl hLot),
    (show _ from by rw [eM]; exact k_rCha hk rfl rfl rfl rfl rfl hCha),
    by
      have z5 : ∀ i, M' 1 i = M 1 i := fun i => congrFun (mo 1 (by decide)) i
      refine ⟨fun i i' hi hi' e => ?_, fun e he => ?_, fun i hi => ?_⟩
      · rw [hx] at hi hi'
        rw [m8, m8] at e
        by_cases e1 : i = nN x 65 <;> by_cases e2 : i' = nN x 65 <;> simp only [e1, e2, if_true, if_false] at e
        · omega
        · have := l3 i' (by omega); omega
        · have := l3 i (by omega); omega
        · exact hWei.1 i i' (by omega) (by omega) e
      · rw [hx] at he
        rw [m8]
        show _ ∧ _ = upd (mA x 67) (nN x 65) b e ∧ _ = upd (mA x 68) (nN x 65) c e
        by_cases e1 : e = nN x 65
        · rw [if_pos e1, e1, pk_us, pk_us]
          exact ⟨t0, t1, t2⟩
        · rw [if_neg e1, pk_un e1, pk_un e1]
          have q := hWei.2.1 e (by omega)
          exact ⟨kD hk q.1 (by decide), kI hk q.1 (by decide) (by decide) q.2.1, kI hk q.1 (by decide) (by decide) q.2.2⟩
      · have hi : i < nN x 4 := hi
        obtain ⟨g0, es, g1, g2, g3⟩ := hWei.2.2 i hi
        have gk : chn T 11 222 (M' 8) (cR S 70 (M 1 i)) es := chn_cong es _ (fun e he => by rw [m8, if_neg (by have := ((g2 e).mp he).1; omega)]) (keep_chn hk (by decide) (by decide) es _ g1)
        rw [z5]
        show _ ∧ ∃ es : List Nat, _ ∧ (∀ e, e ∈ es ↔ e < nN (weighX x (nN x 65) (nI j) b c) 65 ∧ upd (mA x 66) (nN x 65) (nI j) e = nI i) ∧ _
        rw [hx]
        refine ⟨kD hk g0 (by decide), ?_⟩
        by_cases e1 : i = j
        · subst e1
          refine ⟨nN x 65 :: es, ⟨?_, ?_, ?_⟩, fun e => ?_, List.pairwise_cons.mpr ⟨fun e he => ((g2 e).mp he).1, g3⟩⟩
          · rw [m8, if_pos rfl]; exact t4
          · rw [m8, if_pos rfl]; exact t0
          · rw [m8, if_pos rfl, t5]; exact gk
          · by_cases e2 : e = nN x 65
            · subst e2; rw [pk_us]; exact ⟨fun _ => ⟨by omega, rfl⟩, fun _ => List.mem_cons_self⟩
            · rw [pk_un e2]
              constructor
              · intro z
                rcases List.mem_cons.mp z with z | z
                · exact absurd z e2
                · exact ⟨by have := ((g2 e).mp z).1; omega, ((g2 e).mp z).2⟩
              · intro z
                exact List.mem_cons_of_mem _ ((g2 e).mpr ⟨by omega, z.2⟩)
        · refine ⟨es, ?_, fun e => ?_, g3⟩
          · rw [t6 i hi e1]; exact gk
          · by_cases e2 : e = nN x 65
            · subst e2
              rw [pk_us]
              constructor
              · intro z; have := ((g2 _).mp z).1; omega
              · intro z
                have := z.2
                rw [nI_eq (by omega) (by omega)] at this
                exact absurd this.symm e1
            · rw [pk_un e2]
              exact ⟨fun z => ⟨by have := ((g2 e).mp z).1; omega, ((g2 e).mp z).2⟩, fun z => (g2 e).mpr ⟨by omega, z.2⟩⟩,
    (show _ from by rw [eM]; exact k_rTabL hk rfl rfl rfl rfl hTabL),
    (show _ from by rw [eM]; exact k_rTab hk rfl rfl hTab),
    (show _ from by rw [eM]; exact k_rWan hk rfl rfl rfl hWan),
    (show _ from by rw [eM]; exact k_rGot hk rfl rfl rfl hGot),
    (show _ from by rw [eM]; exact k_rLoa hk rfl rfl rfl rfl hLoa),
    (show _ from by rw [eM]; exact k_rFamL hk rfl rfl rfl rfl hFamL),
    (show _ from by rw [eM]; exact k_rFam hk rfl rfl rfl rfl rfl hFam),
    (show _ from by rw [eM]; exact k_rHad hk rfl rfl rfl rfl rfl rfl rfl rfl hHad),
    (show _ from by rw [eM]; exact k_rRef hk rfl rfl rfl rfl rfl rfl rfl rfl hRef),
    (show _ from by rw [eM]; exact k_rParL hk rfl rfl rfl rfl hParL),
    (show _ from by rw [eM]; exact k_rPar hk rfl rfl rfl rfl rfl rfl rfl rfl rfl rfl rfl hPar),
    (show _ from by rw [eM]; exact k_rTap hk rfl rfl rfl rfl rfl hTap),
    (show _ from by rw [eM]; exact k_rRul hk rfl rfl rfl rfl rfl rfl rfl rfl hRul),
    (show _ from by rw [eM]; exact k_rVan hk rfl hVan),
    (show _ from by rw [eM]; exact k_rRoa hk rfl rfl rfl hRoa),
    (show _ from by rw [eM]; exact k_rSto hk rfl rfl rfl rfl hSto)⟩
end M9
