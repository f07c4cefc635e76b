/-! PURE: a referral -/
theorem chn_cong {S : CS} {d g : Nat} {f f' : Nat → Nat} : ∀ (js : List Nat) (o : Option Nat), (∀ j ∈ js, f j = f' j) → chn S d g f o js → chn S d g f' o js
  | [], _, _, h => h
  | j :: js, o, hf, h => by
    have e := hf j (List.mem_cons_self)
    obtain ⟨h1, h2, h3⟩ := h
    rw [e] at h1 h2 h3
    exact ⟨h1, h2, chn_cong js _ (fun q hq => hf q (List.mem_cons_of_mem _ hq)) h3⟩
section M8
variable {ae k : Nat} {M : Nat → Nat → Nat} {x : MS} {S : CS}
def refS (S : CS) (o : Option Nat) (a b q : Int32) : CS := uR (uI (uI (uI (nw S 5 0) 100 (nx S) a) 101 (nx S) b) 102 (nx S) q) 103 (nx S) o
theorem refS_k (S : CS) (hf : frsh S) (o : Option Nat) (a b q : Int32) : keep S (refS S o a b q) [] [] [] [] := by
  have h0 : cD S (nx S) = 0 := hf _ (Nat.le_refl _)
  unfold refS
  refine kn_R ?_ h0 _ _
  refine kn_I ?_ h0 _ _
  refine kn_I ?_ h0 _ _
  refine kn_I ?_ h0 _ _
  exact kn_w (keep_rf S) hf 5 0
theorem st_refer (n : Nat × Nat) (h : Rep ae k M x S) (a b c d : Int32) : ∃ (M' : Nat → Nat → Nat) (T : CS) (mc ms : Nat), fX11_refer n S (M 0 0) a b c d = some (((referF x a b c d).1, T), mc, ms) ∧ mc ≤ 1100 ∧ ms ≤ 14000 ∧ M' 0 0 = M 0 0 ∧ Rep ae (k + 1) M' (referF x a b c d).2 T := by
  have hF := g_rFix h
  have hNm := g_rNum h
  have o20 := (g_rOk h).2.2.2.2.1
  have h100 := o20.2
  have e100 : (nI (nN x 20) < 100) ↔ nN x 20 < 100 := nI_ltI (b := 100) (by omega) (by decide)
  cases h1 : isB b 0 1000
  · exact ⟨M, uI S 251 (M 0 0) (-1), 0, 0, by simp [fX11_refer, referF, grd, bnd, cal, un2, ev_within, h1, bI, hF.1, ev_refuse _ hF.1], by omega, by omega, rfl, by simp only [referF, h1, Bool.false_and]; exact rep_no (by decide) h⟩
  cases h2 : isB c b 1000
  · exact ⟨M, uI S 251 (M 0 0) (-1), 0, 0, by simp [fX11_refer, referF, grd, bnd, cal, un2, ev_within, h1, h2, bI, hF.1, ev_refuse _ hF.1], by omega, by omega, rfl, by simp only [referF, h1, h2, Bool.and_false, Bool.false_and]; exact rep_no (by decide) h⟩
  cases h3 : isB d 1 20
  · exact ⟨M, uI S 251 (M 0 0) (-1), 0, 0, by simp [fX11_refer, referF, grd, bnd, cal, un2, ev_within, h1, h2, h3, bI, hF.1, ev_refuse _ hF.1], by omega, by omega, rfl, by simp only [referF, h3, Bool.and_false]; exact rep_no (by decide) h⟩
  cases h4 : ixB (mI x 16) a
  · exact ⟨M, uI S 251 (M 0 0) (-2), 0, 0, by simp [fX11_refer, referF, grd, bnd, cal, un2, oel, ev_within, ev_findFamily n h, h1, h2, h3, h4, bI, hF.1, ev_refuse _ hF.1], by omega, by omega, rfl, by simp only [referF, h1, h2, h3, h4, Bool.and_self, if_true]; exact rep_no (by decide) h⟩
  by_cases cc : nN x 20 = 100
  · refine ⟨M, uI S 251 (M 0 0) (-5), 0, 0, ?_, by omega, by omega, rfl, ?_⟩
    · have : ¬ nI (nN x 20) < 100 := fun z => by have := e100.mp z; omega
      simp only [fX11_refer, referF, grd, onn, oel, cal, bnd, ev_within, ev_findFamily n h, h1, h2, h3, h4, bI, hF.1, hNm.2.2.1, o20.1, if_true, if_neg this, if_neg n10, ev_refuse _ hF.1, un2, if_pos cc, Bool.and_self]
    · simp only [referF, h1, h2, h3, h4, Bool.and_self, if_true, if_pos cc]
      exact rep_no (by decide) h
  · have hlt : nN x 20 < 100 := by omega
    obtain ⟨j, hj, rfl⟩ := ixB_of (g_rOk h).2.2.2.1 h4 (by decide)
    have h40 := (g_rOk h).2.2.2.1.2
    have ej : (nI j).toNatClampNeg = j := nI_clamp (by omega)
    obtain ⟨hB1, hB2, hB3⟩ := g_rBase h
    have hfj := g_rFam h j hj
    have lt0 : ∀ q, cD S q ≠ 0 → q < nx S := fun q hq => by
      rcases Nat.lt_or_ge q (nx S) with z | z
      · exact z
      · exact absurd (hB1 q z) hq
    have hfx : M 5 j < nx S := lt0 _ (by rw [hfj.1]; decide)
    have h0x : M 0 0 < nx S := lt0 _ (by rw [hF.1]; decide)
    have hd0 : 0 ≤ d := by
      simp only [isB, Bool.and_eq_true, decide_eq_true_eq, Int32.le_iff_toInt_le] at h3 ⊢
      have z1 : (1 : Int32).toInt = 1 := by decide
      have z0 : (0 : Int32).toInt = 0 := by decide
      omega
    obtain ⟨S1, eS1⟩ : ∃ z, z = refS S (cR S 23 (M 5 j)) b c d := ⟨_, rfl⟩
    have k1 : keep S S1 [] [] [] [] := by rw [eS1]; exact refS_k S hB1 _ _ _ _
    obtain ⟨w, ew⟩ : ∃ z : Int32, z = nI (nN x 20) + 1 := ⟨_, rfl⟩
    obtain ⟨T, eT⟩ : ∃ z, z = uI (uR S1 23 (M 5 j) (some (nx S))) 249 (M 0 0) w := ⟨_, rfl⟩
    have kT : keep S T [249] [23] [] [] := by
      rw [eT]
      exact kpre (keep_tr k1 (keep_tr (keep_uR S1 23 (M 5 j) (some (nx S))) (keep_uI _ 249 (M 0 0) w))) (by simp) (by simp) (by simp) (by simp)
    have hFT : rFix M T := k_rFix kT (by decide) hF
    have kTe : cD T ae = 0 := by rw [kT.1.1.2 ae hB3]; exact hB2
    have fT : frsh T := by
      intro q hq
      rw [eT, eS1] at hq ⊢
      simp only [refS, nx_uI, nx_uR, nx_nw, cD_uI, cD_uR, cD_nw] at hq ⊢
      rw [set1_n _ _ (by omega)]
      exact hB1 q (by omega)
    have t0 : cD T (nx S) = 5 := by
      rw [eT, cD_uI, cD_uR, eS1]
      unfold refS
      rw [cD_uR, cD_uI, cD_uI, cD_uI, cD_nw, set1_s]
    have t1 : cI T 100 (nx S) = b := by
      rw [eT, cI_uI, set1_n _ _ (by decide), cI_uR, eS1]
      unfold refS
      rw [cI_uR, cI_uI, set1_n _ _ (by decide), cI_uI, set1_n _ _ (by decide), cI_uI, set1_s, set1_s]
    have t2 : cI T 101 (nx S) = c := by
      rw [eT, cI_uI, set1_n _ _ (by decide), cI_uR, eS1]
      unfold refS
      rw [cI_uR, cI_uI, set1_n _ _ (by decide), cI_uI, set1_s, set1_s]
    have t3 : cI T 102 (nx S) = d := by
      rw [eT, cI_uI, set1_n _ _ (by decide), cI_uR, eS1]
      unfold refS
      rw [cI_uR, cI_uI, set1_s, set1_s]
    have t4 : cR T 23 (M 5 j) = some (nx S) := by rw [eT, cR_uI, cR_uR, set1_s, set1_s]
    have t5 : cR T 103 (nx S) = cR S 23 (M 5 j) := by
      rw [eT, cR_uI, cR_uR, set1_n _ _ (by decide), eS1]
      unfold refS
      rw [cR_uR, set1_s, set1_s]
    have t6 : ∀ i, i < nN x 16 → i ≠ j → cR T 23 (M 5 i) = cR S 23 (M 5 i) := fun i hi e => by
      rw [eT, cR_uI, cR_uR, set1_s, set1_n _ _ (fun z => e ((g_rFamL h).2.1 i j hi hj z))]
      exact k1.2.2.1 23 (by simp) _ (by rw [(g_rFam h i hi).1]; decide)
    obtain ⟨M', eM⟩ : ∃ z, z = setM M 7 (nN x 20) (nx S) := ⟨_, rfl⟩
    refine ⟨M', uI T 251 (M 0 0) 0, 1 + 0, 4 + 0, ?_, by omega, by omega, by rw [eM]; rfl, ?_⟩
    · have := e100.mpr hlt
      have d1 : cD (nw S 5 0) (M 5 j) = 1 := by rw [cD_nw, set1_n _ _ (by omega)]; exact hfj.1
      have d2 : cR (nw S 5 0) 23 (M 5 j) = cR S 23 (M 5 j) := by rw [cR_nw]; exact set1_n _ _ (by omega)
      have d3 : fX4_init n (nw S 5 0) (nx S) b c d (cR S 23 (M 5 j)) = some S1 := by
        simp only [fX4_init, grd, bnd, cD_new, if_true, eS1, refS]
      have d4 : cD S1 (M 5 j) = 1 := kD k1 hfj.1 (by decide)
      have d5 : cD (uR S1 23 (M 5 j) (some (nx S))) (M 0 0) = 12 := kD k1 hF.1 (by decide)
      have d6 : cI (uR S1 23 (M 5 j) (some (nx S))) 249 (M 0 0) = nI (nN x 20) := by rw [cI_uR, ← o20.1]; exact kI k1 hF.1 (by decide) (by decide) hNm.2.2.1
      have d7 : cI T 249 (M 0 0) = nI (nN x 20 + 1) := by rw [eT, cI_uI, set1_s, set1_s, ew, nI_1]
      simp only [fX11_refer, referF, grd, onn, oel, cal, bnd, ev_within, ev_findFamily n h, h1, h2, h3, h4, bI, hF.1, hNm.2.2.1, o20.1, if_true, if_pos this, if_neg n10, un2, ej, d1, d2, d3, d4, d5, d6, ← ew, ← eT, d7, ev_accept _ hFT.1, adc, if_neg cc, Bool.and_self]
    · have m7 : ∀ i, M' 7 i = if i = nN x 20 then nx S else M 7 i := fun i => by rw [eM]; simp [setM]
      have mo : ∀ f, f ≠ 7 → M' f = M f := fun f z2 => by funext i; rw [eM]; simp [setM, z2]
      have hx : nN (referX x (nN x 20) (nI j) b c d) 20 = nN x 20 + 1 := by
        show (upd x.1 20 (nI (nN x 20 + 1)) 20).toNatClampNeg = _
        rw [show ∀ v, upd x.1 20 v 20 = v from fun v => if_pos rfl, nI_clamp (by omega)]
      have l3 : ∀ e, e < nN x 20 → M 7 e < nx S := fun e he => lt0 _ (by rw [((g_rRef h).2.1 e he).1]; decide)
      simp only [referF, h1, h2, h3, h4, Bool.and_self, if_true, if_neg cc]
      rw [show M 0 0 = M' 0 0 by rw [mo 0 (by decide)]]
      refine rep_yes ?_ ?_
      · exact (by decide)
      have hk := kT
      obtain ⟨hB, hOk, hLim, hNew, hSum, hWho, hFix, hNum, hSta, hCon, hLotL, hLot, hCha, hWei, hTabL, hTab, hWan, hGot, hLoa, hFamL, hFam, hHad, hRef, hParL, hPar, hTap, hRul, hVan, hRoa, hSto⟩ := h
      exact ⟨⟨fT, kTe, by have := kT.1.1.1; omega⟩,
    by
      obtain ⟨q0, q1, q2, q3, q4, q5⟩ := hOk
      exact ⟨q0, q1, q2, q3, ⟨by show nI (nN x 20 + 1) = nI _; rw [hx], by rw [hx]; omega⟩, q5⟩,
    k_rLim rfl rfl rfl rfl rfl rfl rfl rfl rfl rfl rfl rfl rfl rfl rfl rfl hLim,
    k_rNew rfl rfl rfl rfl rfl hNew,
    k_rSum rfl rfl rfl rfl rfl rfl rfl hSum,
    ⟨hWho.1, fun e he => by
      rw [hx] at he
      show ∃ f, f < nN x 16 ∧ upd (mA x 21) (nN x 20) (nI j) e = nI f
      by_cases e1 : e = nN x 20
      · rw [e1, pk_us]; exact ⟨j, hj, rfl⟩
      · rw [pk_un e1]; exact hWho.2.1 e (by omega), hWho.2.2⟩,
    (show _ from by rw [eM]; exact k_rFix hk rfl hFix),
    by
      have z0 : M' 0 = M 0 := mo 0 (by decide)
      unfold rNum
      rw [z0]
      exact ⟨hFT.1, (kI hk hF.1 (by decide) (by decide) hNum.2.1), by rw [eT, cI_uI, set1_s, set1_s, ew, nI_1]; rfl, (kI hk hF.1 (by decide) (by decide) hNum.2.2.2)⟩,
    (show _ from by rw [eM]; exact k_rSta hk rfl rfl hSta),
    (show _ from by rw [eM]; exact k_rCon hk rfl rfl hCon),
    (show _ from by rw [eM]; exact k_rLotL hk rfl rfl rfl rfl hLotL),
    (show _ from by rw [eM]; exact k_rLot hk rfl rfl rfl rfl rfl rfl rfl rfl rfl rfl hLot),
    (show _ from by rw [eM]; exact k_rCha hk rfl rfl rfl rfl rfl hCha),
    (show _ from by rw [eM]; exact k_rWei hk rfl rfl rfl rfl rfl rfl rfl hWei),
    (show _ from by rw [eM]; exact k_rTabL hk rfl rfl rfl rfl hTabL),
    (show _ from by rw [eM]; exact k_rTab hk rfl rfl hTab),
    (show _ from by rw [eM]; exact k_rWan hk rfl rfl rfl hWan),
    (show _ from by rw [eM]; exact k_rGot hk rfl rfl rfl hGot),
    (show _ from by rw [eM]; exact k_rLoa hk rfl rfl rfl rfl hLoa),
    (show _ from by rw [eM]; exact k_rFamL hk rfl rfl rfl rfl hFamL),
    (show _ from by rw [eM]; exact k_rFam hk rfl rfl rfl rfl rfl hFam),
    (show _ from by rw [eM]; exact k_rHad hk rfl rfl rfl rfl rfl rfl rfl rfl hHad),
    by
      have z5 : ∀ i, M' 5 i = M 5 i := fun i => congrFun (mo 5 (by decide)) i
      refine ⟨fun i i' hi hi' e => ?_, fun e he => ?_, fun i hi => ?_⟩
      · rw [hx] at hi hi'
        rw [m7, m7] at e
        by_cases e1 : i = nN x 20 <;> by_cases e2 : i' = nN x 20 <;> simp only [e1, e2, if_true, if_false] at e
        · omega
        · have := l3 i' (by omega); omega
        · have := l3 i (by omega); omega
        · exact hRef.1 i i' (by omega) (by omega) e
      · rw [hx] at he
        rw [m7]
        show _ ∧ _ = upd (mA x 22) (nN x 20) b e ∧ _ = upd (mA x 23) (nN x 20) c e ∧ _ = upd (mA x 24) (nN x 20) d e ∧ 0 ≤ upd (mA x 24) (nN x 20) d e
        by_cases e1 : e = nN x 20
        · rw [if_pos e1, e1, pk_us, pk_us, pk_us]
          exact ⟨t0, t1, t2, t3, hd0⟩
        · rw [if_neg e1, pk_un e1, pk_un e1, pk_un e1]
          have q := hRef.2.1 e (by omega)
          exact ⟨kD hk q.1 (by decide), kI hk q.1 (by decide) (by decide) q.2.1, kI hk q.1 (by decide) (by decide) q.2.2.1, kI hk q.1 (by decide) (by decide) q.2.2.2.1, q.2.2.2.2⟩
      · have hi : i < nN x 16 := hi
        obtain ⟨g0, es, g1, g2, g3⟩ := hRef.2.2 i hi
        have gk : chn T 5 103 (M' 7) (cR S 23 (M 5 i)) es := chn_cong es _ (fun e he => by rw [m7, if_neg (by have := ((g2 e).mp he).1; omega)]) (keep_chn hk (by decide) (by decide) es _ g1)
        rw [z5]
        show _ ∧ ∃ es : List Nat, _ ∧ (∀ e, e ∈ es ↔ e < nN (referX x (nN x 20) (nI j) b c d) 20 ∧ upd (mA x 21) (nN x 20) (nI j) e = nI i) ∧ _
        rw [hx]
        refine ⟨kD hk g0 (by decide), ?_⟩
        by_cases e1 : i = j
        · subst e1
          refine ⟨nN x 20 :: es, ⟨?_, ?_, ?_⟩, fun e => ?_, List.pairwise_cons.mpr ⟨fun e he => ((g2 e).mp he).1, g3⟩⟩
          · rw [m7, if_pos rfl]; exact t4
          · rw [m7, if_pos rfl]; exact t0
          · rw [m7, if_pos rfl, t5]; exact gk
          · by_cases e2 : e = nN x 20
            · subst e2; rw [pk_us]; exact ⟨fun _ => ⟨by omega, rfl⟩, fun _ => List.mem_cons_self⟩
            · rw [pk_un e2]
              constructor
              · intro z
                rcases List.mem_cons.mp z with z | z
                · exact absurd z e2
                · exact ⟨by have := ((g2 e).mp z).1; omega, ((g2 e).mp z).2⟩
              · intro z
                exact List.mem_cons_of_mem _ ((g2 e).mpr ⟨by omega, z.2⟩)
        · refine ⟨es, ?_, fun e => ?_, g3⟩
          · rw [t6 i hi e1]; exact gk
          · by_cases e2 : e = nN x 20
            · subst e2
              rw [pk_us]
              constructor
              · intro z; have := ((g2 _).mp z).1; omega
              · intro z
                have := z.2
                rw [nI_eq (by omega) (by omega)] at this
                exact absurd this.symm e1
            · rw [pk_un e2]
              exact ⟨fun z => ⟨by have := ((g2 e).mp z).1; omega, ((g2 e).mp z).2⟩, fun z => (g2 e).mpr ⟨by omega, z.2⟩⟩,
    (show _ from by rw [eM]; exact k_rParL hk rfl rfl rfl rfl hParL),
    (show _ from by rw [eM]; exact k_rPar hk rfl rfl rfl rfl rfl rfl rfl rfl rfl rfl rfl hPar),
    (show _ from by rw [eM]; exact k_rTap hk rfl rfl rfl rfl rfl hTap),
    (show _ from by rw [eM]; exact k_rRul hk rfl rfl rfl rfl rfl rfl rfl rfl hRul),
    (show _ from by rw [eM]; exact k_rVan hk rfl hVan),
    (show _ from by rw [eM]; exact k_rRoa hk rfl rfl rfl hRoa),
    (show _ from by rw [eM]; exact k_rSto hk rfl rfl rfl rfl hSto)⟩
end M8
