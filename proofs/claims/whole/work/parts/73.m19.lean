/-! PURE: a gift -/
theorem cntP_cong {f g : Nat → Int32} (n : Nat) (h : ∀ i, i < n → f i = g i) : cntP f n = cntP g n := it_cong n (fun i hi s => by rw [h i hi])
theorem led_cong {x x' : MS} {L N : Nat} (e33 : mA x' 33 = mA x 33) (e35 : mA x' 35 = mA x 35) (e38 : mA x' 38 = mA x 38) (e39 : mA x' 39 = mA x 39) (hm : ∀ p, p < N → nA x 35 (p + 1) ≤ L) (h8 : ∀ q, q < L → mA x' 8 (nA x 38 q) = mA x 8 (nA x 38 q)) (g f : Int32) : ledN x' g f N = ledN x g f N := by
  unfold ledN
  refine it_cong N (fun p hp acc => ?_)
  rw [e33]
  have e1 : ∀ i, nA x' 35 i = nA x 35 i := fun i => by unfold nA; rw [e35]
  have e2 : ∀ i, nA x' 38 i = nA x 38 i := fun i => by unfold nA; rw [e38]
  rw [e1, e1]
  have := hm p hp
  have el : linN x' g (nA x 35 p) acc (nA x 35 (p + 1) - nA x 35 p) = linN x g (nA x 35 p) acc (nA x 35 (p + 1) - nA x 35 p) := by
    unfold linN
    refine it_cong _ (fun j hj s => ?_)
    rw [e2, e39, h8 _ (by omega)]
  rw [el]
section M19
variable {ae k : Nat} {M : Nat → Nat → Nat} {x : MS} {S : CS}
theorem ev_size7 (n : Nat × Nat) {m : Nat} {f : Nat → Nat} (hF : rFix M S) (hL : listOk ae S 0 (M 0 3) m f) : fX7_size n S (M 0 2) = some (nI m) := by
  have kl : cD S (M 0 3) = 20 := hL.1
  simp only [fX7_size, grd, onn, cal, hF.2.1, hF.2.2.2.2.2.2.2.2.2.2.2.1, kl, ev_size n hL, if_true]
theorem st_gift (n : Nat × Nat) (hn : 30000 ≤ n.1) (hae : n.2 = ae) (h : Rep ae k M x S) (a b c d : Int32) : ∃ (M' : Nat → Nat → Nat) (T : CS) (mc ms : Nat), fX11_gift n S (M 0 0) a b c d = some (((giftF x a b c d).1, T), mc, ms) ∧ mc ≤ 1100 ∧ ms ≤ 14000 ∧ M' 0 0 = M 0 0 ∧ Rep ae (k + 1) M' (giftF x a b c d).2 T := by
  have hF := g_rFix h
  have hNm := g_rNum h
  have o4 := (g_rOk h).2.1
  have h200 := o4.2
  have hL := (g_rLotL h).1
  have e200 : (nI (nN x 4) < 200) ↔ nN x 4 < 200 := nI_ltI (b := 200) (by omega) (by decide)
  have sz := ev_size7 n hF hL
  cases h1 : isB a 0 9
  · exact ⟨M, uI S 251 (M 0 0) (-1), 0, 0, by simp [fX11_gift, giftF, grd, bnd, cal, un2, ev_kind, ev_within, h1, bI, hF.1, ev_refuse _ hF.1], by omega, by omega, rfl, by simp only [giftF, h1, Bool.false_and]; exact rep_no (by decide) h⟩
  cases h2 : isB b 1 1000000
  · exact ⟨M, uI S 251 (M 0 0) (-1), 0, 0, by simp [fX11_gift, giftF, grd, bnd, cal, un2, ev_kind, ev_within, h1, h2, bI, hF.1, ev_refuse _ hF.1], by omega, by omega, rfl, by simp only [giftF, h2, Bool.and_false, Bool.false_and]; exact rep_no (by decide) h⟩
  cases h3 : isB c (mI x 2) 1000
  · exact ⟨M, uI S 251 (M 0 0) (-1), 0, 0, by simp [fX11_gift, giftF, grd, bnd, cal, un2, ev_kind, ev_within, h1, h2, h3, hNm.2.1, bI, hF.1, ev_refuse _ hF.1], by omega, by omega, rfl, by simp only [giftF, h3, Bool.and_false, Bool.false_and]; exact rep_no (by decide) h⟩
  cases h4 : isB d 0 19
  · exact ⟨M, uI S 251 (M 0 0) (-1), 0, 0, by simp [fX11_gift, giftF, grd, bnd, cal, un2, ev_kind, ev_within, h1, h2, h3, h4, hNm.2.1, bI, hF.1, ev_refuse _ hF.1], by omega, by omega, rfl, by simp only [giftF, h4, Bool.and_false]; exact rep_no (by decide) h⟩
  by_cases cc : nN x 4 = 200
  · refine ⟨M, uI S 251 (M 0 0) (-5), 0, 0, ?_, by omega, by omega, rfl, ?_⟩
    · have : ¬ nI (nN x 4) < 200 := fun z => by have := e200.mp z; omega
      simp only [fX11_gift, giftF, grd, onn, oel, cal, bnd, ev_kind, ev_within, h1, h2, h3, h4, bI, hNm.2.1, hF.1, hF.2.1, hF.2.2.2.2.2.1, sz, if_true, if_neg this, if_neg n10, ev_refuse _ hF.1, un2, if_pos cc, Bool.and_self]
    · simp only [giftF, h1, h2, h3, h4, Bool.and_self, if_true, if_pos cc]
      exact rep_no (by decide) h
  · have hlt : nN x 4 < 200 := by omega
    obtain ⟨kd, hkd, rfl⟩ := isB_nI h1 (n := 10) (by decide) (by decide)
    obtain ⟨hB1, hB2, hB3⟩ := g_rBase h
    have t500 := (g_rOk h).2.2.2.2.2.2.2.2.2.1
    have lt0 : ∀ q, cD S q ≠ 0 → q < nx S := fun q hq => by
      rcases Nat.lt_or_ge q (nx S) with z | z
      · exact z
      · exact absurd (hB1 q z) hq
    obtain ⟨m, em⟩ : ∃ z, z = nN x 4 := ⟨_, rfl⟩
    obtain ⟨S1, eS1⟩ : ∃ z, z = lotS S (nI (nN x 4)) (nI kd) b c d := ⟨_, rfl⟩
    have k1 : keep S S1 [] [] [] [] := by rw [eS1]; exact lotS_k S _ _ _ _ _ hB1
    have s0 : cD S1 (nx S) = 3 := by rw [eS1]; exact lotS_d S _ _ _ _ _
    obtain ⟨M', eM⟩ : ∃ z, z = setM M 1 m (nx S) := ⟨_, rfl⟩
    have m1 : ∀ i, M' 1 i = if i = m then nx S else M 1 i := fun i => by rw [eM]; simp [setM]
    have mo : ∀ f, f ≠ 1 → M' f = M f := fun f z2 => by funext i; rw [eM]; simp [setM, z2]
    obtain ⟨T, mc, ms, ea, a1, a2, fT, kA1, sl, sc⟩ := stock_add n hn hae h k1 (by rw [eS1]; exact lotS_f S _ _ _ _ _ hB1) (by rw [eS1]; rfl) (la := c) hkd s0 (by rw [eS1]; exact lotS_61 S _ _ _ _ _) (by rw [eS1]; exact lotS_63 S _ _ _ _ _) hlt (M' 1) (by rw [m1, if_pos em.symm]) (fun i hi => by rw [m1, if_neg (by omega)])
    have kT : keep S T [gM 0, gS 0] [gE 0, 69] [] [30, 61] := kpre (keep_tr k1 kA1) (by simp) (by simp) (by simp) (by simp)
    have hFT : rFix M T := k_rFix kT (by decide) hF
    have kTe : cD T ae = 0 := by rw [kT.1.1.2 ae hB3]; exact hB2
    have szT := ev_size7 n hFT sl
    refine ⟨M', uI T 251 (M 0 0) 0, 1 + (mc + 0), 11 + (ms + 0), ?_, by omega, by omega, by rw [mo 0 (by decide)], ?_⟩
    · have := e200.mpr hlt
      have kw : keep S (nw S 3 0) [] [] [] [] := keep_nw 3 0 (hB1 _ (Nat.le_refl _))
      have hFw : rFix M (nw S 3 0) := k_rFix kw (by decide) hF
      have szw := ev_size7 n hFw (keep_list kw hL (by decide) (by decide) (by decide))
      have ini := ev_lot_init n S (nI (nN x 4)) (nI kd) b c d
      rw [← eS1] at ini
      have hF1 := k_rFix k1 (by decide) hF
      have e1 : nI (nN x 4 + 1) - 1 = nI (nN x 4) := nI_pred _
      simp only [fX11_gift, giftF, grd, onn, oel, cal, bnd, ev_kind, ev_within, h1, h2, h3, h4, bI, hNm.2.1, hF.1, hF.2.1, hF.2.2.2.2.2.1, sz, if_true, if_pos this, if_neg n10, un2, hFw.1, hFw.2.1, hFw.2.2.2.2.2.1, szw, ini, hF1.2.1, ea, adc, hFT.1, hFT.2.1, hFT.2.2.2.2.2.1, szT, e1, ev_accept _ hFT.1, if_neg cc, Bool.and_self]
    · obtain ⟨X, eX⟩ : ∃ z, z = giftX x m (nI kd) b c d := ⟨_, rfl⟩
      have hx : nN X 4 = m + 1 := by
        rw [eX]
        show (upd x.1 4 (nI (m + 1)) 4).toNatClampNeg = _
        rw [show ∀ v, upd x.1 4 v 4 = v from fun v => if_pos rfl, nI_clamp (by omega)]
      have x5 : mA X 5 = upd (mA x 5) m (nI kd) := by rw [eX]; rfl
      have x6 : mA X 6 = upd (mA x 6) m b := by rw [eX]; rfl
      have x7 : mA X 7 = upd (mA x 7) m c := by rw [eX]; rfl
      have x8 : mA X 8 = upd (mA x 8) m d := by rw [eX]; rfl
      have x9 : mA X 9 = upd (mA x 9) m b := by rw [eX]; rfl
      have x10 : mA X 10 = mA x 10 := by rw [eX]; rfl
      have x11 : mA X 11 = mA x 11 := by rw [eX]; rfl
      have x12 : mA X 12 = mA x 12 := by rw [eX]; rfl
      have l3 : ∀ i, i < nN x 4 → M 1 i < nx S := fun i hi => lt0 _ (by rw [(g_rLot h i hi).1]; decide)
      simp only [giftF, h1, h2, h3, h4, Bool.and_self, if_true, if_neg cc]
      rw [show M 0 0 = M' 0 0 by rw [mo 0 (by decide)], ← em, ← eX]
      refine rep_yes0 (by decide) ?_
      have hk := kT
      obtain ⟨hB, hOk, hLim, hNew, hSum, hWho, hFix, hNum, hSta, hCon, hLotL, hLot, hCha, hWei, hTabL, hTab, hWan, hGot, hLoa, hFamL, hFam, hHad, hRef, hParL, hPar, hTap, hRul, hVan, hRoa, hSto⟩ := h
      exact ⟨⟨fT, kTe, by have := kT.1.1.1; omega⟩,
    by
      obtain ⟨q0, q1, q2, q3, q4, q5, q6, q7, q8, q9, q10, q11, q12, q13⟩ := hOk
      refine ⟨by rw [eX]; exact q0, ⟨by rw [hx, eX]; rfl, by rw [hx]; omega⟩, by rw [eX]; exact q2, by rw [eX]; exact q3, by rw [eX]; exact q4, by rw [eX]; exact q5, by rw [eX]; exact q6, by rw [eX]; exact q7, ⟨by rw [eX]; exact q8.1, by rw [eX]; have := q8.2; show nN x 32 ≤ k + 1; omega⟩, by rw [eX]; exact q9, by rw [eX]; exact q10, by rw [eX]; exact q11, ?_, by rw [eX]; exact q13⟩
      have e1 : cntL X = cntP (upd (mA x 9) m b) (m + 1) := by unfold cntL; rw [hx, eX]; rfl
      have e2 : cntP (upd (mA x 9) m b) m = cntP (mA x 9) m := cntP_cong m (fun i hi => pk_un (Nat.ne_of_lt hi))
      have e3 : nN X 37 = nN x 37 := by rw [eX]; rfl
      have e4 : cntL x = cntP (mA x 9) m := by unfold cntL; rw [em]
      rw [e1, e3, cntP_s, e2]
      rw [e4] at q12
      split <;> omega,
    by
      have hg : 0 ≤ b := by
        simp only [isB, Bool.and_eq_true, decide_eq_true_eq, Int32.le_iff_toInt_le] at h2 ⊢
        have : (1 : Int32).toInt = 1 := by decide
        have : (0 : Int32).toInt = 0 := by decide
        omega
      have nw := hNew m (by omega)
      refine ⟨fun j => ?_, fun i hi => ?_, by rw [eX]; exact hLim.2.2⟩
      · rw [x9]
        by_cases e : j = m
        · rw [e, pk_us]; exact hg
        · rw [pk_un e]; exact hLim.1 j
      · rw [hx] at hi
        rw [x5, x6, x7, x8, x9, x10, x11, x12]
        by_cases e : i = m
        · rw [e, pk_us, pk_us, pk_us, pk_us, pk_us, nw.1, nw.2.1, nw.2.2.1]
          refine ⟨h1, h2, ?_, h4, ?_, ?_, by decide, by decide, by decide⟩
          · simp only [isB, Bool.and_eq_true, decide_eq_true_eq, Int32.le_iff_toInt_le] at h3 t500 ⊢
            omega
          · simp only [isB, Bool.and_eq_true, decide_eq_true_eq] at h2 ⊢
            exact ⟨hg, h2.2⟩
          · have : (0 : Int32).toInt = 0 := by decide
            omega
        · rw [pk_un e, pk_un e, pk_un e, pk_un e, pk_un e]
          exact hLim.2.1 i (by omega),
    by
      intro j hj
      rw [hx] at hj
      rw [x9, x10, x11, x12, pk_un (by omega)]
      exact hNew j (by omega),
    by
      refine ⟨by rw [eX]; exact hSum.1, by rw [eX]; exact hSum.2.1, ?_⟩
      have e0 : (itN (fun i s => s + (mA x 10 i).toInt) (0 : Int) (m + 1)) = itN (fun i s => s + (mA x 10 i).toInt) (0 : Int) m + (mA x 10 m).toInt := rfl
      rw [hx, x10, e0, (hNew m (by omega)).1, em, show (0 : Int32).toInt = 0 by decide, Int.add_zero, eX]
      exact hSum.2.2,
    by
      refine ⟨by rw [eX]; exact hWho.1, by rw [eX]; exact hWho.2.1, fun w hw => ?_, by rw [eX]; exact hWho.2.2.2.1, fun q hq => ?_⟩
      · have hw : w < nN x 65 := by rw [eX] at hw; exact hw
        obtain ⟨j, hj, e⟩ := hWho.2.2.1 w hw
        exact ⟨j, by rw [hx]; omega, by rw [eX]; exact e⟩
      · have hq : q < nN x 37 := by rw [eX] at hq; exact hq
        obtain ⟨j, hj, e⟩ := hWho.2.2.2.2 q hq
        exact ⟨j, by rw [hx]; omega, by rw [eX]; exact e⟩,
    (show _ from by rw [eM]; exact k_rFix hk rfl hFix),
    (show _ from by rw [eM, eX]; exact k_rNum hk rfl rfl rfl rfl hNum),
    (show _ from by rw [eM, eX]; exact k_rSta hk rfl rfl hSta),
    (show _ from by rw [eM, eX]; exact k_rCon hk rfl rfl hCon),
    by
      refine ⟨?_, fun i j hi hj e => ?_⟩
      · rw [mo 0 (by decide), hx, show M' 1 = fun i => if i = nN x 4 then nx S else M 1 i from funext (fun i => by rw [m1, em])]
        rw [em]; exact sl
      · rw [hx] at hi hj
        rw [m1, m1] at e
        by_cases e1 : i = m <;> by_cases e2 : j = m <;> simp only [e1, e2, if_true, if_false] at e
        · omega
        · have := l3 j (by omega); omega
        · have := l3 i (by omega); omega
        · exact hLotL.2 i j (by omega) (by omega) e,
    by
      intro i hi
      rw [hx] at hi
      rw [m1, x5, x6, x7, x8, x9, x10, x11, x12]
      by_cases e : i = m
      · have nw := hNew m (by omega)
        rw [if_pos e, e, pk_us, pk_us, pk_us, pk_us, pk_us, nw.1, nw.2.1, nw.2.2.1]
        exact ⟨kD kA1 s0 (by decide), kI kA1 s0 (by decide) (by decide) (by rw [eS1, em]; exact lotS_60 S _ _ _ _ _), kI kA1 s0 (by decide) (by decide) (by rw [eS1]; exact lotS_61 S _ _ _ _ _), kI kA1 s0 (by decide) (by decide) (by rw [eS1]; exact lotS_62 S _ _ _ _ _), kI kA1 s0 (by decide) (by decide) (by rw [eS1]; exact lotS_63 S _ _ _ _ _), kI kA1 s0 (by decide) (by decide) (by rw [eS1]; exact lotS_64 S _ _ _ _ _), kI kA1 s0 (by decide) (by decide) (by rw [eS1]; exact lotS_65 S _ _ _ _ _), kI kA1 s0 (by decide) (by decide) (by rw [eS1]; exact lotS_66 S _ _ _ _ _), kI kA1 s0 (by decide) (by decide) (by rw [eS1]; exact lotS_67 S _ _ _ _ _), kI kA1 s0 (by decide) (by decide) (by rw [eS1]; exact lotS_68 S _ _ _ _ _)⟩
      · rw [if_neg e, pk_un e, pk_un e, pk_un e, pk_un e, pk_un e]
        exact k_rLot hk (by decide) rfl rfl rfl rfl rfl rfl rfl rfl rfl hLot i (by omega),
    by
      rw [show rCha M' X T = (cD T (M' 0 4) = 61 ∧ cN T (M' 0 4) = 10 ∧ ∀ k, k < 10 → ∃ js : List Nat, chn T 3 69 (M' 1) (cQ T 61 (M' 0 4) k) js ∧ (∀ j, j ∈ js ↔ j < nN X 4 ∧ mA X 5 j = nI k) ∧ js.Pairwise (sooner X)) from rfl, mo 0 (by decide)]
      refine ⟨kD hk hCha.1 (by decide), kN hk hCha.1 (by decide) hCha.2.1, fun q hq => ?_⟩
      have es : sooner X = fun a b => upd (mA x 7) (nN x 4) c a < upd (mA x 7) (nN x 4) c b ∨ (upd (mA x 7) (nN x 4) c a = upd (mA x 7) (nN x 4) c b ∧ a < b) := by
        funext p r
        unfold sooner
        rw [x7, em]
      rw [es, hx, x5, em]
      exact sc q hq,
    by
      refine ⟨by rw [mo 8 (by decide), eX]; exact hWei.1, ?_, fun i hi => ?_⟩
      · rw [mo 8 (by decide)]
        have := (k_rWei hk (by decide) (by decide) rfl rfl rfl rfl rfl hWei).2.1
        rw [eX]; exact this
      · rw [hx] at hi
        have x65 : nN X 65 = nN x 65 := by rw [eX]; rfl
        have x66 : mA X 66 = mA x 66 := by rw [eX]; rfl
        rw [m1, mo 8 (by decide), x65, x66]
        by_cases e : i = m
        · rw [if_pos e, e]
          refine ⟨kD kA1 s0 (by decide), [], ?_, fun w => ?_, List.Pairwise.nil⟩
          · exact kR kA1 s0 (by decide) (by decide) (by rw [eS1]; exact lotS_70 S _ _ _ _ _)
          · constructor
            · intro z; exact absurd z List.not_mem_nil
            · intro z
              obtain ⟨j, hj, ee⟩ := hWho.2.2.1 w z.1
              rw [ee] at z
              have := (nI_eq (by omega) (by omega)).mp z.2
              omega
        · rw [if_neg e]
          exact (k_rWei hk (by decide) (by decide) rfl rfl rfl rfl rfl hWei).2.2 i (by omega),
    (show _ from by rw [eM, eX]; exact k_rTabL hk rfl rfl rfl rfl hTabL),
    (show _ from by rw [eM, eX]; exact k_rTab hk rfl rfl hTab),
    (show _ from by rw [eM, eX]; exact k_rWan hk rfl rfl rfl hWan),
    (show _ from by rw [eM, eX]; exact k_rGot hk rfl rfl rfl hGot),
    (show _ from by rw [eM, eX]; exact k_rLoa hk rfl rfl rfl rfl hLoa),
    (show _ from by rw [eM, eX]; exact k_rFamL hk rfl rfl rfl rfl hFamL),
    (show _ from by rw [eM, eX]; exact k_rFam hk rfl rfl rfl rfl rfl hFam),
    by
      intro i hi
      have hi : i < nN x 16 := by rw [eX] at hi; exact hi
      rw [mo 6 (by decide)]
      have q := hHad i hi
      refine ⟨kD hk q.1 (by decide), fun g hg => ?_⟩
      rw [kA hk q.1 (by decide) (by decide) g rfl, q.2 g hg, show nN X 32 = nN x 32 by rw [eX]; rfl]
      have hln := hOk.2.2.2.2.2.2.2.2.2.2.1
      refine (led_cong (L := nN x 37) (by rw [eX]; rfl) (by rw [eX]; rfl) (by rw [eX]; rfl) (by rw [eX]; rfl) (fun p hp => (hln.2.1 (p + 1) (by omega)).2) (fun r hr => ?_) _ _).symm
      obtain ⟨j, hj, e⟩ := hWho.2.2.2.2 r hr
      rw [x8]
      have : nA x 38 r = j := by unfold nA; rw [e, nI_clamp (by omega)]
      rw [this, pk_un (by omega)],
    (show _ from by rw [eM, eX]; exact k_rRef hk rfl rfl rfl rfl rfl rfl rfl rfl hRef),
    (show _ from by rw [eM, eX]; exact k_rParL hk rfl rfl rfl rfl hParL),
    (show _ from by rw [eM, eX]; exact k_rPar hk rfl rfl rfl rfl rfl rfl rfl rfl rfl rfl rfl hPar),
    (show _ from by rw [eM, eX]; exact k_rTap hk rfl rfl rfl rfl rfl hTap),
    (show _ from by rw [eM, eX]; exact k_rRul hk rfl rfl rfl rfl rfl rfl rfl rfl hRul),
    (show _ from by rw [eM]; exact k_rVan hk rfl hVan),
    (show _ from by rw [eM, eX]; exact k_rRoa hk rfl rfl rfl hRoa),
    (show _ from by rw [eM, eX]; exact k_rSto hk rfl rfl rfl rfl hSto)⟩
end M19
