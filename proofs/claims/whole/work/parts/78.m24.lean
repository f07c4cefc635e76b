/-! PURE: a kind packed -/
theorem sub_sub_self32 (a b : Int32) : a - (a - b) = b := by
  apply Int32.toBitVec.inj
  rw [Int32.toBitVec_sub, Int32.toBitVec_sub]
  generalize a.toBitVec = p
  generalize b.toBitVec = q
  rw [BitVec.sub_eq_iff_eq_add]
  rw [BitVec.sub_eq_add_neg, BitVec.add_comm, BitVec.add_assoc, BitVec.add_comm (-q), ← BitVec.sub_eq_add_neg, BitVec.sub_self, BitVec.add_zero]
section M24
variable {ae k : Nat} {M : Nat → Nat → Nat} {x : MS} {S : CS}
theorem ev_soonest' (n : Nat × Nat) (hF : rFix M S) (hC : rCha M x S) {j : Nat} (hj : j < 10) : fX7_soonestOf n S (M 0 2) (nI j) = some (cQ S 61 (M 0 4) j) := by
  have ej : (nI j).toNatClampNeg = j := nI_clamp (by omega)
  have e1 : isB (nI j) 0 9 = true := by
    simp only [isB, Bool.and_eq_true, decide_eq_true_eq]
    exact ⟨nI_le (a := 0) (Nat.zero_le _) (by omega), nI_le (b := 9) (by omega) (by decide)⟩
  have c2 : ¬ (nI j < 0 ∨ 10 ≤ j) := by
    have := vp_in_nI (n := j) (N := 10) hj (by decide)
    unfold vp_in at this
    rw [ej] at this
    exact this
  simp only [fX7_soonestOf, bnd, grd, onn, ev_kind, e1, bI, if_true, if_neg n10, hF.2.1, hF.2.2.2.2.2.2.2.2.2.2.2.2.1, hC.1, hC.2.1, ej, if_pos c2]
theorem ev_day (n : Nat × Nat) (hn : 30000 ≤ n.1) (o25 : okN x 25 30) (hF : rFix M S) (hN : rNum M x S) (hR : rRul M x S) (kd : Int32) : fX11_earliestLastDay n S (M 0 0) kd = some (mI x 2 + spareN x kd (nN x 25)) := by
  simp only [fX11_earliestLastDay, grd, bnd, onn, cal, hF.1, hN.2.1, hR.2.2.1, (hR.2.2.2.2.1 0 (by decide)).1, ev_daysSpared' n hn o25 hR, if_true]
theorem hand_out0 (tf : Nat) (htf : 201 ≤ tf) (n : Nat × Nat) (hn : 30000 ≤ n.1) (hae : n.2 = ae) (h : Rep ae k M x S) {P Lc f was : Nat} {mis : Int32} (hf : f < nN x 16) (hP0 : cD S P = 0) (hL0 : cD S Lc = 0) (hwas : was = nN x 37) (hwb : was ≤ 20000) {kd : Nat} (hkd : kd < 10) {z : MS} {T : CS} {N : Nat → Nat} {b : Nat} (hpk : PKb ae M x S P Lc f was mis z N T) (hPI : PInv x z b) (hb : b + 1 ≤ was + 290) (g : Int32) :
    ∃ (T' : CS) (N' : Nat → Nat) (mc ms : Nat), fX7_handOut n T (M 0 2) (nI kd) (mI x 2 + spareN x (nI kd) (nN x 25)) g P (M 5 f) = some ((g - (takeN (nI kd) tf z g).2, T'), mc, ms) ∧ PKb ae M x S P Lc f was mis (takeN (nI kd) tf z g).1 N' T' ∧ cst ae Lc z T (takeN (nI kd) tf z g).1 T' mc ms := by
  have hk := hpk.1.2.1
  have hFT := k_rFix hk (by decide) (g_rFix h)
  have hCT := k_rCha hk (by decide) (by decide) rfl rfl rfl (g_rCha h)
  obtain ⟨js, j1, j2, j3⟩ := hCT.2.2 kd hkd
  have len : js.length ≤ nN x 4 := chain_len (p := fun j => mA x 5 j = nI kd) (sooner_nd j3) j2
  have h200 := (g_rOk h).2.1.2
  obtain ⟨T', N', mc, ms, z1, z2, z3⟩ := hand_lp n hae h hf hP0 hL0 hwas hwb rfl j2 j3 js [] n.1 z g (cQ T 61 (M 0 4) kd) T N b tf rfl hpk hPI (by split <;> omega) j1 (Or.inr (fun i hi => absurd hi List.not_mem_nil)) (by omega) (by omega)
  refine ⟨T', N', mc, ms, ?_, z2, z3⟩
  simp only [fX7_handOut, grd, cal, un2, adc, Nat.add_zero, hFT.2.1, ev_soonest' n hFT hCT hkd, z1, if_true, Nat.add_zero]
theorem takeF_eq (z : MS) (kd g : Int32) : takeN kd 201 z g = takeF z kd g := by rw [takeF]
theorem hand_out (n : Nat × Nat) (hn : 30000 ≤ n.1) (hae : n.2 = ae) (h : Rep ae k M x S) {P Lc f was : Nat} {mis : Int32} (hf : f < nN x 16) (hP0 : cD S P = 0) (hL0 : cD S Lc = 0) (hwas : was = nN x 37) (hwb : was ≤ 20000) {kd : Nat} (hkd : kd < 10) {z : MS} {T : CS} {N : Nat → Nat} {b : Nat} (hpk : PKb ae M x S P Lc f was mis z N T) (hPI : PInv x z b) (hb : b + 1 ≤ was + 290) (g : Int32) :
    ∃ (T' : CS) (N' : Nat → Nat) (mc ms : Nat), fX7_handOut n T (M 0 2) (nI kd) (mI x 2 + spareN x (nI kd) (nN x 25)) g P (M 5 f) = some ((g - (takeF z (nI kd) g).2, T'), mc, ms) ∧ PKb ae M x S P Lc f was mis (takeF z (nI kd) g).1 N' T' ∧ cst ae Lc z T (takeF z (nI kd) g).1 T' mc ms := by
  have q := hand_out0 201 (Nat.le_refl _) n hn hae h hf hP0 hL0 hwas hwb hkd hpk hPI hb g
  rw [takeF_eq] at q
  exact q
def packR (x z : MS) (f kd : Nat) (g : Int32) : MS × Int32 := if barB x (nI f) (nI kd) then (z, g) else takeF z (nI kd) g
theorem pack_from (n : Nat × Nat) (hn : 30000 ≤ n.1) (hae : n.2 = ae) (h : Rep ae k M x S) {P Lc f was : Nat} {mis : Int32} (hf : f < nN x 16) (hP0 : cD S P = 0) (hL0 : cD S Lc = 0) (hwas : was = nN x 37) (hwb : was ≤ 20000) {kd : Nat} (hkd : kd < 10) {z : MS} {T : CS} {N : Nat → Nat} {b : Nat} (hpk : PKb ae M x S P Lc f was mis z N T) (hPI : PInv x z b) (hb : b + 1 ≤ was + 290) (g : Int32) :
    ∃ (T' : CS) (N' : Nat → Nat) (mc ms : Nat) (r : Int32), fX11_packFrom n T (M 0 0) P (M 5 f) (nI kd) g = some ((r, T'), mc, ms) ∧ g - r = (packR x z f kd g).2 ∧ PKb ae M x S P Lc f was mis (packR x z f kd g).1 N' T' ∧ cst ae Lc z T (packR x z f kd g).1 T' mc ms := by
  have hk := hpk.1.2.1
  have hFT := k_rFix hk (by decide) (g_rFix h)
  have hNT := k_rNum hk (by decide) rfl rfl rfl (g_rNum h)
  have hRT := k_rRul hk (by decide) (by decide) (by decide) rfl rfl rfl rfl rfl (g_rRul h)
  have hCT := k_rCon hk (by decide) rfl (g_rCon h)
  have hfam := k_rFam hk (by decide) (by decide) rfl rfl rfl (g_rFam h) f hf
  have h40 := (g_rOk h).2.2.2.1.2
  have ek : (nI kd).toNatClampNeg = kd := nI_clamp (by omega)
  have ef : (nI f).toNatClampNeg = f := nI_clamp (by omega)
  have e1 : isB (nI kd) 0 9 = true := by
    simp only [isB, Bool.and_eq_true, decide_eq_true_eq]
    exact ⟨nI_le (a := 0) (Nat.zero_le _) (by omega), nI_le (b := 9) (by omega) (by decide)⟩
  have c2 : ¬ (nI kd < 0 ∨ 10 ≤ kd) := by
    have := vp_in_nI (n := kd) (N := 10) hkd (by decide)
    unfold vp_in at this
    rw [ek] at this
    exact this
  by_cases c : mA x 3 kd &&& mA x 19 f = 0
  · have eb : barB x (nI f) (nI kd) = false := by unfold barB; rw [ek, ef]; simp [c]
    obtain ⟨T', N', mc, ms, z1, z2, z3⟩ := hand_out n hn hae h hf hP0 hL0 hwas hwb hkd hpk hPI hb g
    have ep : packR x z f kd g = takeF z (nI kd) g := by unfold packR; rw [eb, if_neg Bool.false_ne_true]
    rw [ep]
    refine ⟨T', N', mc, ms, _, ?_, sub_sub_self32 _ _, z2, z3⟩
    simp only [fX11_packFrom, grd, bnd, onn, cal, un2, adc, Nat.add_zero, ev_kind, e1, bI, if_true, if_neg n10, hFT.1, hFT.2.1, hFT.2.2.2.2.1, hFT.2.2.2.2.2.1, hCT.1, hCT.2.1, ek, if_pos c2, hCT.2.2 kd hkd, hfam.1, hfam.2.2.1, c, ev_day n hn (g_rOk h).2.2.2.2.2.1 hFT hNT hRT, z1]
  · have eb : barB x (nI f) (nI kd) = true := by unfold barB; rw [ek, ef]; simp [c]
    have ep : packR x z f kd g = (z, g) := by unfold packR; rw [eb]; rfl
    rw [ep]
    refine ⟨T, N, 0, 0, 0, ?_, Int32.sub_zero _, hpk, cst_rf _ _ _ _⟩
    simp only [fX11_packFrom, grd, bnd, onn, cal, un2, adc, Nat.add_zero, ev_kind, e1, bI, if_true, if_neg n10, hFT.1, hFT.2.1, hFT.2.2.2.2.1, hCT.1, hCT.2.1, ek, if_pos c2, hCT.2.2 kd hkd, hfam.1, hfam.2.2.1, if_neg c]
theorem rule_lp (n : Nat × Nat) (hn : 30000 ≤ n.1) (hae : n.2 = ae) (h : Rep ae k M x S) {P Lc f was : Nat} {mis : Int32} (hf : f < nN x 16) (hP0 : cD S P = 0) (hL0 : cD S Lc = 0) (hwas : was = nN x 37) (hwb : was ≤ 20000) {kd b : Nat} (hkd : kd < 10) (hb : b + 1 ≤ was + 290) (p0 : MS × Int32) (hR0 : RInv x p0 b) : ∀ (d r fuel : Nat) (T : CS) (N : Nat → Nat), r + d = nN x 25 → d < fuel → PKb ae M x S P Lc f was mis (ruleN (nI f) kd p0 r).1 N T →
    ∃ (T' : CS) (N' : Nat → Nat) (mc ms : Nat), fX11_pack_lp31 n (M 0 0) P (M 5 f) (nI kd) fuel (ruleN (nI f) kd p0 r).2 (nI r) T = some (((ruleN (nI f) kd p0 (nN x 25)).2, T'), mc, ms) ∧ PKb ae M x S P Lc f was mis (ruleN (nI f) kd p0 (nN x 25)).1 N' T' ∧ cst ae Lc (ruleN (nI f) kd p0 r).1 T (ruleN (nI f) kd p0 (nN x 25)).1 T' mc ms := by
  intro d r fuel
  induction fuel generalizing d r with
  | zero => intro T N _ hfu; exact absurd hfu (Nat.not_lt_zero _)
  | succ fuel IH =>
    intro T N hr hfu hpk
    have h4 := (g_rOk h).2.1
    have o25 := (g_rOk h).2.2.2.2.2.1
    have h30 := o25.2
    have hRI := ruleN_inv (f := nI f) (kd := kd) (by omega) h4 hR0 r
    have hs : ruleN (nI f) kd p0 (r + 1) = ruleS (nI f) kd r (ruleN (nI f) kd p0 r) := rfl
    have hstay := ruleN_stay (nI f) kd p0 r
    have ih := fun T' N' => IH (d - 1) (r + 1) T' N'
    obtain ⟨p, ep⟩ : ∃ q, q = ruleN (nI f) kd p0 r := ⟨_, rfl⟩
    rw [← ep] at hpk hRI hs hstay ⊢
    have hk := hpk.1.2.1
    have hKp := hpk.1.2.2.2.1
    have hFT := k_rFix hk (by decide) (g_rFix h)
    have hRT := k_rRul hk (by decide) (by decide) (by decide) rfl rfl rfl rfl rfl (g_rRul h)
    have zr := hRT.2.2.2.2.1 0 (by decide)
    have er : (nI r).toNatClampNeg = r := nI_clamp (by omega)
    by_cases hd : d = 0
    · subst hd
      rw [show nN x 25 = r by omega, ← ep]
      refine ⟨T, N, 0, 0, ?_, hpk, cst_rf _ _ _ _⟩
      simp only [fX11_pack_lp31, grd, bnd, onn, hFT.1, hRT.2.2.1, zr.1, hRT.2.2.2.2.2.2.1, o25.1, if_true]
      rw [if_pos (nI_le (by omega) (by omega))]
    · have hlt : r < nN x 25 := by omega
      have hge : ¬ nI (nN x 25) ≤ nI r := nI_ge hlt (by omega)
      by_cases hg : p.2 ≤ 0
      · have := hstay hg d
        rw [hr] at this
        rw [this]
        refine ⟨T, N, 0, 0, ?_, hpk, cst_rf _ _ _ _⟩
        simp only [fX11_pack_lp31, grd, bnd, onn, hFT.1, hRT.2.2.1, zr.1, hRT.2.2.2.2.2.2.1, o25.1, if_true, if_neg hge, if_pos hg]
      · have hPI := hRI.2 hg
        have q := hRT.2.2.2.2.2.2.2 r hlt
        have hv : ¬ (nI r < 0 ∨ 30 ≤ r) := by
          have := vp_in_nI (n := r) (N := 30) (by omega) (by decide)
          unfold vp_in at this
          rw [er] at this
          exact this
        have c26 : (mA x 26 r + 1 = 3) ↔ mA x 26 r = 2 := i32_inc (mA x 26 r) 2
        have ksw : fX6_kindSwapped n T (M 13 0) (nI r) (nI kd) = some (if mA x 26 r = 2 ∧ mA x 27 r = nI kd then mA x 28 r else -1) := by
          simp only [fX6_kindSwapped, grd, cal, bnd, onn, zr.1, zr.2.2.2.1, zr.2.2.2.2.2.2.2.1.1, zr.2.2.2.2.2.2.2.1.2, ev_isRule' n o25 hRT hlt, er, if_pos hv, q.2.2.1, if_true, c26]
          by_cases c : mA x 26 r = 2 ∧ mA x 27 r = nI kd
          · rw [if_pos c, if_pos c, if_neg n10]
          · rw [if_neg c, if_neg c, if_pos rfl]
        have k26 := hKp.2.1 26 (by decide) (by decide) (by decide) (by decide)
        have k27 := hKp.2.1 27 (by decide) (by decide) (by decide) (by decide)
        have k28 := hKp.2.1 28 (by decide) (by decide) (by decide) (by decide)
        by_cases c : mA x 26 r = 2 ∧ mA x 27 r = nI kd
        · obtain ⟨kd2, hkd2, e2⟩ := isB_nI (((g_rLim h).2.2.2.1 r hlt).2.2.1 c.1) (n := 10) (by decide) (by decide)
          obtain ⟨T1, N1, mc, ms, rr, y1, y2, y3, y4⟩ := pack_from n hn hae h hf hP0 hL0 hwas hwb hkd2 hpk hPI hb p.2
          have es : ruleN (nI f) kd p0 (r + 1) = packR x p.1 f kd2 p.2 := by
            rw [hs]
            unfold ruleS packR
            rw [if_neg hg, k26, k27, k28, Kp_bar hKp, e2]
            cases barB x (nI f) (nI kd2)
            · rw [if_pos ⟨c.1, c.2, rfl⟩, if_neg Bool.false_ne_true]
            · rw [if_neg (fun w => by exact Bool.noConfusion w.2.2), if_pos rfl]
          have ih := ih T1 N1 (by omega) (by omega)
          rw [es] at ih
          obtain ⟨T', N', mc', ms', z1, z2, z3⟩ := ih y3
          refine ⟨T', N', mc + mc', ms + ms', ?_, z2, cst_tr y4 z3⟩
          have w0 : ¬ mA x 28 r = -1 := by
            rw [e2]
            intro w
            have := congrArg Int32.toInt w
            rw [nI_toInt (by omega)] at this
            have m1 : (-1 : Int32).toInt = -1 := by decide
            omega
          simp only [fX11_pack_lp31, grd, bnd, onn, cal, un2, adc, Nat.add_zero, hFT.1, hRT.2.2.1, zr.1, hRT.2.2.2.2.2.2.1, o25.1, if_true, if_neg hge, if_neg hg, ksw, if_pos c, if_neg w0, e2, y1, y2, nI_inc1, z1]
          rw [if_neg (by rw [← e2]; exact w0)]
        · have es : ruleN (nI f) kd p0 (r + 1) = p := by
            rw [hs]
            unfold ruleS
            rw [if_neg hg, k26, k27, if_neg (fun w => c ⟨w.1, w.2.1⟩)]
          have ih := ih T N (by omega) (by omega)
          rw [es] at ih
          obtain ⟨T', N', mc', ms', z1, z2, z3⟩ := ih hpk
          refine ⟨T', N', mc', ms', ?_, z2, z3⟩
          simp only [fX11_pack_lp31, grd, bnd, onn, cal, hFT.1, hRT.2.2.1, zr.1, hRT.2.2.2.2.2.2.1, o25.1, if_true, if_neg hge, if_neg hg, ksw, if_neg c, nI_inc1, z1]
theorem pk_mis {P Lc f was : Nat} {mis : Int32} {z : MS} {N : Nat → Nat} {T : CS} (hP0 : cD S P = 0) (hpk : PKb ae M x S P Lc f was mis z N T) (hfam : ∀ i, i < nN x 16 → cD T (M 6 i) = 41) (v : Int32) : PKb ae M x S P Lc f was v z N (uI T 84 P v) := by
  obtain ⟨⟨⟨fT, aT, xT⟩, hk, harr, hKp, r4, rlot, ⟨lin, lin0⟩, had, p0, p80, p81, p82, p83, p84, pl⟩, hw, hc⟩ := hpk
  have k1 := keep_uI T 84 P v
  refine ⟨⟨⟨fT, aT, xT⟩, kn_I hk hP0 _ _, harr, hKp, r4, k_rLot k1 (by decide) rfl rfl rfl rfl rfl rfl rfl rfl rfl rlot, ⟨fun q h1 h2 => ?_, lin0⟩, fun i hi g hg => ?_, p0, kI k1 p0 (by decide) (by decide) p80, kI k1 p0 (by decide) (by decide) p81, p82, kI k1 p0 (by decide) (by decide) p83, by rw [cI_uI, set1_s, set1_s], keep_list k1 pl (by decide) (by decide) (by decide)⟩, hw, hc⟩
  · have l := lin q h1 h2
    exact ⟨l.1, kI k1 l.1 (by decide) (by decide) l.2.1, kI k1 l.1 (by decide) (by decide) l.2.2⟩
  · exact had i hi g hg
theorem pack_ok (n : Nat × Nat) (hn : 30000 ≤ n.1) (hae : n.2 = ae) (h : Rep ae k M x S) {P Lc f was : Nat} (hf : f < nN x 16) (hP0 : cD S P = 0) (hL0 : cD S Lc = 0) (hwas : was = nN x 37) (hwb : was ≤ 20000) {kd b : Nat} (hkd : kd < 10) (hb : b + 1 ≤ was + 290) {p : MS × Int32} {N : Nat → Nat} {T : CS} (hpk : PKb ae M x S P Lc f was p.2 p.1 N T) (hPI : PInv x p.1 b) :
    ∃ (T' : CS) (N' : Nat → Nat) (mc ms : Nat), fX11_pack n T (M 0 0) P (M 5 f) (nI kd) = some (T', mc, ms) ∧ PKb ae M x S P Lc f was (kinS (nI f) kd p).2 (kinS (nI f) kd p).1 N' T' ∧ cst ae Lc p.1 T (kinS (nI f) kd p).1 T' mc ms := by
  have hk := hpk.1.2.1
  have hKp := hPI.1
  have h4 := (g_rOk h).2.1
  have o25 := (g_rOk h).2.2.2.2.2.1
  have h30 := o25.2
  have h40 := (g_rOk h).2.2.2.1.2
  have ef : (nI f).toNatClampNeg = f := nI_clamp (by omega)
  have hFT := k_rFix hk (by decide) (g_rFix h)
  have hRT := k_rRul hk (by decide) (by decide) (by decide) rfl rfl rfl rfl rfl (g_rRul h)
  have zr := hRT.2.2.2.2.1 0 (by decide)
  have hfam := k_rFam hk (by decide) (by decide) rfl rfl rfl (g_rFam h) f hf
  obtain ⟨g, eg⟩ : ∃ q, q = needN x (mA x 18 f) (nI kd) (nN x 25) := ⟨_, rfl⟩
  have nd := ev_gramsNeeded' n hn o25 hRT (nI kd) (mA x 18 f)
  rw [← eg] at nd
  obtain ⟨T1, N1, mc, ms, rr, y1, y2, y3, y4⟩ := pack_from n hn hae h hf hP0 hL0 hwas hwb hkd hpk hPI hb g
  have e1 : kin1 p.1 (nI f) kd = packR x p.1 f kd g := by
    unfold kin1 packR
    rw [Kp_bar hKp, Kp_need hKp, Kp_N hKp 25 (by decide), hKp.2.1 18 (by decide) (by decide) (by decide) (by decide), ef, ← eg]
  have hR0 := kin1_inv (f := nI f) (kd := kd) (by omega) h4 hPI
  rw [e1] at hR0
  obtain ⟨T2, N2, mc2, ms2, z1, z2, z3⟩ := rule_lp n hn hae h hf hP0 hL0 hwas hwb hkd hb (packR x p.1 f kd g) hR0 (nN x 25) 0 n.1 T1 N1 (by omega) (by omega) y3
  have es : kinS (nI f) kd p = ((ruleN (nI f) kd (packR x p.1 f kd g) (nN x 25)).1, p.2 + (ruleN (nI f) kd (packR x p.1 f kd g) (nN x 25)).2) := by
    unfold kinS
    rw [e1, Kp_N hKp 25 (by decide)]
  rw [es]
  rw [show ruleN (nI f) kd (packR x p.1 f kd g) 0 = packR x p.1 f kd g from rfl] at z1 z3
  rw [nI_0] at z1
  obtain ⟨q, eq⟩ : ∃ q, q = ruleN (nI f) kd (packR x p.1 f kd g) (nN x 25) := ⟨_, rfl⟩
  rw [← eq] at z1 z2 z3 ⊢
  have hk2 := z2.1.2.1
  have p0 := z2.1.2.2.2.2.2.2.2.2.1
  have p84 := z2.1.2.2.2.2.2.2.2.2.2.2.2.2.2.1
  obtain ⟨w, ew⟩ : ∃ q', q' = p.2 + q.2 := ⟨_, rfl⟩
  refine ⟨uI T2 84 P w, N2, mc + mc2, ms + ms2, ?_, ?_, ?_⟩
  · simp only [fX11_pack, grd, bnd, onn, cal, un2, adc, Nat.add_zero, hFT.1, hRT.2.2.1, hfam.1, hfam.2.1, zr.1, nd, y1, y2, z1, p0, p84, if_true, ← ew]
  · show PKb ae M x S P Lc f was (p.2 + q.2) q.1 N2 (uI T2 84 P w)
    rw [← ew]
    exact pk_mis hP0 z2 (fun i hi => kD hk2 (g_rFam h i hi).2.2.2.2.1 (by decide)) w
  · exact cst_tr y4 z3
theorem kind_lp (n : Nat × Nat) (hn : 30000 ≤ n.1) (hae : n.2 = ae) (h : Rep ae k M x S) {P Lc f was : Nat} (hf : f < nN x 16) (hP0 : cD S P = 0) (hL0 : cD S Lc = 0) (hwas : was = nN x 37) (hwb : was ≤ 20000) : ∀ (d kd fuel : Nat) (T : CS) (N : Nat → Nat), kd + d = 10 → d < fuel → PKb ae M x S P Lc f was (kinN x (nI f) kd).2 (kinN x (nI f) kd).1 N T →
    ∃ (T' : CS) (N' : Nat → Nat) (mc ms : Nat), fX11_parcel_lp54 n (M 0 0) (M 5 f) P fuel (nI kd) T = some (T', mc, ms) ∧ PKb ae M x S P Lc f was (kinN x (nI f) 10).2 (kinN x (nI f) 10).1 N' T' ∧ cst ae Lc (kinN x (nI f) kd).1 T (kinN x (nI f) 10).1 T' mc ms
  | d, kd, 0, _, _, _, hfu, _ => absurd hfu (Nat.not_lt_zero _)
  | 0, kd, fuel + 1, T, N, hd, hfu, hpk => by
    have e : kd = 10 := by omega
    subst e
    exact ⟨T, N, 0, 0, rfl, hpk, cst_rf _ _ _ _⟩
  | d + 1, kd, fuel + 1, T, N, hd, hfu, hpk => by
    have hO := g_rOk h
    have h4 := hO.2.1
    have hcl : cntL x ≤ 200 := Nat.le_trans (cntP_le _ _) h4.2
    have hPx : PInv x x (was + cntL x) := ⟨Kp_refl x, hO.2.2.2.2.2.2.2.2.2.2.2.1, by omega, (g_rLim h).1⟩
    have hPI := kinN_inv (f := nI f) h4 hPx kd (by omega)
    obtain ⟨T1, N1, mc, ms, y1, y2, y3⟩ := pack_ok n hn hae h hf hP0 hL0 hwas hwb (kd := kd) (b := was + cntL x + kd) (by omega) (by omega) hpk hPI
    have hFT := k_rFix hpk.1.2.1 (by decide) (g_rFix h)
    obtain ⟨T', N', mc', ms', z1, z2, z3⟩ := kind_lp n hn hae h hf hP0 hL0 hwas hwb d (kd + 1) fuel T1 N1 (by omega) (by omega) (by rw [kinN_s]; exact y2)
    refine ⟨T', N', mc + mc', ms + ms', ?_, z2, ?_⟩
    · have hlt : ¬ (10 : Int32) ≤ nI kd := nI_ge (a := kd) (b := 10) (by omega) (by decide)
      simp only [fX11_parcel_lp54, if_neg hlt, grd, cal, un2, adc, Nat.add_zero, bnd, hFT.1, if_true, y1, nI_inc1, z1]
    · rw [kinN_s] at z3
      exact cst_tr y3 z3
end M24
