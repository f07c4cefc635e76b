/-! PURE: the call rules, both ends -/
section M45
variable {ae k : Nat} {M : Nat → Nat → Nat} {x : MS} {S : CS}
/-- the rules that held are untouched by the draft -/
theorem set0 (h : Rep ae k M x S) {T0 T : CS} (e0 : Ev S T0 [144, 123] []) (f0 : ∀ q, q ≠ M 13 1 → cI T0 144 q = cI S 144 q) (ev : EvR M T0 T) : cI T 144 (M 13 0) = mI x 25 ∧ ∀ r, r < nN x 25 → cA T 42 (M 14 0) r = mA x 26 r + 1 ∧ cA T 43 (M 15 0) r = mA x 27 r ∧ cA T 44 (M 16 0) r = mA x 28 r ∧ (mA x 26 r = 0 → cA T 45 (M 17 0) r = mA x 29 r) := by
  obtain ⟨-, -, -, -, rj, rn, r8, r9⟩ := g_rRul h
  have z := rj 0 (by decide)
  obtain ⟨-, o1, o2, o3, o4, o5⟩ := ev
  have nz : ∀ q d, cD S q = d → d ≠ 0 → cD T0 q ≠ 0 := fun q d hq hd => by rw [e0.2.2, hq]; exact hd
  refine ⟨?_, fun r hr => ?_⟩
  · rw [o1 _ (nz _ 7 z.1 (by decide)) rn.1, f0 _ rn.1]; exact r8
  · have q := r9 r hr
    rw [o2 _ (nz _ 42 z.2.2.2.2.2.1.1 (by decide)) rn.2.1, o3 _ (nz _ 43 z.2.2.2.2.2.2.1.1 (by decide)) rn.2.2.1, o4 _ (nz _ 44 z.2.2.2.2.2.2.2.1.1 (by decide)) rn.2.2.2.1, o5 _ (nz _ 45 z.2.2.2.2.2.2.2.2.1 (by decide)) rn.2.2.2.2, kA e0.1 z.2.2.2.2.2.1.1 (by decide) (by simp) r rfl, kA e0.1 z.2.2.2.2.2.2.1.1 (by decide) (by simp) r rfl, kA e0.1 z.2.2.2.2.2.2.2.1.1 (by decide) (by simp) r rfl, kA e0.1 z.2.2.2.2.2.2.2.2.1 (by decide) (by simp) r rfl]
    exact q
theorem st_rules (n : Nat × Nat) (hn : 30000 ≤ n.1) (h : Rep ae k M x S) : ∃ (r : Int32) (M' : Nat → Nat → Nat) (T : CS) (X : MS), fX11_rules n S (M 0 0) = some (r, T) ∧ fX12_rules n x = some (r, X) ∧ M' 0 0 = M 0 0 ∧ Rep ae (k + 1) M' X T := by
  have hF := g_rFix h
  have hO := g_rOk h
  have hT := g_rTap h
  have hR := g_rRul h
  obtain ⟨r1, r2, r3, r4, rj, rn, r8, r9⟩ := g_rRul h
  have o58 := hO.2.2.2.2.2.2.1
  obtain ⟨b, eb⟩ : ∃ q, q = mA x 57 := ⟨_, rfl⟩
  obtain ⟨len, elen⟩ : ∃ q, q = nN x 58 := ⟨_, rfl⟩
  have l400 : len ≤ 400 := by rw [elen]; exact o58.2
  have x58 : mI x 58 = nI len := by rw [elen]; exact o58.1
  have z1 := rj 1 (by decide)
  have tS : tpe b len (M 0 8) (M 0 9) S := ⟨hT.1, hT.2.2.2.1.trans x58, hF.2.2.2.2.2.2.2.2.2.2.2.2.2, hT.2.1, hT.2.2.1, l400, fun i hi => by rw [eb]; exact hT.2.2.2.2.2 i (by omega)⟩
  have dS : dft M S := ⟨hT.1, r4, z1.1, z1.2.1, z1.2.2.1, z1.2.2.2.1, z1.2.2.2.2.1, z1.2.2.2.2.2.1, z1.2.2.2.2.2.2.1, z1.2.2.2.2.2.2.2.1, z1.2.2.2.2.2.2.2.2.1, z1.2.2.2.2.2.2.2.2.2⟩
  obtain ⟨Sa, eSa⟩ : ∃ q, q = uI S 144 (M 13 1) 0 := ⟨_, rfl⟩
  obtain ⟨T0, eT0⟩ : ∃ q, q = uI Sa 123 (M 0 8) 0 := ⟨_, rfl⟩
  have e0 : Ev S T0 [144, 123] [] := by rw [eT0, eSa]; exact Ev_tr (Ev_uI S 144 (M 13 1) 0) (Ev_uI _ 123 (M 0 8) 0)
  have f0 : ∀ q, q ≠ M 13 1 → cI T0 144 q = cI S 144 q := fun q hq => by
    rw [eT0, cI_uI, set1_n _ _ (by decide), eSa, cI_uI, set1_s, set1_n _ _ hq]
  have t0 := tpe_ev e0 (by decide) (by simp) tS
  have d0 := dft_ev e0 dS
  have i123 : cI T0 123 (M 0 8) = nI 0 := by rw [eT0, cI_uI, set1_s, set1_s, nI_0]
  have i144 : cI T0 144 (M 13 1) = nI 0 := by rw [eT0, cI_uI, set1_n _ _ (by decide), eSa, cI_uI, set1_s, set1_s, nI_0]
  have y58 : mI (y00 x) 58 = nI len := x58
  have y57 : mA (y00 x) 57 = b := eb.symm
  obtain ⟨y1, e1, k1, v1, v2, v3, v4⟩ := ev12_nextT n hn l400 y58 y57 (p := 0) (show mI (y00 x) 60 = nI 0 from rfl) (Nat.zero_le _)
  have ah : AH M b len 0 0 T0 y1 := ⟨Nat.zero_le _, t0, d0, i123, ⟨(k1.1 58 rfl).trans y58, (k1.2.1 57 rfl).trans y57, v1, v2, v3, v4, (k1.1 64 rfl).trans rfl⟩, i144, (k1.1 31 rfl).trans rfl, fun r hr => absurd hr (Nat.not_lt_zero _)⟩
  have y63 : mI y1 63 = -1 := (k1.1 63 rfl).trans rfl
  have kk : Rk x y1 [60, 64, 63, 31, 59, 61] [] := by
    have a1 := Rk_tr (Rk_sI x 60 0) (Rk_tr (Rk_sI _ 64 0) (Rk_tr (Rk_sI _ 63 (-1)) (Rk_sI _ 31 0)))
    exact Rk_mono (Rk_tr a1 k1) (by simp) (by simp)
  obtain ⟨T1, c1, sy1, ev1⟩ := tok_step n hn ah
  obtain ⟨s0, es0⟩ : ∃ q, q = tokS b len 0 := ⟨_, rfl⟩
  rw [← es0] at sy1 v3
  have bh := ev_behind n sy1
  -- how the reading ended, on both sides
  have D : (∃ (w : Int32) (T2 : CS) (y2 : MS), fX5_readText n S (M 0 8) = some (w, T2) ∧ fX12_rules n x = j96 n y2 ∧ EvR M T0 T2 ∧ ((w = 1 ∧ RkG y1 y2 ∧ mI y2 64 = 0 ∧ ∃ s m, m ≤ 30 ∧ SY M b len s m T2 y2) ∨ (w = 0 ∧ BD M T0 y1 T2 y2))) := by
    have rt : ∀ w T2, (cal (fX5_isBehindText n T1 (M 0 8)) (fun q18 => if q18 = 0 then cal (fX5_readText_lp28 n (M 0 8) n.1 0 T1) (un2 fun e28 S28 => if e28 = 0 then some ((0 : Int32), S28) else if e28 = 1 then some ((1 : Int32), S28) else if e28 = 2 then some ((0 : Int32), S28) else some ((0 : Int32), S28)) else some ((1 : Int32), T1))) = some (w, T2) → fX5_readText n S (M 0 8) = some (w, T2) := fun w T2 hq => by
      simp only [cal] at hq
      simp only [fX5_readText, grd, onn, bnd, cal, hT.1, r4, z1.1, if_true, ← eSa, ← eT0, c1, sy1.2.1.1]
      exact hq
    have s61 : (mI y1 61 = 0) ↔ srt b len s0 = 0 := by
      rw [v3]
      rcases srt_3 (b := b) (len := len) s0 with w | w | w | w <;> rw [w] <;> decide
    rw [rules_un n hO.1]
    by_cases c0 : srt b len s0 = 0
    · rw [if_pos c0] at bh
      refine ⟨1, T1, y1, rt _ _ (by simp only [cal, bh, if_neg n10]), by simp only [cal, e1, if_pos (s61.mpr c0)], ev1, Or.inl ⟨rfl, RkG_rf y1, sy1.2.2.2.2.2.1.2.2.2.2.2.2, s0, 0, by omega, sy1⟩⟩
    · rw [if_neg c0] at bh
      obtain ⟨T2, y2, e, c2, e2, o⟩ := text_sim n hn 30 0 n.1 n.1 s0 T1 y1 rfl (by omega) (by omega) sy1
      rw [nI_0] at c2
      obtain ⟨y', ey', ey2⟩ := cal_some e2
      have rx : ∀ z, (if mI y2 64 = 0 then (if mI y2 61 = 0 then j96 n y2 else cal (fX12_must n y2 (0 : Int32)) (fun S93 => j96 n S93)) else j96 n y2) = z → cal (fX12_next n (y00 x)) (fun S26 => if mI S26 61 = 0 then j96 n S26 else cal (fX12_readRule n S26) (fun S37 => cal (fX12_rules_lp40 n n.1 S37) (fun S40 => if mI S40 64 = 0 then (if mI S40 61 = 0 then j96 n S40 else cal (fX12_must n S40 (0 : Int32)) (fun S93 => j96 n S93)) else j96 n S40))) = z := fun z hz => by
        simp only [cal, e1, if_neg (fun w => c0 (s61.mp w)), ey', ey2]
        exact hz
      rcases o with ⟨rfl, s, m, hm, sy, cs, ev, rk⟩ | ⟨ne, lt, bd⟩ | ⟨ne, lt, s, m, sy, cs, ev, rk⟩
      · have q64 : mI y2 64 = 0 := sy.2.2.2.2.2.1.2.2.2.2.2.2
        have q61 : mI y2 61 = 0 := by rw [sy.2.2.2.2.2.1.2.2.2.2.1, cs]; rfl
        refine ⟨1, T2, y2, rt _ _ (by simp only [cal, un2, bh, if_true, c2]; rfl), rx _ (by rw [if_pos q64, if_pos q61]), EvR_tr ev1 ev, Or.inl ⟨rfl, rk, q64, s, m, hm, sy⟩⟩
      · have w0 : (cal (fX5_isBehindText n T1 (M 0 8)) (fun q18 => if q18 = 0 then cal (fX5_readText_lp28 n (M 0 8) n.1 0 T1) (un2 fun e28 S28 => if e28 = 0 then some ((0 : Int32), S28) else if e28 = 1 then some ((1 : Int32), S28) else if e28 = 2 then some ((0 : Int32), S28) else some ((0 : Int32), S28)) else some ((1 : Int32), T1))) = some (0, T2) := by
          simp only [cal, un2, bh, if_true, c2, if_neg ne]
          split
          · rfl
          · split <;> rfl
        refine ⟨0, T2, y2, rt _ _ w0, rx _ (by rw [if_neg (BD_nz bd)]), ?_, Or.inr ⟨rfl, BD_tr ev1 (RkG_rf y1) bd⟩⟩
        obtain ⟨s, -, -, -, ev, -⟩ := bd
        exact EvR_tr ev1 ev
      · have w0 : (cal (fX5_isBehindText n T1 (M 0 8)) (fun q18 => if q18 = 0 then cal (fX5_readText_lp28 n (M 0 8) n.1 0 T1) (un2 fun e28 S28 => if e28 = 0 then some ((0 : Int32), S28) else if e28 = 1 then some ((1 : Int32), S28) else if e28 = 2 then some ((0 : Int32), S28) else some ((0 : Int32), S28)) else some ((1 : Int32), T1))) = some (0, T2) := by
          simp only [cal, un2, bh, if_true, c2, if_neg ne]
          split
          · rfl
          · split <;> rfl
        have q64 : mI y2 64 = 0 := sy.2.2.2.2.2.1.2.2.2.2.2.2
        have q61 : ¬ mI y2 61 = 0 := by
          rw [sy.2.2.2.2.2.1.2.2.2.2.1]
          rcases srt_3 (b := b) (len := len) s with w | w | w | w
          · exact absurd w cs
          · rw [w]; decide
          · rw [w]; decide
          · rw [w]; decide
        have bd := bad_at sy
        refine ⟨0, T2, _, rt _ _ w0, rx _ (by rw [if_pos q64, if_neg q61, must_no q64]; rfl), EvR_tr ev1 ev, Or.inr ⟨rfl, BD_tr (EvR_tr ev1 ev) rk bd⟩⟩
  obtain ⟨w, T2, y2, cT, cX, ev2, o⟩ := D
  obtain ⟨q25, qr⟩ := set0 h e0 f0 ev2
  have k2 : keep S T2 [122, 123, 144] [] [42, 43, 44, 45] [] := kpre (keep_tr e0.1 ev2.1.1) (by simp) (by simp) (by simp) (by simp)
  have nx2 : nx T2 = nx S := ev2.1.2.1.trans e0.2.1
  have cd2 : ∀ q, cD T2 q = cD S q := fun q => (ev2.1.2.2 q).trans (e0.2.2 q)
  have hF2 := k_rFix k2 (by decide) hF
  have b6 : cD T2 (M 0 8) = 6 := kD k2 hT.1 (by decide)
  obtain ⟨hB1, hB2, hB3⟩ := g_rBase h
  obtain ⟨q0, q1, q2, q3, q4, q5, q6, q7, q8, q9, q10, q11, q12, q13⟩ := g_rOk h
  -- what the reference's ok needs
  have okX : ∀ (X : MS) (m : Nat), m ≤ 30 → (∀ f, [58, 59, 60, 61, 63, 64, 31, 25].contains f = false → mI X f = mI x f) → (∀ f, [30, 26, 27, 28, 29].contains f = false → mA X f = mA x f) → mI X 58 = 0 → mI X 25 = nI m → rOk k X := fun X m hm yI yA x58 x25 => by
    have oc : ∀ f c, [58, 59, 60, 61, 63, 64, 31, 25].contains f = false → okN x f c → okN X f c := fun f c hf hk => by unfold okN nN at hk ⊢; rw [yI f hf]; exact hk
    have nc : ∀ f, [58, 59, 60, 61, 63, 64, 31, 25].contains f = false → nN X f = nN x f := fun f hf => by unfold nN; rw [yI f hf]
    have e35 : ∀ p, nA X 35 p = nA x 35 p := fun p => by unfold nA; rw [yA 35 rfl]
    have n25 : nN X 25 = m := by unfold nN; rw [x25]; exact nI_clamp (by omega)
    have n58 : nN X 58 = 0 := by unfold nN; rw [x58]; rfl
    refine ⟨(yI 0 rfl).trans q0, oc _ _ rfl q1, oc _ _ rfl q2, oc _ _ rfl q3, oc _ _ rfl q4, ⟨by rw [n25, x25], by rw [n25]; exact hm⟩, ⟨by rw [n58, x58]; rfl, by rw [n58]; omega⟩, oc _ _ rfl q7, ⟨oc _ _ rfl q8.1, by rw [nc 32 rfl]; exact q8.2⟩, by rw [yI 2 rfl]; exact q9, ⟨by rw [nc 37 rfl]; exact q10.1, fun p hp => ?_, fun p hp => ?_, fun q hq => ?_⟩, by rw [yI 37 rfl, nc 37 rfl]; exact q11, ?_, by rw [e35, nc 32 rfl, nc 37 rfl]; exact q13⟩
    · rw [nc 32 rfl] at hp; rw [e35, nc 37 rfl, yA 35 rfl]; exact q10.2.1 p hp
    · rw [nc 32 rfl] at hp; rw [e35, e35]; exact q10.2.2.1 p hp
    · rw [nc 37 rfl] at hq; rw [yA 38 rfl]; exact q10.2.2.2 q hq
    · have : cntL X = cntL x := by unfold cntL; rw [nc 4 rfl, yA 9 rfl]
      rw [this, nc 37 rfl]; exact q12
  rcases o with ⟨rfl, rk, y64, s, m, hm, sy⟩ | ⟨rfl, s, c122, c64, c63, ev, rk⟩
  · -- it was whole
    obtain ⟨T3, eT3⟩ : ∃ q, q = uI T2 125 (M 0 8) (-1) := ⟨_, rfl⟩
    obtain ⟨T4, eT4⟩ : ∃ q, q = uI T3 124 (M 0 8) 0 := ⟨_, rfl⟩
    obtain ⟨T5, eT5⟩ : ∃ q, q = uR T4 121 (M 0 8) (some (M 13 0)) := ⟨_, rfl⟩
    obtain ⟨T6, eT6⟩ : ∃ q, q = uR T5 247 (M 0 0) (some (M 13 1)) := ⟨_, rfl⟩
    have k3 : keep T2 T4 [125, 124] [] [] [] := by rw [eT4, eT3]; exact keep_tr (keep_uI _ _ _ _) (keep_uI _ _ _ _)
    have k5 : keep T4 T5 [] [121] [] [] := by rw [eT5]; exact keep_uR _ _ _ _
    have k6 : keep T5 T6 [] [247] [] [] := by rw [eT6]; exact keep_uR _ _ _ _
    have k26 : keep T2 T6 [125, 124] [121, 247] [] [] := kpre (keep_tr k3 (keep_tr k5 k6)) (by simp) (by simp) (by simp) (by simp)
    have kS : keep S T6 [122, 123, 144, 124, 125] [121, 247] [42, 43, 44, 45] [] := kpre (keep_tr k2 k26) (by simp) (by simp) (by simp) (by simp)
    have nx6 : nx T6 = nx S := by rw [eT6, eT5, eT4, eT3]; exact nx2
    have cd6 : ∀ q, cD T6 q = cD S q := fun q => by rw [eT6, eT5, eT4, eT3]; exact cd2 q
    obtain ⟨lk1, lk2, lk3⟩ := sy.2.2.2.2.2.2
    -- the reference
    obtain ⟨z0, ez0⟩ : ∃ q, q = sI (sI y2 58 0) 25 (nI m) := ⟨_, rfl⟩
    obtain ⟨Z, eZ, zI, zA, zL, zB, zr⟩ := copy_lp n hm m 0 n.1 z0 (by omega) (by omega) (by rw [ez0]; rfl) (fun i hi => absurd hi (Nat.not_lt_zero _))
    rw [nI_0] at eZ
    have Z25 : mI Z 25 = nI m := by rw [zI, ez0]; rfl
    have pm : (0 : Int32) ≤ nI m := nI_le (a := 0) (Nat.zero_le _) (by omega)
    have ref : j96 n y2 = some (nI m, toldF Z (nI m)) := by
      have a1 : mI (sI y2 58 0) 64 = 0 := y64
      have a2 : mI (sI y2 58 0) 31 = nI m := lk2
      simp only [j96, bnd, a1, if_true, a2, ← ez0, cal, eZ, Z25, ev12_told, un2]
    have yI : ∀ f, [58, 59, 60, 61, 63, 64, 31, 25].contains f = false → mI Z f = mI x f := fun f hf => by
      have n58 : f ≠ 58 := fun q => by rw [q] at hf; exact absurd hf (by decide)
      have n25 : f ≠ 25 := fun q => by rw [q] at hf; exact absurd hf (by decide)
      rw [zI, ez0, mI_sI, if_neg n25, mI_sI, if_neg n58, rk.1 f (cont_mono (by simp) hf), kk.1 f (cont_mono (by simp) hf)]
    have yA : ∀ f, [30, 26, 27, 28, 29].contains f = false → mA Z f = mA x f := fun f hf => by
      rw [zA f (cont_mono (by simp) hf), ez0]
      exact (rk.2.1 f (cont_mono (by simp) hf)).trans (kk.2.1 f rfl)
    have x63 : mI Z 63 = -1 := by rw [zI, ez0]; exact (rk.1 63 rfl).trans y63
    have x58' : mI Z 58 = 0 := by rw [zI, ez0]; rfl
    have z30 : mA z0 30 = mA y2 30 := by rw [ez0]; rfl
    obtain ⟨M', eM, eM0⟩ : ∃ q : Nat → Nat → Nat, q = (fun g => if 13 ≤ g ∧ g ≤ 17 then (fun t => if t = 0 then M g 1 else M g 0) else M g) ∧ q 0 0 = M 0 0 := ⟨_, rfl, rfl⟩
    have nZ : nN Z 25 = m := by unfold nN; rw [Z25]; exact nI_clamp (by omega)
    have dz := sy.2.2.1
    have rep : Rep ae k M' Z T6 := by
      refine rul_fin h (i := 1) (j := 0) eM kS yI yA (fun f hf => by rw [zL, ez0]; exact (rk.2.2.1 f hf).trans (kk.2.2.1 f hf)) (fun f => by rw [zB, ez0]; exact (rk.2.2.2 f).trans (kk.2.2.2 f)) ⟨fun q hq => by rw [cd6]; exact hB1 q (by rw [← nx6]; exact hq), by rw [cd6]; exact hB2, by rw [nx6]; exact hB3⟩ (okX Z m hm yI yA x58' Z25) ?_ ?_ ?_
      · have hl := g_rLim h
        have n4 : nN Z 4 = nN x 4 := by unfold nN; rw [yI 4 rfl]
        have n16 : nN Z 16 = nN x 16 := by unfold nN; rw [yI 16 rfl]
        refine ⟨fun j => by rw [yA 9 rfl]; exact hl.1 j, fun i hi => ?_, fun j => by rw [yA 14 rfl]; exact hl.2.2.1 j, fun r hr => ?_, fun i hi => ?_⟩
        · rw [n4] at hi
          rw [yA 5 rfl, yA 6 rfl, yA 7 rfl, yA 8 rfl, yA 9 rfl, yA 10 rfl, yA 11 rfl, yA 12 rfl]
          exact hl.2.1 i hi
        · rw [nZ] at hr
          have zq := zr r hr
          rw [zq.1, zq.2.1, zq.2.2.1, z30]
          exact (lk3 r hr).2.2.2.2
        · rw [n16] at hi
          rw [yA 18 rfl]; exact hl.2.2.2.2 i hi
      · have t6 : cD T6 (M 0 8) = 6 := by rw [cd6]; exact hT.1
        rw [eM]
        refine ⟨t6, by rw [cd6]; exact hT.2.1, kN kS hT.2.1 (by decide) hT.2.2.1, ?_, ?_, fun i hi => ?_⟩
        · show cI T6 124 (M 0 8) = mI Z 58
          rw [x58', eT6, cI_uR, eT5, cI_uR, eT4, cI_uI, set1_s, set1_s]
        · show cI T6 125 (M 0 8) = mI Z 63
          rw [x63, eT6, cI_uR, eT5, cI_uR, eT4, cI_uI, set1_n _ _ (by decide), eT3, cI_uI, set1_s, set1_s]
        · have : nN Z 58 = 0 := by unfold nN; rw [x58']; rfl
          rw [this] at hi; exact absurd hi (Nat.not_lt_zero _)
      · have z0 := rj 0 (by decide)
        rw [eM]
        show cD T6 (M 0 0) = 12 ∧ cD T6 (M 0 8) = 6 ∧ cR T6 247 (M 0 0) = some (M 13 1) ∧ cR T6 121 (M 0 8) = some (M 13 0) ∧ (∀ j, j < 2 → cD T6 (if j = 0 then M 13 1 else M 13 0) = 7 ∧ cR T6 140 (if j = 0 then M 13 1 else M 13 0) = some (if j = 0 then M 14 1 else M 14 0) ∧ cR T6 141 (if j = 0 then M 13 1 else M 13 0) = some (if j = 0 then M 15 1 else M 15 0) ∧ cR T6 142 (if j = 0 then M 13 1 else M 13 0) = some (if j = 0 then M 16 1 else M 16 0) ∧ cR T6 143 (if j = 0 then M 13 1 else M 13 0) = some (if j = 0 then M 17 1 else M 17 0) ∧ (cD T6 (if j = 0 then M 14 1 else M 14 0) = 42 ∧ cN T6 (if j = 0 then M 14 1 else M 14 0) = 30) ∧ (cD T6 (if j = 0 then M 15 1 else M 15 0) = 43 ∧ cN T6 (if j = 0 then M 15 1 else M 15 0) = 30) ∧ (cD T6 (if j = 0 then M 16 1 else M 16 0) = 44 ∧ cN T6 (if j = 0 then M 16 1 else M 16 0) = 30) ∧ (cD T6 (if j = 0 then M 17 1 else M 17 0) = 45 ∧ cN T6 (if j = 0 then M 17 1 else M 17 0) = 30)) ∧ (M 13 1 ≠ M 13 0 ∧ M 14 1 ≠ M 14 0 ∧ M 15 1 ≠ M 15 0 ∧ M 16 1 ≠ M 16 0 ∧ M 17 1 ≠ M 17 0) ∧ cI T6 144 (M 13 1) = mI Z 25 ∧ ∀ r, r < nN Z 25 → cA T6 42 (M 14 1) r = mA Z 26 r + 1 ∧ cA T6 43 (M 15 1) r = mA Z 27 r ∧ cA T6 44 (M 16 1) r = mA Z 28 r ∧ (mA Z 26 r = 0 → cA T6 45 (M 17 1) r = mA Z 29 r)
        refine ⟨by rw [cd6]; exact hF.1, by rw [cd6]; exact hT.1, ?_, ?_, fun j hj => ?_, ⟨rn.1.symm, rn.2.1.symm, rn.2.2.1.symm, rn.2.2.2.1.symm, rn.2.2.2.2.symm⟩, ?_, fun r hr => ?_⟩
        · rw [eT6, cR_uR, set1_s, set1_s]
        · rw [eT6, cR_uR, set1_n _ _ (by decide), eT5, cR_uR, set1_s, set1_s]
        · have J : ∀ t, t < 2 → cD T6 (M 13 t) = 7 ∧ cR T6 140 (M 13 t) = some (M 14 t) ∧ cR T6 141 (M 13 t) = some (M 15 t) ∧ cR T6 142 (M 13 t) = some (M 16 t) ∧ cR T6 143 (M 13 t) = some (M 17 t) ∧ (cD T6 (M 14 t) = 42 ∧ cN T6 (M 14 t) = 30) ∧ (cD T6 (M 15 t) = 43 ∧ cN T6 (M 15 t) = 30) ∧ (cD T6 (M 16 t) = 44 ∧ cN T6 (M 16 t) = 30) ∧ (cD T6 (M 17 t) = 45 ∧ cN T6 (M 17 t) = 30) := fun t ht => by
            have z := rj t ht
            exact ⟨kD kS z.1 (by decide), kR kS z.1 (by decide) (by decide) z.2.1, kR kS z.1 (by decide) (by decide) z.2.2.1, kR kS z.1 (by decide) (by decide) z.2.2.2.1, kR kS z.1 (by decide) (by decide) z.2.2.2.2.1, ⟨kD kS z.2.2.2.2.2.1.1 (by decide), kN kS z.2.2.2.2.2.1.1 (by decide) z.2.2.2.2.2.1.2⟩, ⟨kD kS z.2.2.2.2.2.2.1.1 (by decide), kN kS z.2.2.2.2.2.2.1.1 (by decide) z.2.2.2.2.2.2.1.2⟩, ⟨kD kS z.2.2.2.2.2.2.2.1.1 (by decide), kN kS z.2.2.2.2.2.2.2.1.1 (by decide) z.2.2.2.2.2.2.2.1.2⟩, kD kS z.2.2.2.2.2.2.2.2.1 (by decide), kN kS z.2.2.2.2.2.2.2.2.1 (by decide) z.2.2.2.2.2.2.2.2.2⟩
          by_cases c : j = 0
          · simp only [if_pos c]; exact J 1 (by decide)
          · simp only [if_neg c]; exact J 0 (by decide)
        · rw [Z25]; exact kI k26 dz.2.2.1 (by decide) (by decide) lk1
        · rw [nZ] at hr
          have l := lk3 r hr
          have zq := zr r hr
          rw [zq.1, zq.2.1, zq.2.2.1, zq.2.2.2, z30, kA k26 dz.2.2.2.2.2.2.2.1.1 (by decide) (by simp) r rfl, kA k26 dz.2.2.2.2.2.2.2.2.1.1 (by decide) (by simp) r rfl, kA k26 dz.2.2.2.2.2.2.2.2.2.1.1 (by decide) (by simp) r rfl, kA k26 dz.2.2.2.2.2.2.2.2.2.2.1 (by decide) (by simp) r rfl]
          exact ⟨l.1, l.2.1, l.2.2.1, l.2.2.2.1⟩
    refine ⟨nI m, M', uI T6 251 (M 0 0) 0, toldF Z (nI m), ?_, by rw [cX]; exact ref, eM0, by rw [← eM0]; exact rep_yes pm rep⟩
    have hF4 := k_rFix k3 (by decide) hF2
    have hF5 : cD T5 (M 0 0) = 12 := by rw [eT5]; exact hF4.1
    have hF6 : cD T6 (M 0 0) = 12 := by rw [eT6]; exact hF5
    have b4 : cD T4 (M 0 8) = 6 := kD k3 b6 (by decide)
    have r247 : cR T4 247 (M 0 0) = some (M 13 0) := kR k3 hF2.1 (by decide) (by simp) (kR k2 hF.1 (by decide) (by simp) r3)
    have r121 : cR T4 121 (M 0 8) = some (M 13 1) := kR k3 b6 (by decide) (by simp) dz.2.1
    have r6 : cR T6 247 (M 0 0) = some (M 13 1) := by rw [eT6, cR_uR, set1_s, set1_s]
    have d6 : cD T6 (M 13 1) = 7 := by rw [cd6]; exact z1.1
    have i6 : cI T6 144 (M 13 1) = nI m := kI k26 dz.2.2.1 (by decide) (by decide) lk1
    have em : fX5_emptyTape n T2 (M 0 8) 1 = some T4 := by
      simp only [fX5_emptyTape, if_neg n10, grd, bnd, b6, if_true, ← eT3, ← eT4]
    simp only [fX11_rules, grd, onn, bnd, cal, un2, hF.1, hF.2.2.2.2.2.2.2.2.2.1, hT.1, if_true, cT, hF2.1, hF2.2.2.2.2.2.2.2.2.2.1, b6, em, if_neg n10, hF4.1, hF4.2.2.2.2.2.2.2.2.2.1, r247, b4, fX5_exchangeDraft, r121, ← eT5, hF5, ← eT6, r6, d6, i6, ev_accept _ hF6]
  · -- a fault
    obtain ⟨T3, eT3⟩ : ∃ q, q = uI T2 125 (M 0 8) (nI s) := ⟨_, rfl⟩
    obtain ⟨T4, eT4⟩ : ∃ q, q = uI T3 124 (M 0 8) 0 := ⟨_, rfl⟩
    have k3 : keep T2 T4 [125, 124] [] [] [] := by rw [eT4, eT3]; exact keep_tr (keep_uI _ _ _ _) (keep_uI _ _ _ _)
    have kS : keep S T4 [122, 123, 144, 124, 125] [121, 247] [42, 43, 44, 45] [] := kpre (keep_tr k2 k3) (by simp) (by simp) (by simp) (by simp)
    have kS' : keep S T4 [122, 123, 144, 124, 125] [] [42, 43, 44, 45] [] := kpre (keep_tr k2 k3) (by simp) (by simp) (by simp) (by simp)
    have nx4 : nx T4 = nx S := by rw [eT4, eT3]; exact nx2
    have cd4 : ∀ q, cD T4 q = cD S q := fun q => by rw [eT4, eT3]; exact cd2 q
    obtain ⟨Z, eZ⟩ : ∃ q, q = sI y2 58 0 := ⟨_, rfl⟩
    have ref : j96 n y2 = some (-6, toldF Z (-6)) := by
      have a1 : mI Z 64 = 1 := by rw [eZ]; exact c64
      simp only [j96, bnd, ← eZ, a1, if_neg n10, cal, ev12_told, un2]
    have y25 : mI Z 25 = mI x 25 := by rw [eZ, mI_sI, if_neg (by decide)]; exact (rk.1 25 rfl).trans (kk.1 25 rfl)
    have yI : ∀ f, [58, 59, 60, 61, 63, 64, 31, 25].contains f = false → mI Z f = mI x f := fun f hf => by
      have n58 : f ≠ 58 := fun q => by rw [q] at hf; exact absurd hf (by decide)
      rw [eZ, mI_sI, if_neg n58, rk.1 f (cont_mono (by simp) hf), kk.1 f (cont_mono (by simp) hf)]
    have yA' : ∀ f, [30].contains f = false → mA Z f = mA x f := fun f hf => by
      rw [eZ]
      exact (rk.2.1 f hf).trans (kk.2.1 f rfl)
    have yA : ∀ f, [30, 26, 27, 28, 29].contains f = false → mA Z f = mA x f := fun f hf => yA' f (cont_mono (by simp) hf)
    have x63 : mI Z 63 = nI s := by rw [eZ]; exact c63
    have x58' : mI Z 58 = 0 := by rw [eZ]; rfl
    obtain ⟨M', eM, eM0⟩ : ∃ q : Nat → Nat → Nat, q = (fun g => if 13 ≤ g ∧ g ≤ 17 then (fun t => if t = 0 then M g 0 else M g 1) else M g) ∧ q 0 0 = M 0 0 := ⟨_, rfl, rfl⟩
    have nZ : nN Z 25 = nN x 25 := by unfold nN; rw [y25]
    have rep : Rep ae k M' Z T4 := by
      refine rul_fin h (i := 0) (j := 1) eM kS yI yA (fun f hf => by rw [eZ]; exact (rk.2.2.1 f hf).trans (kk.2.2.1 f hf)) (fun f => by rw [eZ]; exact (rk.2.2.2 f).trans (kk.2.2.2 f)) ⟨fun q hq => by rw [cd4]; exact hB1 q (by rw [← nx4]; exact hq), by rw [cd4]; exact hB2, by rw [nx4]; exact hB3⟩ (okX Z (nN x 25) q5.2 yI yA x58' (y25.trans q5.1)) ?_ ?_ ?_
      · exact k_rLim (yI 4 rfl) y25 (yI 16 rfl) (yA 5 rfl) (yA 6 rfl) (yA 7 rfl) (yA 8 rfl) (yA 9 rfl) (yA 10 rfl) (yA 11 rfl) (yA 12 rfl) (yA 14 rfl) (yA' 26 rfl) (yA' 27 rfl) (yA' 28 rfl) (yA 18 rfl) (g_rLim h)
      · rw [eM]
        refine ⟨by rw [cd4]; exact hT.1, by rw [cd4]; exact hT.2.1, kN kS hT.2.1 (by decide) hT.2.2.1, ?_, ?_, fun i hi => ?_⟩
        · show cI T4 124 (M 0 8) = mI Z 58
          rw [x58', eT4, cI_uI, set1_s, set1_s]
        · show cI T4 125 (M 0 8) = mI Z 63
          rw [x63, eT4, cI_uI, set1_n _ _ (by decide), eT3, cI_uI, set1_s, set1_s]
        · have : nN Z 58 = 0 := by unfold nN; rw [x58']; rfl
          rw [this] at hi; exact absurd hi (Nat.not_lt_zero _)
      · have z0 := rj 0 (by decide)
        rw [eM]
        show cD T4 (M 0 0) = 12 ∧ cD T4 (M 0 8) = 6 ∧ cR T4 247 (M 0 0) = some (M 13 0) ∧ cR T4 121 (M 0 8) = some (M 13 1) ∧ (∀ j, j < 2 → cD T4 (if j = 0 then M 13 0 else M 13 1) = 7 ∧ cR T4 140 (if j = 0 then M 13 0 else M 13 1) = some (if j = 0 then M 14 0 else M 14 1) ∧ cR T4 141 (if j = 0 then M 13 0 else M 13 1) = some (if j = 0 then M 15 0 else M 15 1) ∧ cR T4 142 (if j = 0 then M 13 0 else M 13 1) = some (if j = 0 then M 16 0 else M 16 1) ∧ cR T4 143 (if j = 0 then M 13 0 else M 13 1) = some (if j = 0 then M 17 0 else M 17 1) ∧ (cD T4 (if j = 0 then M 14 0 else M 14 1) = 42 ∧ cN T4 (if j = 0 then M 14 0 else M 14 1) = 30) ∧ (cD T4 (if j = 0 then M 15 0 else M 15 1) = 43 ∧ cN T4 (if j = 0 then M 15 0 else M 15 1) = 30) ∧ (cD T4 (if j = 0 then M 16 0 else M 16 1) = 44 ∧ cN T4 (if j = 0 then M 16 0 else M 16 1) = 30) ∧ (cD T4 (if j = 0 then M 17 0 else M 17 1) = 45 ∧ cN T4 (if j = 0 then M 17 0 else M 17 1) = 30)) ∧ (M 13 0 ≠ M 13 1 ∧ M 14 0 ≠ M 14 1 ∧ M 15 0 ≠ M 15 1 ∧ M 16 0 ≠ M 16 1 ∧ M 17 0 ≠ M 17 1) ∧ cI T4 144 (M 13 0) = mI Z 25 ∧ ∀ r, r < nN Z 25 → cA T4 42 (M 14 0) r = mA Z 26 r + 1 ∧ cA T4 43 (M 15 0) r = mA Z 27 r ∧ cA T4 44 (M 16 0) r = mA Z 28 r ∧ (mA Z 26 r = 0 → cA T4 45 (M 17 0) r = mA Z 29 r)
        have z2 : cD T2 (M 13 0) = 7 := by rw [cd2]; exact z0.1
        refine ⟨by rw [cd4]; exact hF.1, by rw [cd4]; exact hT.1, kR kS' hF.1 (by decide) (by simp) r3, kR kS' hT.1 (by decide) (by simp) r4, fun j hj => ?_, rn, ?_, fun r hr => ?_⟩
        · have J : ∀ t, t < 2 → cD T4 (M 13 t) = 7 ∧ cR T4 140 (M 13 t) = some (M 14 t) ∧ cR T4 141 (M 13 t) = some (M 15 t) ∧ cR T4 142 (M 13 t) = some (M 16 t) ∧ cR T4 143 (M 13 t) = some (M 17 t) ∧ (cD T4 (M 14 t) = 42 ∧ cN T4 (M 14 t) = 30) ∧ (cD T4 (M 15 t) = 43 ∧ cN T4 (M 15 t) = 30) ∧ (cD T4 (M 16 t) = 44 ∧ cN T4 (M 16 t) = 30) ∧ (cD T4 (M 17 t) = 45 ∧ cN T4 (M 17 t) = 30) := fun t ht => by
            have z := rj t ht
            exact ⟨kD kS z.1 (by decide), kR kS z.1 (by decide) (by decide) z.2.1, kR kS z.1 (by decide) (by decide) z.2.2.1, kR kS z.1 (by decide) (by decide) z.2.2.2.1, kR kS z.1 (by decide) (by decide) z.2.2.2.2.1, ⟨kD kS z.2.2.2.2.2.1.1 (by decide), kN kS z.2.2.2.2.2.1.1 (by decide) z.2.2.2.2.2.1.2⟩, ⟨kD kS z.2.2.2.2.2.2.1.1 (by decide), kN kS z.2.2.2.2.2.2.1.1 (by decide) z.2.2.2.2.2.2.1.2⟩, ⟨kD kS z.2.2.2.2.2.2.2.1.1 (by decide), kN kS z.2.2.2.2.2.2.2.1.1 (by decide) z.2.2.2.2.2.2.2.1.2⟩, kD kS z.2.2.2.2.2.2.2.2.1 (by decide), kN kS z.2.2.2.2.2.2.2.2.1 (by decide) z.2.2.2.2.2.2.2.2.2⟩
          by_cases c : j = 0
          · simp only [if_pos c]; exact J 0 (by decide)
          · simp only [if_neg c]; exact J 1 (by decide)
        · rw [y25]; exact kI k3 z2 (by decide) (by decide) q25
        · rw [nZ] at hr
          have l := qr r hr
          rw [yA' 26 rfl, yA' 27 rfl, yA' 28 rfl, yA' 29 rfl, kA k3 ((cd2 _).trans z0.2.2.2.2.2.1.1) (by decide) (by simp) r rfl, kA k3 ((cd2 _).trans z0.2.2.2.2.2.2.1.1) (by decide) (by simp) r rfl, kA k3 ((cd2 _).trans z0.2.2.2.2.2.2.2.1.1) (by decide) (by simp) r rfl, kA k3 ((cd2 _).trans z0.2.2.2.2.2.2.2.2.1) (by decide) (by simp) r rfl]
          exact l
    have hF4 := k_rFix k3 (by decide) hF2
    refine ⟨-6, M', uI T4 251 (M 0 0) (-6), toldF Z (-6), ?_, by rw [cX]; exact ref, eM0, by rw [← eM0]; exact rep_no (by decide) rep⟩
    have em : fX5_emptyTape n T2 (M 0 8) 0 = some T4 := by
      simp only [fX5_emptyTape, if_true, grd, bnd, b6, c122, ← eT3, ← eT4]
    simp only [fX11_rules, grd, onn, bnd, cal, un2, hF.1, hF.2.2.2.2.2.2.2.2.2.1, hT.1, if_true, cT, hF2.1, hF2.2.2.2.2.2.2.2.2.2.1, b6, em, hF4.1, ev_refuse _ hF4.1]
end M45
