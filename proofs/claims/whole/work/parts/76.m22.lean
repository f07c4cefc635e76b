/-! PURE: a line taken from a lot: both sides -/
theorem kn_add {S U T : CS} {GI GR GA GQ : List Nat} {r a : Nat} (h : keep S U GI GR GA GQ) (hf : frsh S) (ha : cD S a = 0) (hb : ∀ b, cR U (gE r) a = some b → cD S b = 0) (kT : keep U T [gM r, gS r] [gE r] [] [30 + r]) (off : addOff U T r a) : keep S T GI GR GA GQ ∧ ∀ b, cR T (gE r) a = some b → cD S b = 0 := by
  have nz : ∀ q, cD S q ≠ 0 → cD U q ≠ 0 := fun q hq => by rw [(h.1.2 q hq).1]; exact hq
  have na : ∀ q, cD S q ≠ 0 → q ≠ a := fun q hq e => hq (by rw [e]; exact ha)
  exact ⟨⟨ext_tr h.1 kT.1, fun g hg q hq => ((off.1 g q (nz q hq) (na q hq)).1).trans (h.2.1 g hg q hq), fun g hg q hq => ((off.1 g q (nz q hq) (na q hq)).2).trans (h.2.2.1 g hg q hq), fun g hg q hq => (kT.2.2.2.1 g (by simp) q (nz q hq)).trans (h.2.2.2.1 g hg q hq), fun g hg q hq => (off.2.1 g q (nz q hq) (fun e => hq (hb q e))).trans (h.2.2.2.2 g hg q hq)⟩, fun b e => (off.2.2 b e).elim (hb b) (fun z => hf b (Nat.le_trans h.1.1.1 z))⟩
theorem lin_take {z : MS} {j was : Nat} {its : Int32} (hj : j < 2 ^ 31) (hw : was ≤ nN z 37) (gi : Int32) (w : Int64) : linN (takeS z j its) gi was w (nN z 37 - was + 1) = linN z gi was w (nN z 37 - was) + if mA z 8 j = gi then its.toInt64 else 0 := by
  have e : was + (nN z 37 - was) = nN z 37 := by omega
  have e1 : linN (takeS z j its) gi was w (nN z 37 - was) = linN z gi was w (nN z 37 - was) := by
    unfold linN nA
    refine it_cong _ (fun q hq s => ?_)
    rw [tk_38, tk_39, pk_un (by omega), pk_un (by omega)]
    rfl
  rw [linN_s, e1, e, tk_38, tk_39, pk_us, pk_us, nI_clamp hj]
  rfl
theorem grm_take {z : MS} {j was : Nat} {its : Int32} (hw : was ≤ nN z 37) : grmN (takeS z j its) was (nN z 37 - was + 1) = grmN z was (nN z 37 - was) + its := by
  have e : was + (nN z 37 - was) = nN z 37 := by omega
  have e1 : grmN (takeS z j its) was (nN z 37 - was) = grmN z was (nN z 37 - was) := by
    unfold grmN
    refine it_cong _ (fun q hq s => ?_)
    rw [tk_39, pk_un (by omega)]
  have e2 : grmN (takeS z j its) was (nN z 37 - was + 1) = grmN (takeS z j its) was (nN z 37 - was) + mA (takeS z j its) 39 (was + (nN z 37 - was)) := rfl
  rw [e2, e1, e, tk_39, pk_us]
section M22
variable {ae k : Nat} {M : Nat → Nat → Nat} {x : MS} {S : CS}
/-- a parcel is being packed: z the reference's state, T the class's, P the parcel, Lc its list of lines -/
def PK (ae : Nat) (M : Nat → Nat → Nat) (x : MS) (S : CS) (P Lc f was : Nat) (mis : Int32) (z : MS) (N : Nat → Nat) (T : CS) : Prop :=
  (frsh T ∧ cD T ae = 0 ∧ ae < nx T) ∧ keep S T [65, 66] [] [41] [] ∧ (∀ b, cR T (gE 4) Lc = some b → cD S b = 0) ∧ Kp x z ∧ (rLim z ∧ rNew z ∧ rSum z ∧ rWho z) ∧ rLot M z T ∧ ((∀ q, was ≤ q → q < nN z 37 → cD T (N q) = 2 ∧ cI T 40 (N q) = mA z 38 q ∧ cI T 41 (N q) = mA z 39 q) ∧ ∀ q, q < was → mA z 38 q = mA x 38 q ∧ mA z 39 q = mA x 39 q) ∧ (∀ i, i < nN x 16 → ∀ g, g < 20 → (cA T 41 (M 6 i) g).toInt64 = ledN x (nI g) (nI i) (nN x 32) + (if i = f then linN z (nI g) was 0 (nN z 37 - was) else 0)) ∧ cD T P = 4 ∧ cI T 80 P = nI f ∧ cI T 81 P = mI x 2 ∧ cR T 82 P = some Lc ∧ cI T 83 P = grmN z was (nN z 37 - was) ∧ cI T 84 P = mis ∧ listOk ae T 4 Lc (nN z 37 - was) (fun j => N (was + j))
def linS (U : CS) (a b : Int32) : CS := uI (uI (nw U 2 0) 40 (nx U) a) 41 (nx U) b
theorem linS_k (U : CS) (hf : frsh U) (a b : Int32) : keep U (linS U a b) [] [] [] [] := by
  have h0 : cD U (nx U) = 0 := hf _ (Nat.le_refl _)
  unfold linS
  exact kn_I (kn_I (kn_w (keep_rf U) hf 2 0) h0 _ _) h0 _ _
/-- what a family had of a giver is far below the int's end -/
theorem had_le (h : Rep ae k M x S) {P Lc f was : Nat} {mis : Int32} {z : MS} {N : Nat → Nat} {T : CS} (hpk : PK ae M x S P Lc f was mis z N T) (hf : f < nN x 16) (hwas : was = nN x 37) (hw : was ≤ nN z 37) {g : Nat} (hg : g < 20) : 0 ≤ (cA T 41 (M 6 f) g).toInt ∧ (cA T 41 (M 6 f) g).toInt ≤ 200000000 := by
  obtain ⟨-, -, -, hKp, ⟨rl, rn, rs, -⟩, -, ⟨-, lin0⟩, had, -⟩ := hpk
  have e := had f hf g hg
  rw [if_pos rfl] at e
  have hln := (g_rOk h).2.2.2.2.2.2.2.2.2.2.1
  have q0 := (g_rSum h).2.1
  have h4z : nN z 4 ≤ 200 := by rw [Kp_N hKp 4 (by decide)]; exact (g_rOk h).2.1.2
  have gx := gr_le (g_rLim h) (g_rSum h) (g_rOk h).2.1.2
  have gz := gr_le rl rs h4z
  have L1 := led_le (x := x) (L := nN x 37) (N := nN x 32) q0 (by omega) (fun p hp => hln.2.2.1 p hp) (fun p hp => (hln.2.1 p hp).2) (nI g) (nI f) (nN x 32) (Nat.le_refl _)
  have L2 := grS_mono q0 (nA x 35 (nN x 32)) (nN x 37 - nA x 35 (nN x 32)) (by have := (hln.2.1 (nN x 32) (Nat.le_refl _)).2; omega)
  rw [show nA x 35 (nN x 32) + (nN x 37 - nA x 35 (nN x 32)) = nN x 37 by have := (hln.2.1 (nN x 32) (Nat.le_refl _)).2; omega] at L2
  have L3 : grS z was = grS x was := grS_cong (fun q hq => (lin0 q hq).2)
  have z0 : (0 : Int64).toInt = 0 := by decide
  have G0 := grS_mono rs.2.1 0 was (by omega)
  rw [grS_0, Nat.zero_add] at G0
  have L4 := lin_le (x := z) (L := nN z 37) rs.2.1 (nI g) was (z := 0) (by rw [z0]; omega) (nN z 37 - was) (by omega) (by rw [show was + (nN z 37 - was) = nN z 37 by omega, z0]; omega)
  rw [show was + (nN z 37 - was) = nN z 37 by omega, z0] at L4
  rw [← hwas] at L2
  have e2 := congrArg Int64.toInt e
  rw [Int32.toInt_toInt64, i64_add (by omega) (by omega)] at e2
  omega
theorem pk_step (n : Nat × Nat) (hae : n.2 = ae) (h : Rep ae k M x S) {P Lc f was : Nat} {mis : Int32} {z : MS} {N : Nat → Nat} {T : CS} (hf : f < nN x 16) (hP0 : cD S P = 0) (hL0 : cD S Lc = 0) (hpk : PK ae M x S P Lc f was mis z N T) (hwas : was = nN x 37) (hw : was ≤ nN z 37) (h37 : nN z 37 < 24000) (hm : nN z 37 - was ≤ 300) {j : Nat} {its : Int32} (hj : j < nN x 4) (h0 : 0 < its.toInt) (hle : its.toInt ≤ (mA z 9 j).toInt) :
    ∃ (T1 T2 : CS) (mc ms : Nat) (N' : Nat → Nat), fX3_addLine n (uI (uI T 65 (M 1 j) (mA z 9 j - its)) 66 (M 1 j) (mA z 10 j + its)) P (nI j) its = some (T1, mc, ms) ∧ fX0_noteHad n T1 (M 5 f) (mA x 8 j) its = some T2 ∧ (cD T1 (M 1 j) = 3 ∧ cI T1 64 (M 1 j) = mA x 8 j ∧ cD T1 (M 5 f) = 1) ∧ PK ae M x S P Lc f was mis (takeS z j its) N' T2 ∧ keep T T2 [65, 66, gM 4, gS 4, 83] [gE 4] [41] [34] ∧ mc ≤ 2 ∧ 4 * capL ae T 4 Lc + ms ≤ 4 * capL ae T2 4 Lc + 2 ∧ (capL ae T2 4 Lc ≤ capL ae T 4 Lc ∨ capL ae T2 4 Lc ≤ 10 + 2 * (nN z 37 - was)) := by
  have hLe := fun (g : Nat) (hg : g < 20) => had_le h hpk hf hwas hw hg
  obtain ⟨⟨fT, aT, xT⟩, hk, harr, hKp, ⟨rl, rn, rs, rwh⟩, rlot, ⟨lin, lin0⟩, had, p0, p80, p81, p82, p83, p84, pl⟩ := hpk
  have hF := g_rFix h
  obtain ⟨hB1, hB2, hB3⟩ := g_rBase h
  have e4 : nN z 4 = nN x 4 := Kp_N hKp 4 (by decide)
  have h200 : nN x 4 ≤ 200 := (g_rOk h).2.1.2
  have hjz : j < nN z 4 := by rw [e4]; exact hj
  have lj := rlot j hjz
  have e8 : mA z 8 = mA x 8 := hKp.2.1 8 (by decide) (by decide) (by decide) (by decide)
  have hfam := g_rFam h f hf
  have plD : cD T Lc = 24 := pl.1
  obtain ⟨U2, eU2⟩ : ∃ u, u = uI (uI T 65 (M 1 j) (mA z 9 j - its)) 66 (M 1 j) (mA z 10 j + its) := ⟨_, rfl⟩
  have k02 : keep T U2 [65, 66] [] [] [] := by rw [eU2]; exact keep_tr (keep_uI _ _ _ _) (keep_uI _ _ _ _)
  have fU2 : frsh U2 := by rw [eU2]; exact fT
  have nU2 : nx U2 = nx T := by rw [eU2]; rfl
  have v65 : ∀ i, i < nN z 4 → cI U2 65 (M 1 i) = upd (mA z 9) j (mA z 9 j - its) i := fun i hi => by
    rw [eU2, cI_uI, set1_n _ _ (by decide), cI_uI, set1_s]
    by_cases e : i = j
    · rw [e, set1_s, pk_us]
    · rw [set1_n _ _ (fun q => e ((g_rLotL h).2 i j (by omega) hj q)), pk_un e]
      exact (rlot i hi).2.2.2.2.2.2.1
  have v66 : ∀ i, i < nN z 4 → cI U2 66 (M 1 i) = upd (mA z 10) j (mA z 10 j + its) i := fun i hi => by
    rw [eU2, cI_uI, set1_s]
    by_cases e : i = j
    · rw [e, set1_s, pk_us]
    · rw [set1_n _ _ (fun q => e ((g_rLotL h).2 i j (by omega) hj q)), pk_un e, cI_uI, set1_n _ _ (by decide)]
      exact (rlot i hi).2.2.2.2.2.2.2.1
  obtain ⟨U4, eU4⟩ : ∃ u, u = linS U2 (nI j) its := ⟨_, rfl⟩
  have k24 : keep U2 U4 [] [] [] [] := by rw [eU4]; exact linS_k U2 fU2 _ _
  have f4 : frsh U4 := by rw [eU4]; exact frsh_nw 2 0 fU2
  have n4 : nx U4 = nx T + 1 := by rw [eU4, ← nU2]; rfl
  have d4 : cD U4 (nx T) = 2 := by
    rw [eU4, ← nU2]
    unfold linS
    rw [cD_uI, cD_uI, cD_nw, set1_s]
  have d40 : cI U4 40 (nx T) = nI j := by
    rw [eU4, ← nU2]
    unfold linS
    rw [cI_uI, set1_n _ _ (by decide), cI_uI, set1_s, set1_s]
  have d41 : cI U4 41 (nx T) = its := by
    rw [eU4, ← nU2]
    unfold linS
    rw [cI_uI, set1_s, set1_s]
  have k04 : keep T U4 [65, 66] [] [] [] := kpre (keep_tr k02 k24) (by simp) (by simp) (by simp) (by simp)
  have a4 : cD U4 ae = 0 := by rw [k04.1.1.2 ae xT]; exact aT
  have pl4 := keep_list k04 pl (by decide) (by decide) (by decide)
  obtain ⟨U5, mc, ms, ea, b1, b2, l5, k45, f5, off, cp1, cp2⟩ := ev_add n hae f4 a4 (by rw [n4]; omega) pl4 (by omega) (v := nx T) d4
  have k05 : keep T U5 [65, 66, gM 4, gS 4] [gE 4] [] [34] := kpre (keep_tr k04 k45) (by simp) (by simp) (by simp) (by simp)
  obtain ⟨w83, e83⟩ : ∃ u, u = cI U5 83 P + its := ⟨_, rfl⟩
  have c83 : cI U5 83 P = grmN z was (nN z 37 - was) := kI k05 p0 (by decide) (by decide) p83
  obtain ⟨T1, eT1⟩ : ∃ u, u = uI U5 83 P w83 := ⟨_, rfl⟩
  have k51 : keep U5 T1 [83] [] [] [] := by rw [eT1]; exact keep_uI _ _ _ _
  have k01 : keep T T1 [65, 66, gM 4, gS 4, 83] [gE 4] [] [34] := kpre (keep_tr k05 k51) (by simp) (by simp) (by simp) (by simp)
  have kS1 : keep S T1 [65, 66, gM 4, gS 4, 83] [gE 4] [41] [34] := kpre (keep_tr hk k01) (by simp) (by simp) (by simp) (by simp)
  obtain ⟨g, hg, eg⟩ := isB_nI ((rl.2.1 j hjz).2.2.2.1) (n := 20) (by decide) (by decide)
  rw [e8] at eg
  have egc : (nI g).toNatClampNeg = g := nI_clamp (by omega)
  have had1 : cD T1 (M 6 f) = 41 := kD kS1 hfam.2.2.2.2.1 (by decide)
  have hadN : cN T1 (M 6 f) = 20 := kN kS1 hfam.2.2.2.2.1 (by decide) hfam.2.2.2.2.2
  have hadT : ∀ i, i < nN x 16 → cD T (M 6 i) = 41 := fun i hi => kD hk (g_rFam h i hi).2.2.2.2.1 (by decide)
  obtain ⟨wh, ewh⟩ : ∃ u, u = cA T1 41 (M 6 f) g + its := ⟨_, rfl⟩
  obtain ⟨T2, eT2⟩ : ∃ u, u = uA T1 41 (M 6 f) g wh := ⟨_, rfl⟩
  have k12 : keep T1 T2 [] [] [41] [] := by rw [eT2]; exact keep_uA _ _ _ _ _
  have k02' : keep T T2 [65, 66, gM 4, gS 4, 83] [gE 4] [41] [34] := kpre (keep_tr k01 k12) (by simp) (by simp) (by simp) (by simp)
  have kU2 : keep U2 T2 [gM 4, gS 4, 83] [gE 4] [41] [34] := kpre (keep_tr k24 (keep_tr k45 (keep_tr k51 k12))) (by simp) (by simp) (by simp) (by simp)
  have k42 : keep U4 T2 [gM 4, gS 4, 83] [gE 4] [41] [34] := kpre (keep_tr k45 (keep_tr k51 k12)) (by simp) (by simp) (by simp) (by simp)
  have e37 : nN (takeS z j its) 37 = nN z 37 + 1 := (takeS_37 z j its h37).2
  have e37w : nN z 37 + 1 - was = nN z 37 - was + 1 := by omega
  refine ⟨T1, T2, 1 + (mc + 0), 2 + (ms + 0), fun q => if q = nN z 37 then nx T else N q, ?_, ?_, ⟨kD k01 lj.1 (by decide), ?_, kD kS1 hfam.1 (by decide)⟩, ⟨⟨?_, ?_, ?_⟩, ?_, ?_, Kp_take hKp j its, take_ref hjz h37 h0 hle rl rn rs rwh, ?_, ⟨fun q hq1 hq2 => ?_, fun q hq => ?_⟩, fun i hi g' hg' => ?_, kD k02' p0 (by decide), kI k02' p0 (by decide) (by decide) p80, kI k02' p0 (by decide) (by decide) p81, kR k02' p0 (by decide) (by decide) p82, ?_, kI k02' p0 (by decide) (by decide) p84, ?_⟩, k02', by omega, ?_, ?_⟩
  · rw [← eU2]
    have y1 : cD U2 P = 4 := kD k02 p0 (by decide)
    have y2 : cR U2 82 P = some Lc := kR k02 p0 (by decide) (by decide) p82
    have y3 : fX1_init n (nw U2 2 0) (nx U2) (nI j) its = some U4 := by
      simp only [fX1_init, grd, bnd, cD_new, if_true, eU4, linS]
    have y4 : cD U4 Lc = 24 := pl4.1
    have y5 : cD U5 P = 4 := kD k05 p0 (by decide)
    rw [← nU2] at ea
    simp only [fX3_addLine, grd, onn, bnd, cal, un2, adc, y1, y2, y3, y4, ea, y5, if_true, ← e83, ← eT1]
  · rw [eg]
    have e1 : isB (nI g) 0 19 = true := by
      simp only [isB, Bool.and_eq_true, decide_eq_true_eq]
      exact ⟨nI_le (a := 0) (Nat.zero_le _) (by omega), nI_le (b := 19) (by omega) (by decide)⟩
    have c2 : ¬ (nI g < 0 ∨ 20 ≤ g) := by
      have := vp_in_nI (n := g) (N := 20) hg (by decide)
      unfold vp_in at this
      rw [egc] at this
      exact this
    have y1 : cD T1 (M 5 f) = 1 := kD kS1 hfam.1 (by decide)
    have y2 : cR T1 22 (M 5 f) = some (M 6 f) := kR kS1 hfam.1 (by decide) (by decide) hfam.2.2.2.1
    simp only [fX0_noteHad, grd, onn, bnd, ev_within, e1, bI, if_true, if_neg n10, y1, y2, had1, hadN, egc, if_pos c2, ← ewh, ← eT2]
  · rw [kI k01 lj.1 (by decide) (by decide) lj.2.2.2.2.2.1, e8]
  · intro q hq
    rw [eT2, eT1] at hq ⊢
    exact f5 q hq
  · rw [k02'.1.1.2 ae xT]; exact aT
  · have := k02'.1.1.1; omega
  · have hL : cD S (nx T) = 0 := hB1 _ hk.1.1.1
    have a1 : keep S U2 [65, 66] [] [41] [] := kpre (keep_tr hk k02) (by simp) (by simp) (by simp) (by simp)
    have a2 : keep S U4 [65, 66] [] [41] [] := by
      rw [eU4]
      unfold linS
      rw [nU2]
      exact kn_I (kn_I (kn_w a1 hB1 2 0) hL _ _) hL _ _
    have a3 := (kn_add (r := 4) a2 hB1 hL0 (fun b e => harr b (by rw [← e]; exact (kR k04 plD (by decide) (by decide) rfl).symm)) k45 off).1
    have a5 : keep S T1 [65, 66] [] [41] [] := by rw [eT1]; exact kn_I a3 hP0 _ _
    exact kpre (keep_tr a5 k12) (by simp) (by simp) (by simp) (by simp)
  · intro b e
    have hL : cD S (nx T) = 0 := hB1 _ hk.1.1.1
    have a1 : keep S U2 [65, 66] [] [41] [] := kpre (keep_tr hk k02) (by simp) (by simp) (by simp) (by simp)
    have a2 : keep S U4 [65, 66] [] [41] [] := by
      rw [eU4]
      unfold linS
      rw [nU2]
      exact kn_I (kn_I (kn_w a1 hB1 2 0) hL _ _) hL _ _
    exact (kn_add (r := 4) a2 hB1 hL0 (fun b e => harr b (by rw [← e]; exact (kR k04 plD (by decide) (by decide) rfl).symm)) k45 off).2 b (by rw [eT2, eT1] at e; exact e)
  · intro i hi
    rw [takeS_N _ _ _ _ (by decide)] at hi
    have q := rlot i hi
    rw [takeS_9, tk_10]
    have d2 : cD U2 (M 1 i) = 3 := kD k02 q.1 (by decide)
    exact ⟨kD k02' q.1 (by decide), kI k02' q.1 (by decide) (by decide) q.2.1, kI k02' q.1 (by decide) (by decide) q.2.2.1, kI k02' q.1 (by decide) (by decide) q.2.2.2.1, kI k02' q.1 (by decide) (by decide) q.2.2.2.2.1, kI k02' q.1 (by decide) (by decide) q.2.2.2.2.2.1, kI kU2 d2 (by decide) (by decide) (v65 i hi), kI kU2 d2 (by decide) (by decide) (v66 i hi), kI k02' q.1 (by decide) (by decide) q.2.2.2.2.2.2.2.2.1, kI k02' q.1 (by decide) (by decide) q.2.2.2.2.2.2.2.2.2⟩
  · rw [e37] at hq2
    rw [tk_38, tk_39]
    dsimp only
    by_cases e : q = nN z 37
    · rw [if_pos e, e, pk_us, pk_us]
      exact ⟨kD k42 d4 (by decide), kI k42 d4 (by decide) (by decide) d40, kI k42 d4 (by decide) (by decide) d41⟩
    · rw [if_neg e, pk_un e, pk_un e]
      have l := lin q hq1 (by omega)
      exact ⟨kD k02' l.1 (by decide), kI k02' l.1 (by decide) (by decide) l.2.1, kI k02' l.1 (by decide) (by decide) l.2.2⟩
  · rw [tk_38, tk_39, pk_un (by omega), pk_un (by omega)]
    exact lin0 q hq
  · rw [e37, e37w]
    have hd := had i hi g' hg'
    have c1 : ∀ i, i < nN x 16 → cA T1 41 (M 6 i) = cA T 41 (M 6 i) := fun i hi => k01.2.2.2.1 41 (by simp) _ (by rw [hadT i hi]; decide)
    by_cases ei : i = f
    · subst ei
      rw [if_pos rfl] at hd ⊢
      rw [lin_take (by omega) hw, ← Int64.add_assoc, ← hd, eT2, cA_uA, set1_s, set1_s, e8, eg]
      by_cases eg2 : g' = g
      · subst eg2
        rw [if_pos rfl, pk_us, ewh, c1 i hi]
        have b := hLe g' hg'
        have hb9 := (rl.2.1 j hjz).2.2.2.2.1
        simp only [isB, Bool.and_eq_true, decide_eq_true_eq, Int32.le_iff_toInt_le] at hb9
        have m6 : (1000000 : Int32).toInt = 1000000 := by decide
        apply Int64.toInt.inj
        rw [Int32.toInt_toInt64, i32_add (by omega) (by omega), i64_add (by rw [Int32.toInt_toInt64, Int32.toInt_toInt64]; omega) (by rw [Int32.toInt_toInt64, Int32.toInt_toInt64]; omega), Int32.toInt_toInt64, Int32.toInt_toInt64]
      · rw [if_neg (fun w => eg2 ((nI_eq (by omega) (by omega)).mp w).symm), pk_un eg2, c1 i hi, Int64.add_zero]
    · rw [if_neg ei] at hd ⊢
      rw [← hd, eT2, cA_uA, set1_s, set1_n _ _ (fun w => ei ((g_rFamL h).2.2 i f hi hf w)), c1 i hi]
  · rw [e37, e37w, grm_take hw, ← c83, ← e83, eT2, cI_uA, eT1, cI_uI, set1_s, set1_s]
  · rw [e37, e37w]
    have l6 := keep_list k12 (keep_list k51 l5 (by decide) (by decide) (by decide)) (by decide) (by decide) (by decide)
    have ef : (fun i => if i = nN z 37 - was then nx T else N (was + i)) = fun i => if was + i = nN z 37 then nx T else N (was + i) := by
      funext i
      by_cases e : i = nN z 37 - was
      · rw [if_pos e, if_pos (by omega)]
      · rw [if_neg e, if_neg (by omega)]
    rw [ef] at l6
    exact l6
  · have e1 : capL ae U4 4 Lc = capL ae T 4 Lc := by
      obtain ⟨-, -, -, b, hb, hb2, -⟩ := pl
      rw [cap_is hb, cap_is (kR k04 plD (by decide) (by decide) hb)]
      by_cases e : b = ae
      · rw [if_pos e, if_pos e]
      · rw [if_neg e, if_neg e]
        rcases hb2 with hb2 | hb2
        · exact absurd hb2.2 e
        · exact kN k04 hb2.2.1 (by decide) rfl
    have e2 : capL ae T2 4 Lc = capL ae U5 4 Lc := by rw [eT2, eT1]; rfl
    rw [e2, ← e1]
    omega
  · have e1 : capL ae U4 4 Lc = capL ae T 4 Lc := by
      obtain ⟨-, -, -, b, hb, hb2, -⟩ := pl
      rw [cap_is hb, cap_is (kR k04 plD (by decide) (by decide) hb)]
      by_cases e : b = ae
      · rw [if_pos e, if_pos e]
      · rw [if_neg e, if_neg e]
        rcases hb2 with hb2 | hb2
        · exact absurd hb2.2 e
        · exact kN k04 hb2.2.1 (by decide) rfl
    have e2 : capL ae T2 4 Lc = capL ae U5 4 Lc := by rw [eT2, eT1]; rfl
    rw [e2, ← e1]
    exact cp2
end M22
