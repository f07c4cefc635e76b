/-! PURE: a parcel taken over -/
section M27
variable {ae k : Nat} {M : Nat → Nat → Nat} {x : MS} {S : CS}
theorem pk_done (h : Rep ae k M x S) (hk512 : k < 512) {Lc f e : Nat} {mis : Int32} {z : MS} {N : Nat → Nat} {T T4 : CS} (hf : f < nN x 16) (he : e < nN x 20) (hpos : 0 < mA x 24 e) (hpk : PKb ae M x S (nx S) Lc f (nN x 37) mis z N T) (hPI : PInv x z (nN x 37 + cntL x + 10)) {w : Int32} (k4 : keep T T4 [102, gM 3, gS 3] [gE 3] [] [33]) (f4 : frsh T4) (l4 : listOk ae T4 3 (M 0 7) (nN x 32 + 1) (fun i => if i = nN x 32 then nx S else M 9 i)) (h102 : ∀ q, q < nN x 20 → cI T4 102 (M 7 q) = if q = e then mA x 24 e - 1 else mA x 24 q) :
    Rep ae (k + 1) (fun g => if g = 9 then (fun i => if i = nN x 32 then nx S else M 9 i) else if g = 10 then (fun i => if i = nN x 32 then Lc else M 10 i) else if g = 11 then (fun q => if q < nN x 37 then M 11 q else N q) else M g) (parcelX z e (nN x 32) (nI f) (mI x 37) mis) T4 := by
  obtain ⟨⟨hB, hk, harr, hKp, ⟨rl, rn, rs, rwh⟩, rlot, ⟨lin, lin0⟩, had, p0, p80, p81, p82, p83, p84, pl⟩, hw, hc⟩ := hpk
  have hO := g_rOk h
  have hk' : keep S T4 [65, 66, 102, gM 3, gS 3] [gE 3] [41] [33] := kpre (keep_tr hk k4) (by simp) (by simp) (by simp) (by simp)
  have kA : ∀ f, f ≠ 9 → f ≠ 10 → f ≠ 38 → f ≠ 39 → mA z f = mA x f := hKp.2.1
  have e32 : nN z 32 = nN x 32 := Kp_N hKp 32 (by decide)
  have hln := hO.2.2.2.2.2.2.2.2.2.2.1
  unfold lnOk at hln
  have hend := hO.2.2.2.2.2.2.2.2.2.2.2.2.2
  have h512 := hO.2.2.2.2.2.2.2.2.1
  have e37x := hO.2.2.2.2.2.2.2.2.2.2.2.1
  have hcl : cntL x ≤ 200 := Nat.le_trans (cntP_le _ _) hO.2.1.2
  have hz37 := hPI.2.2.1
  have h11 := hO.2.2.2.2.2.2.2.2.2.2.2.2.1
  obtain ⟨n0, en0⟩ : ∃ q, q = nN x 32 := ⟨_, rfl⟩
  obtain ⟨was, ewas⟩ : ∃ q, q = nN x 37 := ⟨_, rfl⟩
  obtain ⟨X, eX⟩ : ∃ q, q = parcelX z e n0 (nI f) (mI x 37) mis := ⟨_, rfl⟩
  rw [← en0] at l4 h512 hend hln ⊢
  rw [← ewas] at hPI hw lin lin0 had p83 pl hend e37x h11 hln hz37 ⊢
  rw [← eX]
  have x32 : nN X 32 = n0 + 1 := by
    rw [eX]
    show (nI (n0 + 1)).toNatClampNeg = _
    exact nI_clamp (by omega)
  have x37 : nN X 37 = nN z 37 := by rw [eX]; rfl
  have x33 : mA X 33 = upd (mA x 33) n0 (nI f) := by rw [eX, ← kA 33 (by decide) (by decide) (by decide) (by decide)]; rfl
  have x34 : mA X 34 = upd (mA x 34) n0 (mI x 2) := by rw [eX, ← kA 34 (by decide) (by decide) (by decide) (by decide), ← hKp.1 2 (by decide)]; rfl
  have x36 : mA X 36 = upd (mA x 36) n0 mis := by rw [eX, ← kA 36 (by decide) (by decide) (by decide) (by decide)]; rfl
  have x24 : mA X 24 = upd (mA x 24) e (mA x 24 e - 1) := by rw [eX, ← kA 24 (by decide) (by decide) (by decide) (by decide)]; rfl
  have x35 : mA X 35 = upd (upd (mA x 35) n0 (mI x 37)) (n0 + 1) (mI z 37) := by rw [eX, ← kA 35 (by decide) (by decide) (by decide) (by decide)]; rfl
  have x38 : mA X 38 = mA z 38 := by rw [eX]; rfl
  have x39 : mA X 39 = mA z 39 := by rw [eX]; rfl
  have x9 : mA X 9 = mA z 9 := by rw [eX]; rfl
  have x10 : mA X 10 = mA z 10 := by rw [eX]; rfl
  have x4 : nN X 4 = nN z 4 := by rw [eX]; rfl
  have zI : ∀ f, [32].contains f = false → mI X f = mI z f := fun f hf => by
    rw [eX]
    show (if f = 32 then nI (n0 + 1) else mI z f) = mI z f
    rw [if_neg (fun q => by rw [q] at hf; exact absurd hf (by decide))]
  have eI : ∀ f, [37, 32].contains f = false → mI X f = mI x f := fun f e => by
    rw [zI f (by
      by_cases c : f = 32
      · rw [c] at e; exact absurd e (by decide)
      · simp [c])]
    exact hKp.1 f (fun q => by rw [q] at e; exact absurd e (by decide))
  have zA : ∀ f, [24, 33, 34, 35, 36].contains f = false → mA X f = mA z f := fun f hf => by
    have hn : ∀ c, [24, 33, 34, 35, 36].contains c = true → f ≠ c := fun c hc q => by rw [q, hc] at hf; exact absurd hf (by decide)
    rw [eX]
    unfold parcelX parX1
    simp only [mA_sA, mA_sI]
    rw [if_neg (hn 35 rfl)]
    show mA (sA (sA (sA (sA (sA z 24 _) 33 _) 34 _) 35 _) 36 _) f = _
    simp only [mA_sA]
    rw [if_neg (hn 36 rfl), if_neg (hn 35 rfl), if_neg (hn 34 rfl), if_neg (hn 33 rfl), if_neg (hn 24 rfl)]
  have eA : ∀ f, [9, 10, 38, 39, 24, 33, 34, 35, 36].contains f = false → mA X f = mA x f := fun f e => by
    have hn : ∀ c, [9, 10, 38, 39, 24, 33, 34, 35, 36].contains c = true → f ≠ c := fun c hc q => by rw [q, hc] at e; exact absurd e (by decide)
    rw [zA f (by
      have := hn 24 rfl; have := hn 33 rfl; have := hn 34 rfl; have := hn 35 rfl; have := hn 36 rfl
      simp [*])]
    exact kA f (hn 9 rfl) (hn 10 rfl) (hn 38 rfl) (hn 39 rfl)
  have a35 : ∀ p, p ≤ n0 → mA X 35 p = mA x 35 p := fun p hp => by
    rw [x35, pk_un (by omega)]
    by_cases c : p = n0
    · rw [c, pk_us, e37x]
      have := (hln.2.1 n0 (Nat.le_refl _)).1
      rw [this, hend]
    · rw [pk_un c]
  have n35 : ∀ p, p ≤ n0 → nA X 35 p = nA x 35 p := fun p hp => by unfold nA; rw [a35 p hp]
  have a35l : mA X 35 (n0 + 1) = nI (nN z 37) := by rw [x35, pk_us]; exact hPI.2.1
  have n35l : nA X 35 (n0 + 1) = nN z 37 := by unfold nA; rw [a35l]; exact nI_clamp (by omega)
  have n35n : nA X 35 n0 = was := by rw [n35 n0 (Nat.le_refl _)]; exact hend
  obtain ⟨q0, q1, q2, q3, q4, q5, q6, q7, q8, q9, q10, q11, q12, q13⟩ := hO
  have okc : ∀ f b, [37, 32].contains f = false → okN x f b → okN X f b := fun f b hf hk => by
    unfold okN nN at hk ⊢
    rw [eI f hf]; exact hk
  refine pk_fin h rfl hk' eI eA (fun f _ => by rw [eX]; exact hKp.2.2.2 f) (fun f hf => ?_) ⟨f4, ?_, ?_⟩ ?_ ?_ ?_ ?_ ?_ ?_ ?_ ?_ ?_ ?_
  · rw [eX, ← hKp.2.2.1 f]
    show (if f = 40 then _ else mL z f) = mL z f
    rw [if_neg (fun q => by rw [q] at hf; exact absurd hf (by decide))]
  · rw [k4.1.1.2 ae hB.2.2]; exact hB.2.1
  · have := k4.1.1.1; have := hB.2.2; omega
  · refine ⟨(eI 0 rfl).trans q0, okc _ _ rfl q1, okc _ _ rfl q2, okc _ _ rfl q3, okc _ _ rfl q4, okc _ _ rfl q5, okc _ _ rfl q6, okc _ _ rfl q7, ⟨⟨?_, by rw [x32]; omega⟩, by rw [x32]; omega⟩, by rw [eI 2 rfl]; exact q9, ⟨by rw [x37]; omega, fun p hp => ?_, fun p hp => ?_, fun q hq => ?_⟩, by rw [zI 37 rfl, x37]; exact hPI.2.1, ?_, by rw [x32, x37, n35l]⟩
    · rw [x32, eX]; rfl
    · rw [x32] at hp
      rw [x37]
      by_cases c : p = n0 + 1
      · rw [c, a35l, n35l]; exact ⟨rfl, Nat.le_refl _⟩
      · rw [a35 p (by omega), n35 p (by omega)]
        have := hln.2.1 p (by omega)
        exact ⟨this.1, by omega⟩
    · rw [x32] at hp
      by_cases c : p = n0
      · rw [c, n35n, n35l]; exact hw
      · rw [n35 p (by omega), n35 (p + 1) (by omega)]
        exact hln.2.2.1 p (by omega)
    · rw [x37] at hq
      rw [x38]
      obtain ⟨j, hj, ej⟩ := rwh.2.2.2.2 q hq
      rw [ej]
      have : nN z 4 = nN x 4 := Kp_N hKp 4 (by decide)
      have := q1.2
      exact vp_in_nI (by omega) (by decide)
    · have : cntL X = cntL z := by unfold cntL; rw [x9, x4]
      rw [this, x37]; omega
  · rw [eX]; exact rl
  · rw [eX]; exact rn
  · refine ⟨?_, by rw [x37, x39]; exact rs.2.1, by rw [x37, x39, x10, x4]; exact rs.2.2⟩
    have e1 : mL X 40 = mL z 40 + mis.toInt64 := by rw [eX]; rfl
    have e2 : itN (fun p s => s + (mA X 36 p).toInt64) 0 (n0 + 1) = itN (fun p s => s + (mA X 36 p).toInt64) 0 n0 + (mA X 36 n0).toInt64 := rfl
    have e3 : itN (fun p s => s + (mA X 36 p).toInt64) 0 n0 = itN (fun p s => s + (mA z 36 p).toInt64) 0 n0 := it_cong n0 (fun p hp s => by rw [x36, pk_un (by omega), kA 36 (by decide) (by decide) (by decide) (by decide)])
    have e4 := rs.1
    rw [e32, ← en0] at e4
    rw [x32, e1, e2, e3, ← e4, x36, pk_us]
  · refine ⟨fun p hp => ?_, fun q hq => ?_, fun q hq => ?_, fun p hp => ?_, fun q hq => ?_⟩
    · rw [x32] at hp
      rw [x33, show nN X 16 = nN x 16 by unfold nN; rw [eI 16 rfl]]
      by_cases c : p = n0
      · rw [c, pk_us]; exact ⟨f, hf, rfl⟩
      · rw [pk_un c]; exact (g_rWho h).1 p (by omega)
    · rw [show nN X 20 = nN x 20 by unfold nN; rw [eI 20 rfl]] at hq
      rw [show nN X 16 = nN x 16 by unfold nN; rw [eI 16 rfl], eA 21 rfl]
      exact (g_rWho h).2.1 q hq
    · rw [show nN X 65 = nN x 65 by unfold nN; rw [eI 65 rfl]] at hq
      rw [show nN X 4 = nN x 4 by unfold nN; rw [eI 4 rfl], eA 66 rfl]
      exact (g_rWho h).2.2.1 q hq
    · rw [x32] at hp
      by_cases c : p = n0
      · rw [c, n35n, n35l]; omega
      · rw [n35 p (by omega), n35 (p + 1) (by omega)]
        exact (g_rWho h).2.2.2.1 p (by omega)
    · rw [x37] at hq
      rw [x4, x38]
      exact rwh.2.2.2.2 q hq
  · have := k_rLot (x' := X) k4 (by decide) (by rw [eX]; rfl) (by rw [eX]; rfl) (by rw [eX]; rfl) (by rw [eX]; rfl) (by rw [eX]; rfl) (by rw [eX]; rfl) (by rw [eX]; rfl) (by rw [eX]; rfl) (by rw [eX]; rfl) rlot
    exact this
  · intro i hi
    rw [show nN X 16 = nN x 16 by unfold nN; rw [eI 16 rfl]] at hi
    have hd := (g_rHad h i hi).1
    show cD T4 (M 6 i) = 41 ∧ ∀ g, g < 20 → (cA T4 41 (M 6 i) g).toInt64 = ledN X (nI g) (nI i) (nN X 32)
    refine ⟨kD hk' hd (by decide), fun g hg => ?_⟩
    have e1 := had i hi g hg
    have e2 : cA T4 41 (M 6 i) g = cA T 41 (M 6 i) g := congrFun (k4.2.2.2.1 41 (by simp) _ (by rw [kD hk hd (by decide)]; decide)) g
    rw [e2, e1, x32, ledN_s, x33, pk_us]
    have e3 : ledN X (nI g) (nI i) n0 = ledN x (nI g) (nI i) (nN x 32) := by
      rw [← en0]
      exact led_cong2 (L := was) (fun p hp => by rw [x33, pk_un (by omega)]) n35 (eA 8 rfl) (fun p hp => (hln.2.1 (p + 1) (by omega)).2) (fun q hq => by rw [x38, x39]; exact lin0 q hq) _ _
    rw [n35n, n35l, e3]
    have e4 : ∀ w, linN X (nI g) was w (nN z 37 - was) = linN z (nI g) was w (nN z 37 - was) := fun w => by
      unfold linN nA
      rw [x38, x39, eA 8 rfl, kA 8 (by decide) (by decide) (by decide) (by decide)]
    have h40 := q3.2
    by_cases c : i = f
    · rw [if_pos c, if_pos (by rw [c]), e4, linN_acc z (nI g) was (ledN x (nI g) (nI i) (nN x 32))]
    · rw [if_neg c, if_neg (fun q => c ((nI_eq (by omega) (by omega)).mp q).symm), Int64.add_zero]
  · have hR := g_rRef h
    refine ⟨?_, fun q hq => ?_, fun i hi => ?_⟩
    · show injOn (M 7) (nN X 20)
      rw [show nN X 20 = nN x 20 by unfold nN; rw [eI 20 rfl]]; exact hR.1
    · rw [show nN X 20 = nN x 20 by unfold nN; rw [eI 20 rfl]] at hq
      have r := hR.2.1 q hq
      show cD T4 (M 7 q) = 5 ∧ cI T4 100 (M 7 q) = mA X 22 q ∧ cI T4 101 (M 7 q) = mA X 23 q ∧ cI T4 102 (M 7 q) = mA X 24 q ∧ 0 ≤ mA X 24 q
      rw [eA 22 rfl, eA 23 rfl, x24]
      refine ⟨kD hk' r.1 (by decide), kI hk' r.1 (by decide) (by decide) r.2.1, kI hk' r.1 (by decide) (by decide) r.2.2.1, ?_, ?_⟩
      · rw [h102 q hq]
        by_cases c : q = e
        · rw [if_pos c, c, pk_us]
        · rw [if_neg c, pk_un c]
      · by_cases c : q = e
        · rw [c, pk_us]
          rw [Int32.lt_iff_toInt_lt] at hpos
          have m0 : (0 : Int32).toInt = 0 := by decide
          have m1 : (1 : Int32).toInt = 1 := by decide
          have := Int32.toInt_lt (mA x 24 e)
          rw [Int32.le_iff_toInt_le, i32_sb (by omega) (by omega)]
          omega
        · rw [pk_un c]; exact r.2.2.2.2
    · rw [show nN X 16 = nN x 16 by unfold nN; rw [eI 16 rfl]] at hi
      obtain ⟨g0, es, g1, g2, g3⟩ := hR.2.2 i hi
      show cD T4 (M 5 i) = 1 ∧ ∃ es : List Nat, chn T4 5 103 (M 7) (cR T4 23 (M 5 i)) es ∧ (∀ e, e ∈ es ↔ e < nN X 20 ∧ mA X 21 e = nI i) ∧ es.Pairwise (fun a b => b < a)
      refine ⟨kD hk' g0 (by decide), es, ?_, ?_, g3⟩
      · rw [kR hk' g0 (by decide) (by decide) rfl]
        exact keep_chn hk' (by decide) (by decide) es _ g1
      · rw [show nN X 20 = nN x 20 by unfold nN; rw [eI 20 rfl], eA 21 rfl]; exact g2
  · have hL := g_rParL h
    have hpx : ∀ p, p < nN x 32 → M 9 p < nx S := fun p hp => by
      have hd := ((g_rPar h).1 p hp).1
      rcases Nat.lt_or_ge (M 9 p) (nx S) with q | q
      · exact q
      · have := (g_rBase h).1 _ q; omega
    refine ⟨?_, ?_⟩
    · show listOk ae T4 3 (M 0 7) (nN X 32) (fun i => if i = n0 then nx S else M 9 i)
      rw [x32]; exact l4
    · show injOn (fun i => if i = n0 then nx S else M 9 i) (nN X 32)
      rw [x32]
      intro i j hi hj ee
      by_cases c1 : i = n0 <;> by_cases c2 : j = n0
      · omega
      · have ee : nx S = M 9 j := by simpa [c1, c2] using ee
        have := hpx j (by omega); omega
      · have ee : M 9 i = nx S := by simpa [c1, c2] using ee
        have := hpx i (by omega); omega
      · have ee : M 9 i = M 9 j := by simpa [c1, c2] using ee
        exact hL.2 i j (by omega) (by omega) ee
  · refine ⟨fun p hp => ?_, fun q hq => ?_⟩
    · rw [x32] at hp
      by_cases c : p = n0
      · subst c
        show cD T4 (if p = p then nx S else M 9 p) = 4 ∧ cI T4 80 (if p = p then nx S else M 9 p) = mA X 33 p ∧ cI T4 81 (if p = p then nx S else M 9 p) = mA X 34 p ∧ cR T4 82 (if p = p then nx S else M 9 p) = some (if p = p then Lc else M 10 p) ∧ cI T4 83 (if p = p then nx S else M 9 p) = grmN X (nA X 35 p) (nA X 35 (p + 1) - nA X 35 p) ∧ cI T4 84 (if p = p then nx S else M 9 p) = mA X 36 p ∧ listOk ae T4 4 (if p = p then Lc else M 10 p) (nA X 35 (p + 1) - nA X 35 p) (fun j => if nA X 35 p + j < was then M 11 (nA X 35 p + j) else N (nA X 35 p + j))
        rw [if_pos rfl, if_pos rfl, x33, x34, x36, pk_us, pk_us, pk_us, n35n, n35l]
        have eg : grmN X was (nN z 37 - was) = grmN z was (nN z 37 - was) := by unfold grmN; rw [x39]
        rw [eg]
        exact ⟨kD k4 p0 (by decide), kI k4 p0 (by decide) (by decide) p80, kI k4 p0 (by decide) (by decide) p81, kR k4 p0 (by decide) (by decide) p82, kI k4 p0 (by decide) (by decide) p83, kI k4 p0 (by decide) (by decide) p84, list_cong (keep_list k4 pl (by decide) (by decide) (by decide)) (fun i hi => if_neg (by omega))⟩
      · show cD T4 (if p = n0 then nx S else M 9 p) = 4 ∧ cI T4 80 (if p = n0 then nx S else M 9 p) = mA X 33 p ∧ cI T4 81 (if p = n0 then nx S else M 9 p) = mA X 34 p ∧ cR T4 82 (if p = n0 then nx S else M 9 p) = some (if p = n0 then Lc else M 10 p) ∧ cI T4 83 (if p = n0 then nx S else M 9 p) = grmN X (nA X 35 p) (nA X 35 (p + 1) - nA X 35 p) ∧ cI T4 84 (if p = n0 then nx S else M 9 p) = mA X 36 p ∧ listOk ae T4 4 (if p = n0 then Lc else M 10 p) (nA X 35 (p + 1) - nA X 35 p) (fun j => if nA X 35 p + j < was then M 11 (nA X 35 p + j) else N (nA X 35 p + j))
        rw [if_neg c, if_neg c]
        exact par_old h hk' (N11 := fun q => if q < was then M 11 q else N q) (by omega) (by rw [x33, pk_un c]) (by rw [x34, pk_un c]) (by rw [x36, pk_un c]) (n35 p (by omega)) (n35 (p + 1) (by omega)) (fun q hq => by rw [x39]; exact (lin0 q (by omega)).2) (fun q hq => if_pos (by omega))
    · rw [x37] at hq
      show cD T4 (if q < was then M 11 q else N q) = 2 ∧ cI T4 40 (if q < was then M 11 q else N q) = mA X 38 q ∧ cI T4 41 (if q < was then M 11 q else N q) = mA X 39 q
      rw [x38, x39]
      by_cases c : q < was
      · rw [if_pos c, (lin0 q c).1, (lin0 q c).2]
        exact (k_rPar hk' (by decide) (by decide) (by decide) rfl rfl rfl rfl rfl rfl rfl rfl (g_rPar h)).2 q (by omega)
      · rw [if_neg c]
        have l := lin q (by omega) hq
        exact ⟨kD k4 l.1 (by decide), kI k4 l.1 (by decide) (by decide) l.2.1, kI k4 l.1 (by decide) (by decide) l.2.2⟩
end M27
