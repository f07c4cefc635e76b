/-! PURE: what parting lots keeps; along a chain -/
def Kg (x z : MS) : Prop := (∀ f, mI z f = mI x f) ∧ (∀ f, f ≠ 9 → f ≠ 11 → mA z f = mA x f) ∧ (∀ f, mL z f = mL x f) ∧ ∀ f, mB z f = mB x f
theorem Kg_rf (x : MS) : Kg x x := ⟨fun _ => rfl, fun _ _ _ => rfl, fun _ => rfl, fun _ => rfl⟩
theorem Kg_gv {x z : MS} (h : Kg x z) (j : Nat) (its : Int32) : Kg x (giveS z j its) := ⟨fun f => h.1 f, fun f a b => (gv_A z j its f a b).trans (h.2.1 f a b), fun f => h.2.2.1 f, fun f => h.2.2.2 f⟩
theorem Kg_nN {x z : MS} (h : Kg x z) (f : Nat) : nN z f = nN x f := by unfold nN; rw [h.1 f]
theorem Kg_ok {x z : MS} (h : Kg x z) {f b : Nat} (hk : okN x f b) : okN z f b := by
  unfold okN
  rw [h.1 f, Kg_nN h f]
  exact hk
theorem Kg_giveN {x : MS} (kd : Int32) : ∀ (n : Nat) (z : MS) (g : Int32), Kg x z → Kg x (giveN kd n z g)
  | 0, _, _, h => h
  | n + 1, z, g, h => by
    by_cases hl : lF z kd g < 0
    · rw [giveN_exit hl]; exact h
    · rw [giveN, if_neg hl]
      exact Kg_giveN kd n _ _ (Kg_gv h _ _)
/-- what holds of the lots -/
def okL (z : MS) : Prop := rLim z ∧ rNew z
theorem okL_nng {z : MS} (h : okL z) : nng z := fun i => i32_0le (h.1.1 i)
theorem okL_gv {z : MS} {j : Nat} {its : Int32} (hj : j < nN z 4) (h0 : 0 ≤ its.toInt) (hle : its.toInt ≤ (mA z 9 j).toInt) (h : okL z) : okL (giveS z j its) := by
  obtain ⟨hLim, hNew⟩ := h
  have m0 : (0 : Int32).toInt = 0 := by decide
  have m6 : (1000000 : Int32).toInt = 1000000 := by decide
  obtain ⟨a5, a6, a7, a8, a9, es, a10, a11, a12⟩ := hLim.2.1 j hj
  have n10 := i32_0le a10
  have n11 := i32_0le a11
  have n12 := i32_0le a12
  have b6 := a6
  have b9 := a9
  simp only [isB, Bool.and_eq_true, decide_eq_true_eq, Int32.le_iff_toInt_le] at b6 b9
  have s9 : (mA z 9 j - its).toInt = (mA z 9 j).toInt - its.toInt := i32_sb (by omega) (by omega)
  have s11 : (mA z 11 j + its).toInt = (mA z 11 j).toInt + its.toInt := i32_add (by omega) (by omega)
  refine ⟨⟨fun i => ?_, fun i hi => ?_, hLim.2.2⟩, ?_⟩
  · rw [gv_9]
    by_cases e : i = j
    · rw [e, pk_us, Int32.le_iff_toInt_le, s9, m0]; omega
    · rw [pk_un e]; exact hLim.1 i
  · have hi : i < nN z 4 := hi
    rw [gv_9, gv_11]
    by_cases e : i = j
    · rw [e, pk_us, pk_us]
      refine ⟨a5, a6, a7, a8, ?_, ?_, a10, ?_, a12⟩
      · simp only [isB, Bool.and_eq_true, decide_eq_true_eq, Int32.le_iff_toInt_le, s9]
        omega
      · show (mA z 6 j).toInt = (mA z 9 j - its).toInt + (mA z 10 j).toInt + (mA z 11 j + its).toInt + (mA z 12 j).toInt
        omega
      · rw [Int32.le_iff_toInt_le, s11, m0]; omega
    · rw [pk_un e, pk_un e]
      exact hLim.2.1 i hi
  · intro i hi
    have hi : nN z 4 ≤ i := hi
    rw [gv_9, gv_11, pk_un (by omega), pk_un (by omega)]
    exact hNew i hi
theorem okL_giveN (kd : Int32) : ∀ (n : Nat) (z : MS) (g : Int32), nN z 4 < 2 ^ 31 → okL z → okL (giveN kd n z g) ∧ cntL (giveN kd n z g) ≤ cntL z
  | 0, _, _, _, h => ⟨h, Nat.le_refl _⟩
  | n + 1, z, g, h4, h => by
    by_cases hl : lF z kd g < 0
    · rw [giveN_exit hl]; exact ⟨h, Nat.le_refl _⟩
    · obtain ⟨j, hj, hlj, hg, hnx, hp, -, -⟩ := lF_spec hl
      rw [giveN_step hlj (by omega)]
      have ii := its_in (z := z) (j := j) hg hp
      have ih := okL_giveN kd n (giveS z j (itsF z j g)) (g - itsF z j g) h4 (okL_gv hj (by omega) (by omega) h)
      have hc := gv_cnt_le (its := itsF z j g) hj hp
      exact ⟨ih.1, by omega⟩
theorem giveN_aS {kd le : Int32} : ∀ (n : Nat) (z : MS) (g : Int32), nN z 4 < 2 ^ 31 → nng z → le = mI z 2 + spareN z kd (nN z 25) → 0 ≤ g.toInt → g.toInt ≤ aS z kd le (nN z 4) → cntL z < n → aS (giveN kd n z g) kd le (nN z 4) = aS z kd le (nN z 4) - g.toInt
  | 0, _, _, _, _, _, _, _, h => absurd h (Nat.not_lt_zero _)
  | n + 1, z, g, h4, hz, hle, p, ha, hf => by
    have m0 : (0 : Int32).toInt = 0 := by decide
    by_cases hg : g ≤ 0
    · rw [giveN_0 hg]
      rw [Int32.le_iff_toInt_le, m0] at hg
      omega
    · have hg' : 0 < g.toInt := by rw [Int32.le_iff_toInt_le, m0] at hg; omega
      obtain ⟨j, hj, e, cj⟩ : ∃ j, j < nN z 4 ∧ nextF z kd = nI j ∧ can z kd le j := by
        rcases nextN_min z kd le (nN z 4) (by omega) with ⟨-, no⟩ | ⟨i, hi, e, ci, -⟩
        · have := aS_none (le := le) hz (nN z 4) no; omega
        · exact ⟨i, hi, by unfold nextF; rw [← hle]; exact e, ci⟩
      have hlj : lF z kd g = nI j := by unfold lF; rw [if_neg hg]; exact e
      rw [giveN_step hlj (by omega)]
      have ii := its_in (z := z) (j := j) hg cj.2.1
      have s1 : (g - itsF z j g).toInt = g.toInt - (itsF z j g).toInt := i32_sb (by omega) (by have := Int32.toInt_lt g; omega)
      have au := aS_upd (z := z) (j := j) (its := itsF z j g) (kd := kd) (le := le) ⟨cj.1, cj.2.2⟩ (by omega) (by omega) (nN z 4)
      rw [if_pos hj] at au
      by_cases c : g ≤ mA z 9 j
      · have e1 : itsF z j g = g := if_pos c
        rw [e1, giveN_0 (i32_sub_self g)]
        rw [e1] at au
        exact au
      · have e1 : itsF z j g = mA z 9 j := if_neg c
        have hc := gv_cnt hj cj.2.1 e1
        have ih := giveN_aS (kd := kd) (le := le) n (giveS z j (itsF z j g)) (g - itsF z j g) h4 (gv_nng hz (by omega) (by omega)) hle (by omega) (by show _ ≤ aS (giveS z j (itsF z j g)) kd le (nN z 4); omega) (by omega)
        have ih : aS (giveN kd n (giveS z j (itsF z j g)) (g - itsF z j g)) kd le (nN z 4) = aS (giveS z j (itsF z j g)) kd le (nN z 4) - (g - itsF z j g).toInt := ih
        omega
/-- the lots' side of two states is the same -/
def ag (y z : MS) : Prop := mI y 2 = mI z 2 ∧ mI y 4 = mI z 4 ∧ mI y 25 = mI z 25 ∧ mA y 5 = mA z 5 ∧ mA y 7 = mA z 7 ∧ mA y 26 = mA z 26 ∧ mA y 27 = mA z 27 ∧ mA y 28 = mA z 28 ∧ mA y 9 = mA z 9 ∧ mA y 11 = mA z 11
theorem ag_giveN (kd : Int32) : ∀ (n : Nat) (y z : MS) (g : Int32), ag y z → ag (giveN kd n y g) (giveN kd n z g)
  | 0, _, _, _, h => h
  | n + 1, y, z, g, h => by
    obtain ⟨h2, h4, h25, h5, h7, h26, h27, h28, h9, h11⟩ := h
    have en : lF y kd g = lF z kd g := by
      unfold lF
      rw [next_same h2 h4 h25 h5 h7 h26 h27 h28 (fun i => by rw [h9]) kd]
    by_cases hl : lF z kd g < 0
    · rw [giveN_exit hl, giveN_exit (by rw [en]; exact hl)]
      exact ⟨h2, h4, h25, h5, h7, h26, h27, h28, h9, h11⟩
    · rw [giveN, giveN, if_neg hl, en, if_neg hl]
      have ei : itsF y (lF z kd g).toNatClampNeg g = itsF z (lF z kd g).toNatClampNeg g := by unfold itsF; rw [h9]
      rw [ei]
      refine ag_giveN kd n _ _ _ ⟨h2, h4, h25, h5, h7, h26, h27, h28, ?_, ?_⟩
      · rw [gv_9, gv_9, h9]
      · rw [gv_11, gv_11, h11]
section M32
variable {ae k : Nat} {M : Nat → Nat → Nat} {x : MS} {S : CS}
theorem out_lp (n : Nat × Nat) (h4 : nN x 4 ≤ 200) (inj : injOn (M 1) (nN x 4)) {kd : Nat} {le : Int32} (hle : le = mI x 2 + spareN x (nI kd) (nN x 25)) {js : List Nat} (hm : ∀ i, i ∈ js ↔ i < nN x 4 ∧ mA x 5 i = nI kd) (hp : js.Pairwise (sooner x)) :
    ∀ (js2 js1 : List Nat) (fuel : Nat) (z : MS) (g : Int32) (o : Option Nat) (T : CS) (tf : Nat), js = js1 ++ js2 → Kg x z → rLot M z T → chn T 3 69 (M 1) o js2 → (g ≤ 0 ∨ ∀ i ∈ js1, ¬ may z le i) → js2.length < fuel → js2.length < tf →
    ∃ T' : CS, fX7_partOut_lp10 n le fuel g o T = some T' ∧ rLot M (giveN (nI kd) tf z g) T' ∧ keep T T' [65, 67] [] [] [] ∧ nx T' = nx T ∧ ∀ q, cD T' q = cD T q
  | js2, js1, 0, _, _, _, _, _, _, _, _, _, _, hfu, _ => absurd hfu (Nat.not_lt_zero _)
  | [], js1, fuel + 1, z, g, o, T, tf, ej, hK, hlot, hc, hno, hfu, htf => by
    have hc : o = none := hc
    subst hc
    have es : spareN z (nI kd) (nN z 25) = spareN x (nI kd) (nN x 25) := by
      unfold spareN nN
      rw [hK.1 25, hK.2.1 26 (by decide) (by decide), hK.2.1 27 (by decide) (by decide), hK.2.1 28 (by decide) (by decide)]
    have et : giveN (nI kd) tf z g = z := by
      by_cases hg : g ≤ 0
      · exact giveN_0 hg tf
      · obtain ⟨tf', rfl⟩ : ∃ q, tf = q + 1 := ⟨tf - 1, by simp at htf; omega⟩
        apply giveN_exit
        unfold lF
        rw [if_neg hg]
        have hno := hno.resolve_left hg
        have e : nextF z (nI kd) = -1 := by
          unfold nextF
          rw [hK.1 2, es, ← hle]
          refine next_no (js := js) (fun i => ?_) ?_ (fun i hi => ?_)
          · rw [hm, Kg_nN hK 4, hK.2.1 5 (by decide) (by decide)]
          · rw [Kg_nN hK 4]; omega
          · rw [ej, List.append_nil] at hi; exact hno i hi
        rw [e]; decide
    rw [et]
    exact ⟨T, rfl, hlot, kpre (keep_rf T) (by simp) (by simp) (by simp) (by simp), rfl, fun _ => rfl⟩
  | j :: js2, js1, fuel + 1, z, g, o, T, tf, ej, hK, hlot, hc, hno, hfu, htf => by
    obtain ⟨rfl, hd, ht⟩ := hc
    have e4 : nN z 4 = nN x 4 := Kg_nN hK 4
    have hjm := (hm j).mp (by rw [ej]; simp)
    have es : spareN z (nI kd) (nN z 25) = spareN x (nI kd) (nN x 25) := by
      unfold spareN nN
      rw [hK.1 25, hK.2.1 26 (by decide) (by decide), hK.2.1 27 (by decide) (by decide), hK.2.1 28 (by decide) (by decide)]
    by_cases hg : g ≤ 0
    · rw [giveN_0 hg]
      refine ⟨T, ?_, hlot, kpre (keep_rf T) (by simp) (by simp) (by simp) (by simp), rfl, fun _ => rfl⟩
      simp only [fX7_partOut_lp10, oel, if_pos hg]
    · have hno := hno.resolve_left hg
      have hjz : j < nN z 4 := by rw [e4]; exact hjm.1
      have rl := hlot j hjz
      have hmg : fX2_mayGo n T (M 1 j) le = some (if mA z 9 j ≤ 0 then 0 else if mA z 7 j < le then 0 else 1) := by
        simp only [fX2_mayGo, grd, bnd, hd, if_true, rl.2.2.2.2.2.2.1, rl.2.2.2.2.1]
        split
        · rfl
        · split <;> rfl
      by_cases hmay : may z le j
      · obtain ⟨tf', rfl⟩ : ∃ q, tf = q + 1 := ⟨tf - 1, by simp at htf; omega⟩
        have hnx : lF z (nI kd) g = nI j := by
          unfold lF nextF
          rw [if_neg hg, hK.1 2, es, ← hle]
          refine next_at (js1 := js1) (js2 := js2) (fun i => ?_) ?_ ?_ hno hmay
          · rw [← ej, hm, Kg_nN hK 4, hK.2.1 5 (by decide) (by decide)]
          · rw [← ej, show sooner z = sooner x by unfold sooner; rw [hK.2.1 7 (by decide) (by decide)]]; exact hp
          · rw [Kg_nN hK 4]; omega
        rw [giveN_step hnx (by omega)]
        obtain ⟨its, eits⟩ : ∃ q, q = itsF z j g := ⟨_, rfl⟩
        rw [← eits]
        obtain ⟨w5, ew5⟩ : ∃ q, q = mA z 9 j - its := ⟨_, rfl⟩
        obtain ⟨w7, ew7⟩ : ∃ q, q = mA z 11 j + its := ⟨_, rfl⟩
        obtain ⟨T2, eT2⟩ : ∃ q, q = uI (uI T 65 (M 1 j) w5) 67 (M 1 j) w7 := ⟨_, rfl⟩
        have k2 : keep T T2 [65, 67] [] [] [] := by rw [eT2]; exact keep_tr (keep_uI _ _ _ _) (keep_uI _ _ _ _)
        have lot2 : rLot M (giveS z j its) T2 := by
          intro i hi
          have hi : i < nN z 4 := hi
          have q := hlot i hi
          have q := hlot i hi
          rw [gv_9, gv_11]
          refine ⟨kD k2 q.1 (by decide), kI k2 q.1 (by decide) (by decide) q.2.1, kI k2 q.1 (by decide) (by decide) q.2.2.1, kI k2 q.1 (by decide) (by decide) q.2.2.2.1, kI k2 q.1 (by decide) (by decide) q.2.2.2.2.1, kI k2 q.1 (by decide) (by decide) q.2.2.2.2.2.1, ?_, kI k2 q.1 (by decide) (by decide) q.2.2.2.2.2.2.2.1, ?_, kI k2 q.1 (by decide) (by decide) q.2.2.2.2.2.2.2.2.2⟩
          · rw [eT2, cI_uI, set1_n _ _ (by decide), cI_uI, set1_s]
            by_cases e : i = j
            · rw [e, set1_s, pk_us, ew5]
            · rw [set1_n _ _ (fun w => e (inj i j (by omega) hjm.1 w)), pk_un e]
              exact q.2.2.2.2.2.2.1
          · rw [eT2, cI_uI, set1_s]
            by_cases e : i = j
            · rw [e, set1_s, pk_us, ew7]
            · rw [set1_n _ _ (fun w => e (inj i j (by omega) hjm.1 w)), pk_un e, cI_uI, set1_n _ _ (by decide)]
              exact q.2.2.2.2.2.2.2.2.1
        have ht2 : chn T2 3 69 (M 1) (cR T2 69 (M 1 j)) js2 := by
          rw [kR k2 hd (by decide) (by decide) rfl]
          exact keep_chn k2 (by decide) (by decide) js2 _ ht
        obtain ⟨T', z1, z2, z3, z4, z5⟩ := out_lp n h4 inj hle hm hp js2 (js1 ++ [j]) fuel (giveS z j its) (g - its) (cR T2 69 (M 1 j)) T2 tf' (by rw [ej]; simp) (Kg_gv hK j its) lot2 ht2 (by
            by_cases c : g ≤ mA z 9 j
            · have : its = g := by rw [eits]; exact if_pos c
              rw [this]; exact Or.inl (i32_sub_self g)
            · have e : its = mA z 9 j := by rw [eits]; exact if_neg c
              refine Or.inr (fun i hi => ?_)
              unfold may
              rw [gv_9]
              by_cases ei : i = j
              · rw [ei, pk_us, e, Int32.sub_self]
                exact fun q => q.1 (Int32.le_refl 0)
              · rw [pk_un ei]
                rcases List.mem_append.mp hi with q | q
                · exact hno i q
                · exact absurd (List.mem_singleton.mp q) ei) (by simp at hfu; omega) (by simp at htf; omega)
        refine ⟨T', ?_, z2, kpre (keep_tr k2 z3) (by simp) (by simp) (by simp) (by simp), by rw [z4, eT2]; rfl, fun q => by rw [z5, eT2]; rfl⟩
        have hls : fX2_lose n T (M 1 j) g = some (its, uI T 65 (M 1 j) w5) := by
          simp only [fX2_lose, grd, bnd, hd, if_true, rl.2.2.2.2.2.2.1, min_le]
          rw [ew5, eits]
          rfl
        have w1 : cD (uI T 65 (M 1 j) w5) (M 1 j) = 3 := hd
        have w2 : cI (uI T 65 (M 1 j) w5) 67 (M 1 j) = mA z 11 j := by rw [cI_uI, set1_n _ _ (by decide)]; exact rl.2.2.2.2.2.2.2.2.1
        have w0 : (if mA z 9 j ≤ 0 then (0 : Int32) else if mA z 7 j < le then 0 else 1) = 1 := by rw [if_neg hmay.1, if_neg hmay.2]
        simp only [fX7_partOut_lp10, oel, if_neg hg, grd, cal, bnd, un2, hd, if_true, hmg, w0, if_neg n10, hls, w1, w2, ← ew7, ← eT2, z1]
      · obtain ⟨T', z1, z2, z3, z4, z5⟩ := out_lp n h4 inj hle hm hp js2 (js1 ++ [j]) fuel z g (cR T 69 (M 1 j)) T tf (by rw [ej]; simp) hK hlot ht (Or.inr (fun i hi => by
            rcases List.mem_append.mp hi with q | q
            · exact hno i q
            · rw [List.mem_singleton.mp q]; exact hmay)) (by simp at hfu; omega) (by simp at htf; omega)
        refine ⟨T', ?_, z2, z3, z4, z5⟩
        have w0 : (if mA z 9 j ≤ 0 then (0 : Int32) else if mA z 7 j < le then 0 else 1) = 0 := by
          by_cases c : mA z 9 j ≤ 0
          · rw [if_pos c]
          · rw [if_neg c]
            by_cases c2 : mA z 7 j < le
            · rw [if_pos c2]
            · exact absurd ⟨c, c2⟩ hmay
        simp only [fX7_partOut_lp10, oel, if_neg hg, grd, cal, bnd, hd, if_true, hmg, w0, z1]
end M32
