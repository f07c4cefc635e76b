/-! PURE: lots parted -/
def giveS (z : MS) (j : Nat) (its : Int32) : MS := sA (sA z 9 (upd (mA z 9) j (mA z 9 j - its))) 11 (upd (mA z 11) j (mA z 11 j + its))
def giveN (kd : Int32) : Nat → MS → Int32 → MS
  | 0, z, _ => z
  | n + 1, z, g => if lF z kd g < 0 then z else giveN kd n (giveS z (lF z kd g).toNatClampNeg (itsF z (lF z kd g).toNatClampNeg g)) (g - itsF z (lF z kd g).toNatClampNeg g)
theorem gv_9 (z : MS) (j : Nat) (its : Int32) : mA (giveS z j its) 9 = upd (mA z 9) j (mA z 9 j - its) := rfl
theorem gv_11 (z : MS) (j : Nat) (its : Int32) : mA (giveS z j its) 11 = upd (mA z 11) j (mA z 11 j + its) := rfl
theorem gv_A (z : MS) (j : Nat) (its : Int32) (f : Nat) (h9 : f ≠ 9) (h11 : f ≠ 11) : mA (giveS z j its) f = mA z f := by
  unfold giveS
  simp only [mA_sA]
  rw [if_neg h11, if_neg h9]
theorem gv_I (z : MS) (j : Nat) (its : Int32) (f : Nat) : mI (giveS z j its) f = mI z f := rfl
theorem giveN_step {z : MS} {kd g : Int32} {j n : Nat} (hl : lF z kd g = nI j) (hj : j < 2 ^ 31) : giveN kd (n + 1) z g = giveN kd n (giveS z j (itsF z j g)) (g - itsF z j g) := by
  rw [giveN, hl, if_neg (nI_pos hj), nI_clamp hj]
theorem giveN_exit {z : MS} {kd g : Int32} {n : Nat} (hl : lF z kd g < 0) : giveN kd (n + 1) z g = z := by rw [giveN, if_pos hl]
theorem giveN_0 {z : MS} {kd g : Int32} (h : g ≤ 0) (n : Nat) : giveN kd n z g = z := by
  cases n with
  | zero => rfl
  | succ n => exact giveN_exit (lF_0 h)
/-- lots not below nothing -/
def nng (z : MS) : Prop := ∀ i, 0 ≤ (mA z 9 i).toInt
theorem its_in {z : MS} {j : Nat} {g : Int32} (hg : ¬ g ≤ 0) (hl : ¬ mA z 9 j ≤ 0) : 0 < (itsF z j g).toInt ∧ (itsF z j g).toInt ≤ (mA z 9 j).toInt ∧ (itsF z j g).toInt ≤ g.toInt ∧ ((itsF z j g).toInt = (mA z 9 j).toInt ∨ (itsF z j g).toInt = g.toInt) := by
  have m0 : (0 : Int32).toInt = 0 := by decide
  rw [Int32.le_iff_toInt_le, m0] at hg hl
  unfold itsF
  split
  · rename_i c; rw [Int32.le_iff_toInt_le] at c; omega
  · rename_i c; rw [Int32.le_iff_toInt_le] at c; omega
theorem gv_left {z : MS} {j : Nat} {its : Int32} (h0 : 0 ≤ its.toInt) (h1 : its.toInt ≤ (mA z 9 j).toInt) : (mA (giveS z j its) 9 j).toInt = (mA z 9 j).toInt - its.toInt := by
  have := Int32.toInt_lt (mA z 9 j)
  rw [gv_9, pk_us, i32_sb (by omega) (by omega)]
theorem gv_nng {z : MS} {j : Nat} {its : Int32} (hz : nng z) (h0 : 0 ≤ its.toInt) (h1 : its.toInt ≤ (mA z 9 j).toInt) : nng (giveS z j its) := by
  intro i
  by_cases e : i = j
  · rw [e, gv_left h0 h1]; omega
  · rw [gv_9, pk_un e]; exact hz i
theorem gv_cnt {z : MS} {j : Nat} {its : Int32} (hj : j < nN z 4) (hl : ¬ mA z 9 j ≤ 0) (e : its = mA z 9 j) : cntL (giveS z j its) + 1 = cntL z := by
  have hc := cntP_upd (mA z 9) j (mA z 9 j - its) hl (nN z 4) hj
  have h1 : cntL (giveS z j its) = cntP (upd (mA z 9) j (mA z 9 j - its)) (nN z 4) := rfl
  have h2 : cntL z = cntP (mA z 9) (nN z 4) := rfl
  rw [e, Int32.sub_self, if_pos (Int32.le_refl 0)] at hc
  rw [h1, h2, e, Int32.sub_self]
  exact hc.1
theorem gv_cnt_le {z : MS} {j : Nat} {its : Int32} (hj : j < nN z 4) (hl : ¬ mA z 9 j ≤ 0) : cntL (giveS z j its) ≤ cntL z := by
  have hc := cntP_upd (mA z 9) j (mA z 9 j - its) hl (nN z 4) hj
  have h1 : cntL (giveS z j its) = cntP (upd (mA z 9) j (mA z 9 j - its)) (nN z 4) := rfl
  have h2 : cntL z = cntP (mA z 9) (nN z 4) := rfl
  rw [h1, h2]
  have := hc.1
  omega
/-- fuel does not matter once there is enough -/
theorem giveN_fuel (kd : Int32) : ∀ (n m : Nat) (z : MS) (g : Int32), nN z 4 < 2 ^ 31 → cntL z < n → cntL z < m → giveN kd n z g = giveN kd m z g
  | 0, _, _, _, _, h, _ => absurd h (Nat.not_lt_zero _)
  | _, 0, _, _, _, _, h => absurd h (Nat.not_lt_zero _)
  | n + 1, m + 1, z, g, h4, hn, hm => by
    by_cases hl : lF z kd g < 0
    · rw [giveN_exit hl, giveN_exit hl]
    · obtain ⟨j, hj, hlj, hg, hnx, hp, -, -⟩ := lF_spec hl
      rw [giveN_step hlj (by omega), giveN_step hlj (by omega)]
      by_cases c : g ≤ mA z 9 j
      · have e : itsF z j g = g := if_pos c
        rw [e, giveN_0 (i32_sub_self g), giveN_0 (i32_sub_self g)]
      · have e : itsF z j g = mA z 9 j := if_neg c
        have hc := gv_cnt hj hp e
        exact giveN_fuel kd n m _ _ h4 (by omega) (by omega)
theorem next_same {z y : MS} (h2 : mI y 2 = mI z 2) (h4 : mI y 4 = mI z 4) (h25 : mI y 25 = mI z 25) (h5 : mA y 5 = mA z 5) (h7 : mA y 7 = mA z 7) (h26 : mA y 26 = mA z 26) (h27 : mA y 27 = mA z 27) (h28 : mA y 28 = mA z 28) (h9 : ∀ i, mA y 9 i ≤ 0 ↔ mA z 9 i ≤ 0) (kd : Int32) : nextF y kd = nextF z kd := by
  have es : spareN y kd (nN y 25) = spareN z kd (nN z 25) := by
    unfold spareN nN
    rw [h25, h26, h27, h28]
  unfold nextF
  rw [h2, es, show nN y 4 = nN z 4 by unfold nN; rw [h4]]
  unfold nextN
  refine it_cong _ (fun i _ s => ?_)
  simp only [h5, h7, h9]
theorem gv_gv {z : MS} {j : Nat} {a b : Int32} : giveS (giveS z j a) j b = giveS z j (a + b) := by
  have e9 : upd (upd (mA z 9) j (mA z 9 j - a)) j (upd (mA z 9) j (mA z 9 j - a) j - b) = upd (mA z 9) j (mA z 9 j - (a + b)) := by
    funext i
    by_cases e : i = j
    · rw [e, pk_us, pk_us, pk_us, Int32.sub_sub]
    · rw [pk_un e, pk_un e, pk_un e]
  have e11 : upd (upd (mA z 11) j (mA z 11 j + a)) j (upd (mA z 11) j (mA z 11 j + a) j + b) = upd (mA z 11) j (mA z 11 j + (a + b)) := by
    funext i
    by_cases e : i = j
    · rw [e, pk_us, pk_us, pk_us, Int32.add_assoc]
    · rw [pk_un e, pk_un e, pk_un e]
  have l : giveS (giveS z j a) j b = sA (sA (giveS z j a) 9 (upd (upd (mA z 9) j (mA z 9 j - a)) j (upd (mA z 9) j (mA z 9 j - a) j - b))) 11 (upd (upd (mA z 11) j (mA z 11 j + a)) j (upd (mA z 11) j (mA z 11 j + a) j + b)) := rfl
  rw [l, e9, e11]
  unfold giveS sA
  refine Prod.ext rfl (Prod.ext rfl (Prod.ext ?_ rfl))
  funext i
  by_cases c11 : i = 11
  · simp only [c11, if_true]
  · by_cases c9 : i = 9
    · simp only [c9, if_true]
    · simp only [c11, c9, if_false]
theorem give_split (kd : Int32) : ∀ (n1 n n2 : Nat) (z : MS) (g1 g2 : Int32), nN z 4 < 2 ^ 31 → nng z → 0 ≤ g1.toInt → 0 ≤ g2.toInt → g1.toInt + g2.toInt < 2000000000 → cntL z < n1 → cntL z < n → cntL z < n2 → giveN kd n z (g1 + g2) = giveN kd n2 (giveN kd n1 z g1) g2
  | 0, _, _, _, _, _, _, _, _, _, _, h, _, _ => absurd h (Nat.not_lt_zero _)
  | n1 + 1, n, n2, z, g1, g2, h4, hz, p1, p2, ps, c1, c, c2 => by
    have m0 : (0 : Int32).toInt = 0 := by decide
    have es : (g1 + g2).toInt = g1.toInt + g2.toInt := i32_add (by omega) (by omega)
    obtain ⟨n', rfl⟩ : ∃ q, n = q + 1 := ⟨n - 1, by omega⟩
    by_cases hg1 : g1 ≤ 0
    · have e0 : g1 = 0 := Int32.le_antisymm hg1 (by rw [Int32.le_iff_toInt_le, m0]; exact p1)
      rw [giveN_0 hg1, e0, Int32.zero_add]
      exact giveN_fuel kd _ _ z g2 h4 c c2
    · have hgs : ¬ g1 + g2 ≤ 0 := by
        rw [Int32.le_iff_toInt_le, m0] at hg1 ⊢
        omega
      by_cases hl : lF z kd g1 < 0
      · have hnx : nextF z kd < 0 := by
          unfold lF at hl
          rw [if_neg hg1] at hl
          exact hl
        rw [giveN_exit hl]
        have l1 : lF z kd (g1 + g2) < 0 := by unfold lF; rw [if_neg hgs]; exact hnx
        have l2 : lF z kd g2 < 0 := by
          unfold lF
          split
          · decide
          · exact hnx
        obtain ⟨m2, rfl⟩ : ∃ q, n2 = q + 1 := ⟨n2 - 1, by omega⟩
        rw [giveN_exit l1, giveN_exit l2]
      · obtain ⟨j, hj, hlj, -, hnx, hp, -, -⟩ := lF_spec hl
        have hls : lF z kd (g1 + g2) = nI j := by unfold lF; rw [if_neg hgs]; exact hnx
        rw [giveN_step hlj (by omega), giveN_step hls (by omega)]
        have hpl : 0 < (mA z 9 j).toInt := by
          rw [Int32.le_iff_toInt_le, m0] at hp
          omega
        have hlm := Int32.toInt_lt (mA z 9 j)
        by_cases cg : g1 ≤ mA z 9 j
        · have e1 : itsF z j g1 = g1 := if_pos cg
          rw [e1, giveN_0 (i32_sub_self g1)]
          rw [Int32.le_iff_toInt_le] at cg
          obtain ⟨m2, rfl⟩ : ∃ q, n2 = q + 1 := ⟨n2 - 1, by omega⟩
          by_cases hg2 : g2 ≤ 0
          · have e0 : g2 = 0 := Int32.le_antisymm hg2 (by rw [Int32.le_iff_toInt_le, m0]; exact p2)
            rw [e0, Int32.add_zero, e1, giveN_0 (i32_sub_self g1), giveN_0 (Int32.le_refl 0)]
          · have hg2' : 0 < g2.toInt := by
              rw [Int32.le_iff_toInt_le, m0] at hg2
              omega
            by_cases ce : g1 = mA z 9 j
            · have e2 : itsF z j (g1 + g2) = g1 := by
                unfold itsF
                rw [if_neg (by rw [Int32.le_iff_toInt_le, es, ← ce]; omega), ce]
              rw [e2]
              have hr : g1 + g2 - g1 = g2 := by rw [Int32.add_comm, Int32.add_sub_cancel]
              rw [hr]
              have hc := gv_cnt hj hp ce
              exact giveN_fuel kd _ _ _ _ h4 (by omega) (by omega)
            · have clt : g1.toInt < (mA z 9 j).toInt := by
                rcases Int.lt_or_eq_of_le cg with q | q
                · exact q
                · exact absurd (Int32.toInt.inj q) ce
              have l1 := gv_left (z := z) (j := j) p1 cg
              have hnx2 : nextF (giveS z j g1) kd = nI j := by
                rw [← hnx]
                refine next_same (z := z) (y := giveS z j g1) rfl rfl rfl rfl rfl rfl rfl rfl (fun i => ?_) kd
                by_cases e : i = j
                · rw [e, Int32.le_iff_toInt_le, Int32.le_iff_toInt_le, l1, m0]; omega
                · rw [gv_9, pk_un e]
              have hl2 : lF (giveS z j g1) kd g2 = nI j := by unfold lF; rw [if_neg hg2]; exact hnx2
              rw [giveN_step hl2 (by omega)]
              have hc2 := gv_cnt_le (its := g1) hj hp
              by_cases c3 : g2.toInt ≤ (mA z 9 j).toInt - g1.toInt
              · have i2 : itsF (giveS z j g1) j g2 = g2 := if_pos (by rw [Int32.le_iff_toInt_le, l1]; exact c3)
                have i1 : itsF z j (g1 + g2) = g1 + g2 := if_pos (by rw [Int32.le_iff_toInt_le, es]; omega)
                rw [i1, i2, giveN_0 (i32_sub_self _), giveN_0 (i32_sub_self _), gv_gv]
              · have i2 : itsF (giveS z j g1) j g2 = mA (giveS z j g1) 9 j := if_neg (by rw [Int32.le_iff_toInt_le, l1]; omega)
                have i1 : itsF z j (g1 + g2) = mA z 9 j := if_neg (by rw [Int32.le_iff_toInt_le, es]; omega)
                rw [i1, i2, gv_gv]
                have ea : g1 + mA (giveS z j g1) 9 j = mA z 9 j := by
                  apply Int32.toInt.inj
                  rw [i32_add (by rw [l1]; omega) (by rw [l1]; omega), l1]
                  omega
                have er : g1 + g2 - mA z 9 j = g2 - mA (giveS z j g1) 9 j := by
                  apply Int32.toInt.inj
                  rw [i32_sb (by rw [es]; omega) (by rw [es]; omega), es, i32_sb (by rw [l1]; omega) (by rw [l1]; omega), l1]
                  omega
                rw [ea, er]
                have hc := gv_cnt hj hp rfl
                exact giveN_fuel kd _ _ _ _ h4 (by omega) (by omega)
        · have e1 : itsF z j g1 = mA z 9 j := if_neg cg
          rw [Int32.le_iff_toInt_le] at cg
          have e2 : itsF z j (g1 + g2) = mA z 9 j := if_neg (by rw [Int32.le_iff_toInt_le, es]; omega)
          rw [e1, e2]
          have hc := gv_cnt hj hp rfl
          have s1 : (g1 - mA z 9 j).toInt = g1.toInt - (mA z 9 j).toInt := i32_sb (by omega) (by have := Int32.toInt_lt g1; omega)
          have er : g1 + g2 - mA z 9 j = (g1 - mA z 9 j) + g2 := by
            apply Int32.toInt.inj
            rw [i32_sb (by rw [es]; omega) (by rw [es]; omega), es, i32_add (by rw [s1]; omega) (by rw [s1]; omega), s1]
            omega
          rw [er]
          exact give_split kd n1 n' n2 _ _ _ h4 (gv_nng hz (by omega) (Int.le_refl _)) (by rw [s1]; omega) p2 (by rw [s1]; omega) (by omega) (by omega) (by omega)
theorem aS_upd {z : MS} {j : Nat} {its : Int32} {kd le : Int32} (hc : mA z 5 j = kd ∧ ¬ mA z 7 j < le) (h0 : 0 ≤ its.toInt) (h1 : its.toInt ≤ (mA z 9 j).toInt) : ∀ k, aS (giveS z j its) kd le k = aS z kd le k - (if j < k then its.toInt else 0)
  | 0 => by rw [aS_0, aS_0, if_neg (Nat.not_lt_zero _)]; omega
  | k + 1 => by
    have ih := aS_upd hc h0 h1 k
    have g5 : mA (giveS z j its) 5 = mA z 5 := rfl
    have g7 : mA (giveS z j its) 7 = mA z 7 := rfl
    rw [aS_s, aS_s, ih, g5, g7]
    by_cases e : k = j
    · subst e
      rw [if_pos hc, if_pos hc, gv_left h0 h1, if_neg (Nat.lt_irrefl _), if_pos (Nat.lt_succ_self _)]
      omega
    · rw [gv_9, pk_un e]
      by_cases c : j < k
      · rw [if_pos c, if_pos (show j < k + 1 by omega)]; omega
      · rw [if_neg c, if_neg (show ¬ j < k + 1 by omega)]; omega
theorem aS_none {z : MS} {kd le : Int32} (hz : nng z) : ∀ k, (∀ j, j < k → ¬ can z kd le j) → aS z kd le k = 0
  | 0, _ => aS_0 _ _ _
  | k + 1, h => by
    have ih := aS_none hz k (fun j hj => h j (by omega))
    rw [aS_s, ih]
    have c := h k (by omega)
    have := hz k
    have m0 : (0 : Int32).toInt = 0 := by decide
    split
    · rename_i c2
      have : mA z 9 k ≤ 0 := by
        by_cases q : mA z 9 k ≤ 0
        · exact q
        · exact absurd ⟨c2.1, q, c2.2⟩ c
      rw [Int32.le_iff_toInt_le, m0] at this
      omega
    · omega
/-- the reference gives what it should -/
theorem give_ref (n : Nat × Nat) (hn : 30000 ≤ n.1) {kd le : Int32} : ∀ (fuel : Nat) (z : MS) (g : Int32), okN z 4 200 → okN z 25 30 → nng z → le = mI z 2 + spareN z kd (nN z 25) → g.toInt ≤ aS z kd le (nN z 4) → cntL z < fuel → fX12_give_lp3 n kd fuel g z = some (giveN kd fuel z g)
  | 0, _, _, _, _, _, _, _, h => absurd h (Nat.not_lt_zero _)
  | fuel + 1, z, g, o4, o25, hz, hle, ha, hf => by
    have h200 := o4.2
    by_cases hg : g ≤ 0
    · rw [giveN_0 hg]
      unfold fX12_give_lp3
      rw [if_pos hg]
    · have m0 : (0 : Int32).toInt = 0 := by decide
      have hg' : 0 < g.toInt := by rw [Int32.le_iff_toInt_le, m0] at hg; omega
      obtain ⟨j, hj, e, cj⟩ : ∃ j, j < nN z 4 ∧ nextF z kd = nI j ∧ can z kd le j := by
        rcases nextN_min z kd le (nN z 4) (by omega) with ⟨-, no⟩ | ⟨i, hi, e, ci, -⟩
        · have := aS_none (le := le) hz (nN z 4) no; omega
        · exact ⟨i, hi, by unfold nextF; rw [← hle]; exact e, ci⟩
      have hlj : lF z kd g = nI j := by unfold lF; rw [if_neg hg]; exact e
      rw [giveN_step hlj (by omega)]
      have ej : (nI j).toNatClampNeg = j := nI_clamp (by omega)
      have hv : ¬ (nI j < 0 ∨ 200 ≤ j) := by
        have := vp_in_nI (n := j) (N := 200) (by omega) (by decide)
        unfold vp_in at this
        rw [ej] at this
        exact this
      have ii := its_in (z := z) (j := j) hg cj.2.1
      have s1 : (g - itsF z j g).toInt = g.toInt - (itsF z j g).toInt := i32_sb (by omega) (by have := Int32.toInt_lt g; omega)
      have au := aS_upd (z := z) (j := j) (its := itsF z j g) (kd := kd) (le := le) ⟨cj.1, cj.2.2⟩ (by omega) (by omega) (nN z 4)
      rw [if_pos hj] at au
      have rec1 : fX12_give_lp3 n kd fuel (g - itsF z j g) (giveS z j (itsF z j g)) = some (giveN kd fuel (giveS z j (itsF z j g)) (g - itsF z j g)) := by
        by_cases c : g ≤ mA z 9 j
        · have e1 : itsF z j g = g := if_pos c
          rw [e1, giveN_0 (i32_sub_self g)]
          cases fuel with
          | zero =>
            exfalso
            have hc := cntP_upd (mA z 9) j 0 cj.2.1 (nN z 4) hj
            have h2 : cntL z = cntP (mA z 9) (nN z 4) := rfl
            omega
          | succ f =>
            unfold fX12_give_lp3
            rw [if_pos (i32_sub_self g)]
        · have e1 : itsF z j g = mA z 9 j := if_neg c
          have hc := gv_cnt hj cj.2.1 e1
          exact give_ref n hn fuel _ _ o4 o25 (gv_nng hz (by omega) (by omega)) hle (by rw [s1]; show _ ≤ aS (giveS z j (itsF z j g)) kd le (nN z 4); omega) (by omega)
      have gs : giveS z j (itsF z j g) = sA (sA z 9 (upd (mA z 9) j (mA z 9 j - itsF z j g))) 11 (upd (mA (sA z 9 (upd (mA z 9) j (mA z 9 j - itsF z j g))) 11) j (mA (sA z 9 (upd (mA z 9) j (mA z 9 j - itsF z j g))) 11 j + itsF z j g)) := rfl
      unfold fX12_give_lp3
      rw [if_neg hg]
      simp only [cal, bnd, grd, ev12_next n hn o4 o25, e, ej, if_pos hv]
      by_cases c : g ≤ mA z 9 j
      · have e1 : itsF z j g = g := if_pos c
        rw [if_pos c]
        rw [gs, e1] at rec1
        rw [gs, e1]
        exact rec1
      · have e1 : itsF z j g = mA z 9 j := if_neg c
        rw [if_neg c]
        rw [gs, e1] at rec1
        rw [gs, e1]
        exact rec1
