/-! PURE: levels found by bits and by halves; lots given by halves -/
theorem i64_sub {a b : Int64} (h1 : -9223372036854775808 ≤ a.toInt - b.toInt) (h2 : a.toInt - b.toInt < 9223372036854775808) : (a - b).toInt = a.toInt - b.toInt := by
  rw [Int64.toInt_sub]
  exact Int.bmod_eq_of_le (by omega) (by omega)
theorem i64_half {a : Int64} (h : 0 ≤ a.toInt) : (a / 2).toInt = a.toInt / 2 := by
  have e2 : (2 : Int64).toInt = 2 := by decide
  have hb := Int64.toInt_lt a
  rw [Int64.toInt_div, e2, Int.tdiv_eq_ediv_of_nonneg h]
  exact Int.bmod_eq_of_le (by omega) (by omega)
theorem bis_lp (n : Nat × Nat) (hn : 30000 ≤ n.1) {x : MS} (o13 : okN x 13 12) (hLim : rLim x) {kd : Nat} (hkd : kd < 10) {A : Int64} : ∀ (f fuel : Nat) (lo hi : Int64), f < fuel → 0 ≤ lo.toInt → lo.toInt ≤ hi.toInt → hi.toInt ≤ 1000000 → hi.toInt - lo.toInt < 2 ^ f → uS x kd lo.toInt (nN x 13) ≤ A.toInt → (hi.toInt = 1000000 ∨ A.toInt < uS x kd (hi.toInt + 1) (nN x 13)) → ∃ L, fX12_part_lp126 n x (nI kd) A fuel lo hi = some L ∧ 0 ≤ L.toInt ∧ L.toInt ≤ 1000000 ∧ uS x kd L.toInt (nN x 13) ≤ A.toInt ∧ (L.toInt = 1000000 ∨ A.toInt < uS x kd (L.toInt + 1) (nN x 13))
  | f, 0, lo, hi, hf, _, _, _, _, _, _ => absurd hf (Nat.not_lt_zero _)
  | f, fuel + 1, lo, hi, hf, h0, h1, h2, h3, h4, h5 => by
    unfold fX12_part_lp126
    simp only [lg_cmp_ge]
    by_cases c : hi ≤ lo
    · rw [if_pos c]
      rw [Int64.le_iff_toInt_le] at c
      have e : hi.toInt = lo.toInt := by omega
      rw [e] at h5
      exact ⟨lo, rfl, h0, by omega, h4, h5⟩
    · rw [if_neg c]
      rw [Int64.le_iff_toInt_le] at c
      obtain ⟨f', rfl⟩ : ∃ q, f = q + 1 := by
        cases f with
        | zero => simp at h3; omega
        | succ f => exact ⟨f, rfl⟩
      rw [Int.pow_succ] at h3
      have o1 : (1 : Int64).toInt = 1 := by decide
      have e1 : (lo + hi).toInt = lo.toInt + hi.toInt := i64_add (by omega) (by omega)
      have e2 : (lo + hi + 1).toInt = lo.toInt + hi.toInt + 1 := by rw [i64_add (by omega) (by omega), e1, o1]
      have e3 : ((lo + hi + 1) / 2).toInt = (lo.toInt + hi.toInt + 1) / 2 := by rw [i64_half (by omega), e2]
      obtain ⟨mid, em⟩ : ∃ q, q = (lo + hi + 1) / 2 := ⟨_, rfl⟩
      rw [← em] at e3 ⊢
      have eu := up_is (kd := kd) hLim (lv := mid) (by omega) (by omega) (nN x 13) o13.2
      simp only [bnd, cal, ev12_upTo n hn o13 hkd, lg_cmp_gt]
      by_cases c2 : A < upN x kd mid (nN x 13)
      · rw [if_pos c2]
        rw [Int64.lt_iff_toInt_lt, eu] at c2
        have e4 : (mid - 1).toInt = mid.toInt - 1 := by rw [i64_sub (by omega) (by omega), o1]
        exact bis_lp n hn o13 hLim hkd f' fuel lo (mid - 1) (by omega) h0 (by omega) (by omega) (by omega) h4 (Or.inr (by rw [e4, show mid.toInt - 1 + 1 = mid.toInt by omega]; exact c2))
      · rw [if_neg c2]
        rw [Int64.lt_iff_toInt_lt, eu] at c2
        exact bis_lp n hn o13 hLim hkd f' fuel mid hi (by omega) (by omega) (by omega) h2 (by omega) (by omega) h5
section M30
variable {ae k : Nat} {M : Nat → Nat → Nat} {x : MS} {S : CS}
theorem ev_wanted (n : Nat × Nat) (hn : 30000 ≤ n.1) (h : Rep ae k M x S) {kd : Nat} (hkd : kd < 10) {L : Int32} (h0 : 0 ≤ L.toInt) : ∃ r, fX11_wantedUpTo n S (M 0 0) (nI kd) L = some r ∧ r.toInt = uS x kd L.toInt (nN x 13) := by
  have hF := g_rFix h
  have hL := (g_rTabL h).1
  have o13 := (g_rOk h).2.2.1
  have h12 := o13.2
  have hLim := g_rLim h
  have ek : (nI kd).toNatClampNeg = kd := nI_clamp (by omega)
  have c2 : ¬ (nI kd < 0 ∨ 10 ≤ kd) := by
    have := vp_in_nI (n := kd) (N := 10) hkd (by decide)
    unfold vp_in at this
    rw [ek] at this
    exact this
  have kl : cD S (M 0 5) = 21 := hL.1
  have lp : ∀ (d i fuel : Nat) (a : Int32), i + d = nN x 13 → d < fuel → a.toInt = uS x kd L.toInt i → ∃ r, fX11_wantedUpTo_lp5 n S (M 0 0) (nI kd) L fuel a (nI i) = some r ∧ r.toInt = uS x kd L.toInt (nN x 13) := by
    intro d i fuel
    induction fuel generalizing d i with
    | zero => intro _ _ hf; exact absurd hf (Nat.not_lt_zero _)
    | succ fuel ih =>
      intro a hi hf ha
      unfold fX11_wantedUpTo_lp5
      simp only [grd, onn, cal, bnd, hF.1, hF.2.2.2.2.2.2.1, kl, ev_size n hL, if_true]
      by_cases hd : d = 0
      · rw [if_pos (nI_le (by omega) (by omega))]
        exact ⟨a, rfl, by rw [ha, show i = nN x 13 by omega]⟩
      · have hlt : i < nN x 13 := by omega
        have ht := g_rTab h i hlt
        have hw := ((g_rWan h).1 i hlt).2 kd hkd
        have w := wnt_b (kd := kd) hLim i
        have b := uS_bd (kd := kd) hLim h0 i
        rw [if_neg (nI_ge hlt (by omega))]
        simp only [ev_get n hL hlt, ht.1, ht.2.1, ht.2.2.2.1, ht.2.2.2.2.1, ek, if_pos c2, hw, if_true, nI_inc1]
        have em : (if L < mA x 14 (10 * i + kd) then L else mA x 14 (10 * i + kd)).toInt = min (wnt x kd i) L.toInt := by
          unfold wnt at w ⊢
          split
          · rename_i c; rw [Int32.lt_iff_toInt_lt] at c; omega
          · rename_i c; rw [Int32.lt_iff_toInt_lt] at c; omega
        exact ih (d - 1) (i + 1) _ (by omega) (by omega) (by rw [i32_add (by rw [em]; omega) (by rw [em]; omega), em, ha, uS_s])
  obtain ⟨r, e, er⟩ := lp (nN x 13) 0 n.1 0 (by omega) (by omega) (by rw [uS_0]; decide)
  rw [nI_0] at e
  exact ⟨r, by simp only [fX11_wantedUpTo, bnd, cal, e], er⟩
theorem shr1 : ∀ i, i < 20 → nI (2 ^ (i + 1)) >>> ((1 : Int32) &&& 31) = nI (2 ^ i) := by decide
theorem level_lp (n : Nat × Nat) (hn : 30000 ≤ n.1) (h : Rep ae k M x S) {kd : Nat} (hkd : kd < 10) {A : Int32} : ∀ (i fuel lev : Nat), i + 1 < fuel → i < 20 → lev + 2 ^ (i + 1) ≤ 2 ^ 20 → uS x kd lev (nN x 13) ≤ A.toInt → (lev + 2 ^ (i + 1) = 2 ^ 20 ∨ A.toInt < uS x kd ((lev + 2 ^ (i + 1) : Nat) : Int) (nN x 13)) → ∃ L : Nat, fX11_levelFor_lp7 n S (M 0 0) (nI kd) A fuel (nI lev) (nI (2 ^ i)) = some (nI L) ∧ L < 2 ^ 20 ∧ uS x kd L (nN x 13) ≤ A.toInt ∧ (L + 1 = 2 ^ 20 ∨ A.toInt < uS x kd ((L + 1 : Nat) : Int) (nN x 13))
  | i, 0, lev, hf, _, _, _, _ => absurd hf (Nat.not_lt_zero _)
  | i, fuel + 1, lev, hf, hi, h1, h2, h3 => by
    have hF := g_rFix h
    have p1 : 0 < 2 ^ i := Nat.pow_pos (by decide)
    have p2 : 2 ^ (i + 1) = 2 ^ i * 2 := Nat.pow_succ _ _
    have hle : lev + 2 ^ i ≤ 2 ^ 20 := by omega
    have q20 : (2 : Nat) ^ 20 = 1048576 := by decide
    have et : (nI (lev + 2 ^ i)).toInt = ((lev + 2 ^ i : Nat) : Int) := nI_toInt (by omega)
    obtain ⟨r, er, err⟩ := ev_wanted n hn h hkd (L := nI (lev + 2 ^ i)) (by rw [et]; omega)
    rw [et] at err
    have ne0 : ¬ nI (2 ^ i) ≤ 0 := nI_ge (a := 0) (b := 2 ^ i) p1 (by omega)
    unfold fX11_levelFor_lp7
    rw [if_neg ne0]
    simp only [grd, cal, bnd, hF.1, if_true, nI_add, er]
    have stop : ∀ l2, (∀ q, l2 = q → True) → fX11_levelFor_lp7 n S (M 0 0) (nI kd) A fuel l2 (nI 1 >>> ((1 : Int32) &&& 31)) = some l2 := fun l2 _ => by
      obtain ⟨f', rfl⟩ : ∃ q, fuel = q + 1 := ⟨fuel - 1, by omega⟩
      rw [show nI 1 >>> ((1 : Int32) &&& 31) = 0 by decide]
      unfold fX11_levelFor_lp7
      rw [if_pos (by decide)]
    by_cases c : A < r
    · rw [if_pos c]
      rw [Int32.lt_iff_toInt_lt, err] at c
      cases i with
      | zero =>
        refine ⟨lev, stop _ (fun _ _ => trivial), by omega, h2, Or.inr ?_⟩
        exact c
      | succ i =>
        rw [shr1 i (by omega)]
        exact level_lp n hn h hkd i fuel lev (by omega) (by omega) (by omega) h2 (Or.inr c)
    · rw [if_neg c]
      rw [Int32.lt_iff_toInt_lt, err] at c
      cases i with
      | zero =>
        refine ⟨lev + 2 ^ 0, stop _ (fun _ _ => trivial), by omega, by omega, ?_⟩
        rcases h3 with q | q
        · exact Or.inl (by omega)
        · exact Or.inr (by rw [show lev + 2 ^ 0 + 1 = lev + 2 ^ (0 + 1) by omega]; exact q)
      | succ i =>
        rw [shr1 i (by omega)]
        have e : lev + 2 ^ (i + 1) + 2 ^ (i + 1) = lev + 2 ^ (i + 1 + 1) := by omega
        exact level_lp n hn h hkd i fuel (lev + 2 ^ (i + 1)) (by omega) (by omega) (by omega) (by omega) (by rw [e]; exact h3)
theorem ev_level (n : Nat × Nat) (hn : 30000 ≤ n.1) (h : Rep ae k M x S) {kd : Nat} (hkd : kd < 10) {A : Int32} (hA : 0 ≤ A.toInt) : ∃ L : Nat, fX11_levelFor n S (M 0 0) (nI kd) A = some (nI L) ∧ L < 2 ^ 20 ∧ uS x kd L (nN x 13) ≤ A.toInt ∧ (1000000 ≤ (L : Int) ∨ A.toInt < uS x kd ((L : Int) + 1) (nN x 13)) := by
  have hLim := g_rLim h
  obtain ⟨L, e, b1, b2, b3⟩ := level_lp n hn h hkd (A := A) 19 n.1 0 (by omega) (by decide) (by decide) (by rw [show ((0 : Nat) : Int) = 0 from rfl, uS_z hLim]; exact hA) (Or.inl (by decide))
  refine ⟨L, ?_, b1, b2, ?_⟩
  · rw [nI_0] at e
    simp only [fX11_levelFor, bnd, cal]
    rw [show (524288 : Int32) = nI (2 ^ 19) by decide, e]
  · have q20 : (2 : Nat) ^ 20 = 1048576 := by decide
    rcases b3 with q | q
    · exact Or.inl (by omega)
    · exact Or.inr q
theorem ev_may_lp (n : Nat × Nat) {le : Int32} (hLt : rLot M x S) (hLim : rLim x) : ∀ (js : List Nat) (o : Option Nat) (fuel : Nat) (a : Int32), (∀ j ∈ js, j < nN x 4) → chn S 3 69 (M 1) o js → js.length < fuel → 0 ≤ a.toInt → a.toInt + js.length * 1000000 < 2000000000 → ∃ r, fX7_gramsThatMayGo_lp9 n S le fuel a o = some r ∧ r.toInt64 = js.foldl (fun s j => s + if ¬ mA x 7 j < le then (mA x 9 j).toInt64 else 0) a.toInt64
  | js, o, 0, a, _, _, hf, _, _ => absurd hf (Nat.not_lt_zero _)
  | [], o, fuel + 1, a, _, h, _, _, _ => by
    have h : o = none := h
    subst h
    exact ⟨a, rfl, rfl⟩
  | j :: js, o, fuel + 1, a, hj, h, hf, h0, hb => by
    obtain ⟨rfl, hd, ht⟩ := h
    have hj4 := hj j List.mem_cons_self
    have rl := hLt j hj4
    have b9 := lot_b hLim hj4
    have hmg : fX2_mayGo n S (M 1 j) le = some (if mA x 9 j ≤ 0 then 0 else if mA x 7 j < le then 0 else 1) := by
      simp only [fX2_mayGo, grd, bnd, hd, if_true, rl.2.2.2.2.2.2.1, rl.2.2.2.2.1]
      split
      · rfl
      · split <;> rfl
    simp only [List.length_cons] at hf hb
    rw [Int.natCast_add] at hb
    have z0 : (0 : Int32).toInt = 0 := by decide
    have rec1 := fun a' h0' hb' => ev_may_lp n (le := le) hLt hLim js (cR S 69 (M 1 j)) fuel a' (fun i hi => hj i (List.mem_cons_of_mem _ hi)) ht (by omega) h0' hb'
    simp only [fX7_gramsThatMayGo_lp9, oel, grd, cal, bnd, hd, if_true, hmg, rl.2.2.2.2.2.2.1, List.foldl_cons]
    by_cases c1 : mA x 9 j ≤ 0
    · rw [if_pos c1, if_pos rfl]
      have e0 : mA x 9 j = 0 := Int32.le_antisymm c1 (by rw [Int32.le_iff_toInt_le, z0]; omega)
      obtain ⟨r, e, er⟩ := rec1 a h0 (by omega)
      refine ⟨r, e, ?_⟩
      rw [er, e0]
      congr 1
      split
      · rw [show (0 : Int32).toInt64 = 0 by decide]; exact (Int64.add_zero _).symm
      · exact (Int64.add_zero _).symm
    · rw [if_neg c1]
      by_cases c2 : mA x 7 j < le
      · rw [if_pos c2, if_pos rfl]
        obtain ⟨r, e, er⟩ := rec1 a h0 (by omega)
        refine ⟨r, e, ?_⟩
        rw [er, if_neg (fun w => w c2), Int64.add_zero]
      · rw [if_neg c2, if_neg n10]
        have ea : (a + mA x 9 j).toInt = a.toInt + (mA x 9 j).toInt := i32_add (by omega) (by omega)
        obtain ⟨r, e, er⟩ := rec1 (a + mA x 9 j) (by omega) (by omega)
        refine ⟨r, e, ?_⟩
        rw [er, if_pos c2]
        congr 1
        apply Int64.toInt.inj
        rw [Int32.toInt_toInt64, ea, i64_add (by rw [Int32.toInt_toInt64, Int32.toInt_toInt64]; omega) (by rw [Int32.toInt_toInt64, Int32.toInt_toInt64]; omega), Int32.toInt_toInt64, Int32.toInt_toInt64]
theorem a64 {x : MS} (hLim : rLim x) (kd le : Int32) : ∀ k, k ≤ nN x 4 → k ≤ 200 → (itN (fun j s => s + if mA x 5 j = kd then (if ¬ mA x 7 j < le then (mA x 9 j).toInt64 else 0) else 0) (0 : Int64) k).toInt = aS x kd le k
  | 0, _, _ => by rw [itN_0, aS_0]; rfl
  | k + 1, hk, h2 => by
    have ih := a64 hLim kd le k (by omega) (by omega)
    have b := aS_b hLim kd le k (by omega)
    have b9 := lot_b hLim (i := k) (by omega)
    have z0 : (0 : Int64).toInt = 0 := by decide
    have e : itN (fun j s => s + if mA x 5 j = kd then (if ¬ mA x 7 j < le then (mA x 9 j).toInt64 else 0) else 0) (0 : Int64) (k + 1) = itN (fun j s => s + if mA x 5 j = kd then (if ¬ mA x 7 j < le then (mA x 9 j).toInt64 else 0) else 0) (0 : Int64) k + if mA x 5 k = kd then (if ¬ mA x 7 k < le then (mA x 9 k).toInt64 else 0) else 0 := rfl
    rw [e, aS_s]
    by_cases c1 : mA x 5 k = kd
    · rw [if_pos c1]
      by_cases c2 : mA x 7 k < le
      · rw [if_neg (fun w => w c2), if_neg (fun w => w.2 c2), i64_add (by rw [z0]; omega) (by rw [z0]; omega), ih, z0]
      · rw [if_pos c2, if_pos ⟨c1, c2⟩, i64_add (by rw [Int32.toInt_toInt64]; omega) (by rw [Int32.toInt_toInt64]; omega), ih, Int32.toInt_toInt64]
    · rw [if_neg c1, if_neg (fun w => c1 w.1), i64_add (by rw [z0]; omega) (by rw [z0]; omega), ih, z0]
theorem ev_mayGrams (n : Nat × Nat) (hn : 30000 ≤ n.1) (h : Rep ae k M x S) {kd : Nat} (hkd : kd < 10) (le : Int32) : ∃ r, fX7_gramsThatMayGo n S (M 0 2) (nI kd) le = some r ∧ r.toInt = aS x (nI kd) le (nN x 4) := by
  have hF := g_rFix h
  have h200 := (g_rOk h).2.1.2
  obtain ⟨js, j1, j2, j3⟩ := (g_rCha h).2.2 kd hkd
  have nd := sooner_nd j3
  have len : js.length ≤ nN x 4 := chain_len (p := fun j => mA x 5 j = nI kd) nd j2
  obtain ⟨r, e, er⟩ := ev_may_lp n (le := le) (g_rLot h) (g_rLim h) js _ n.1 0 (fun j hj => ((j2 j).mp hj).1) j1 (by omega) (by decide) (by rw [show (0 : Int32).toInt = 0 by decide]; omega)
  refine ⟨r, by simp only [fX7_gramsThatMayGo, bnd, grd, cal, hF.2.1, ev_soonest n h hkd, e, if_true], ?_⟩
  rw [show (0 : Int32).toInt64 = 0 by decide, chain_sum (fun j => if ¬ mA x 7 j < le then (mA x 9 j).toInt64 else 0) (fun j => mA x 5 j = nI kd) nd j2] at er
  have := congrArg Int64.toInt er
  rw [Int32.toInt_toInt64] at this
  rw [this]
  exact a64 (g_rLim h) (nI kd) le (nN x 4) (Nat.le_refl _) h200
end M30
