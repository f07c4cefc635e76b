/-! PURE: what of a parcel -/
theorem ev12_in (a b h : Int64) : fX12_in a b h = bI (inL a b h) := by
  unfold fX12_in
  simp only [lg_cmp_lt, lg_cmp_gt]
  by_cases h1 : a < b
  · rw [if_pos h1]; exact in_1 h1
  · rw [if_neg h1]
    by_cases h2 : h < a
    · rw [if_pos h2]; exact in_2 h2
    · rw [if_neg h2]; exact in_3 h1 h2
theorem i32_sb {a b : Int32} (h1 : -2147483648 ≤ a.toInt - b.toInt) (h2 : a.toInt - b.toInt < 2147483648) : (a - b).toInt = a.toInt - b.toInt := by
  rw [Int32.toInt_sub]
  exact Int.bmod_eq_of_le (by omega) (by omega)
theorem of_sum (n : Nat × Nat) (x : MS) (u m : Nat) (hu : u + m ≤ 24000) : ∀ (d i fuel : Nat), i + d = m → d < fuel → fX12_of_lp99 n x (nI u) (nI m) fuel (grmN x u i) (nI i) = some (grmN x u m)
  | d, i, 0, _, hf => absurd hf (Nat.not_lt_zero _)
  | d, i, fuel + 1, hi, hf => by
    unfold fX12_of_lp99
    cases d with
    | zero =>
      rw [if_pos (nI_le (by omega) (by omega)), show i = m by omega]
    | succ d =>
      have hlt : i < m := by omega
      have ec : (nI (u + i)).toNatClampNeg = u + i := nI_clamp (by omega)
      have c2 : ¬ (nI (u + i) < 0 ∨ 24000 ≤ u + i) := by
        have := vp_in_nI (n := u + i) (N := 24000) (by omega) (by decide)
        unfold vp_in at this
        rw [ec] at this
        exact this
      rw [if_neg (nI_ge hlt (by omega))]
      simp only [nI_add, grd, bnd, ec, if_pos c2]
      have ih := of_sum n x u m hu d (i + 1) fuel (by omega) (by omega)
      rw [← nI_1] at ih
      exact ih
section M17
variable {ae k : Nat} {M : Nat → Nat → Nat} {x : MS} {S : CS}
theorem isB_row {b m : Nat} (hb : b + m < 2 ^ 30) (c : Int32) : isB c (nI b) (nI b + nI m - 1) = true ↔ ∃ j, j < m ∧ c = nI (b + j) := by
  have e0 : (nI b).toInt = b := nI_toInt (by omega)
  have e1 : (nI b + nI m - 1).toInt = (b : Int) + m - 1 := by
    have h1 : (1 : Int32).toInt = 1 := by decide
    have h2 : (nI (b + m)).toInt = ((b + m : Nat) : Int) := nI_toInt (by omega)
    rw [nI_add, i32_sb (by omega) (by omega)]
    omega
  simp only [isB, Bool.and_eq_true, decide_eq_true_eq, Int32.le_iff_toInt_le, e0, e1]
  constructor
  · intro h
    refine ⟨c.toInt.toNat - b, by omega, ?_⟩
    apply Int32.toInt.inj
    rw [nI_toInt (by omega)]
    omega
  · rintro ⟨j, hj, rfl⟩
    rw [nI_toInt (by omega)]
    omega
set_option maxRecDepth 16384 in
theorem st_of (n : Nat × Nat) (hn : 30000 ≤ n.1) (h : Rep ae k M x S) (a c : Int32) : ∃ r, fX11_of n S (M 0 0) a c = some r ∧ fX12_of n x a c = some (r, x) := by
  have hF := g_rFix h
  have hOk := g_rOk h
  have hL := (g_rParL h).1
  have kl : cD S (M 0 7) = 23 := hL.1
  have hO := hOk.2.2.2.2.2.2.2.2.1.1
  have h512 := hO.2
  have hn2 : nN x 32 < 2 ^ 31 := by omega
  have hix : ∀ q : Int32, isB q 0 (nI (nN x 32) - 1) = ixB (mI x 32) q := fun q => by rw [ix_is hn2, ← hO.1]
  cases h1 : ixB (mI x 32) a
  · refine ⟨-1, ?_, ?_⟩
    · simp only [fX11_of, grd, bnd, cal, onn, hF.1, hF.2.2.2.2.2.2.2.2.1, kl, ev_size n hL, ev_within, hix, h1, bI, if_true, if_false]
      rfl
    · simp only [fX12_of, bnd, ev12_in, sI_0 hOk.1]
      rw [show inL a.toInt64 0 ((mI x 32).toInt64 - 1) = ixB (mI x 32) a from rfl, h1]
      rfl
  · obtain ⟨p, hp, rfl⟩ := ixB_of hO h1 (by decide)
    have ep : (nI p).toNatClampNeg = p := nI_clamp (by omega)
    have ep1 : (nI (p + 1)).toNatClampNeg = p + 1 := nI_clamp (by omega)
    have hpar := (g_rPar h).1 p hp
    have hln := hOk.2.2.2.2.2.2.2.2.2.2.1
    obtain ⟨g0, g1, g2, g3, g4, g5, g6⟩ := hpar
    have hu := hln.2.1 p (by omega)
    have hu1 := hln.2.1 (p + 1) (by omega)
    have hmo := hln.2.2.1 p hp
    have h300 := (g_rWho h).2.2.2.1 p hp
    have h24 := hln.1
    obtain ⟨u, eu⟩ : ∃ z, z = nA x 35 p := ⟨_, rfl⟩
    obtain ⟨v, ev⟩ : ∃ z, z = nA x 35 (p + 1) := ⟨_, rfl⟩
    rw [← eu] at hu hmo h300 g4 g6
    rw [← ev] at hu1 hmo h300 g4 g6
    obtain ⟨m, em⟩ : ∃ z, z = v - u := ⟨_, rfl⟩
    rw [← em] at h300 g4 g6
    have hvm : nI v - nI u = nI m := by rw [pk_sub hmo, em]
    have kl4 : cD S (M 10 p) = 24 := g6.1
    have lin := (g_rPar h).2
    have pI : ∀ N : Nat, 515 ≤ N → N ≤ 600 → ¬ (nI p < 0 ∨ N ≤ p) := fun N hN hN2 => by
      have := vp_in_nI (n := p) (N := N) (by omega) (by omega)
      unfold vp_in at this
      rw [ep] at this
      exact this
    have pI1 : ¬ (nI (p + 1) < 0 ∨ 521 ≤ p + 1) := by
      have := vp_in_nI (n := p + 1) (N := 521) (by omega) (by decide)
      unfold vp_in at this
      rw [ep1] at this
      exact this
    have r10 : Unit → (isB c 10 (10 + nI m - 1) = true ↔ ∃ j, j < m ∧ c = nI (10 + j)) := fun _ => isB_row (b := 10) (m := m) (by omega) c
    have r400 : Unit → (isB c 400 (400 + nI m - 1) = true ↔ ∃ j, j < m ∧ c = nI (400 + j)) := fun _ => isB_row (b := 400) (m := m) (by omega) c
    have hd5 : 9 ≤ c.toInt → ¬ c = 0 ∧ ¬ c = 1 ∧ ¬ c = 2 ∧ ¬ c = 3 ∧ ¬ c = 4 := fun z => by
      refine ⟨?_, ?_, ?_, ?_, ?_⟩ <;> (intro e; rw [e] at z; revert z; decide)
    have X : ∀ r, fX3_tell n S (M 9 p) c = some r → fX11_of n S (M 0 0) (nI p) c = some r := fun r hr => by
      have ek : cD S (M 9 p) = 4 := g0
      simp only [fX11_of, grd, bnd, cal, onn, hF.1, hF.2.2.2.2.2.2.2.2.1, kl, ev_size n hL, ev_within, hix, h1, bI, if_true, if_neg n10, ev_get n hL hp, ek, hr]
    have T1 : isB c 10 399 = decide (10 ≤ c.toInt ∧ c.toInt ≤ 399) := by
      rw [Bool.eq_iff_iff]
      simp only [isB, Bool.and_eq_true, decide_eq_true_eq, Int32.le_iff_toInt_le]
      rfl
    have i399 : inL c.toInt64 10 399 = isB c 10 399 := inL_i c 10 399
    have Y : fX12_of n x (nI p) c = (if c = 0 then some (mA x 33 p, x) else if c = 1 then some (mA x 34 p, x) else if c = 2 then some (nI m, x) else if c = 3 then some (grmN x u m, x) else if c = 4 then some (mA x 36 p, x) else if isB c 10 399 = false then (if c < 400 then some (-1, x) else if nI m ≤ c - 400 then some (-1, x) else grd (¬ (((nI u + c) - 400) < 0 ∨ 24000 ≤ ((nI u + c) - 400).toNatClampNeg)) (some (mA x 39 ((nI u + c) - 400).toNatClampNeg, x))) else if nI m ≤ c - 10 then some (-1, x) else grd (¬ (((nI u + c) - 10) < 0 ∨ 24000 ≤ ((nI u + c) - 10).toNatClampNeg)) (some (mA x 38 ((nI u + c) - 10).toNatClampNeg, x))) := by
      have os := of_sum n x u m (by omega) m 0 n.1 (by omega) (by omega)
      rw [show grmN x u 0 = 0 from rfl, nI_0] at os
      have hb1 : (bI (ixB (mI x 32) (nI p)) = 0) = False := by rw [h1]; exact eq_false n10
      have hb2 : (bI (isB c 10 399) = 0) = (isB c 10 399 = false) := propext (bI_eq0 _)
      simp only [fX12_of, bnd, cal, ev12_in, sI_0 hOk.1, nI_inc1]
      rw [show inL (nI p).toInt64 0 ((mI x 32).toInt64 - 1) = ixB (mI x 32) (nI p) from rfl]
      simp only [hb1, if_false, ep, ep1, grd, if_pos (pI 521 (by omega) (by omega)), if_pos (pI 520 (by omega) (by omega)), if_pos pI1, hu.1, hu1.1, hvm, os, i399, hb2]
    rw [Y]
    by_cases cA : isB c 10 (10 + nI m - 1) = true
    · obtain ⟨j, hj, rfl⟩ := (r10 ()).mp cA
      have hjt : (nI (10 + j)).toInt = ((10 + j : Nat) : Int) := nI_toInt (by omega)
      obtain ⟨d0, d1, d2, d3, d4⟩ := hd5 (by omega)
      have ej : nI (10 + j) - 10 = nI j := by rw [show (10 : Int32) = nI 10 from rfl, pk_sub (by omega)]; congr 1; omega
      have euj : nI u + nI (10 + j) - 10 = nI (u + j) := by rw [nI_add, show (10 : Int32) = nI 10 from rfl, pk_sub (by omega)]; congr 1; omega
      have euc : (nI (u + j)).toNatClampNeg = u + j := nI_clamp (by omega)
      have c2 : ¬ (nI (u + j) < 0 ∨ 24000 ≤ u + j) := by
        have := vp_in_nI (n := u + j) (N := 24000) (by omega) (by decide)
        unfold vp_in at this
        rw [euc] at this
        exact this
      have hlin := lin (u + j) (by omega)
      refine ⟨mA x 38 (u + j), X _ ?_, ?_⟩
      · simp only [fX3_tell, grd, bnd, cal, onn, g0, g3, kl4, ev_size n g6, ev_within, cA, bI, if_true, if_neg n10, ej, ev_get n g6 hj, hlin.1, hlin.2.1]
      · have t1 : ¬ isB (nI (10 + j)) 10 399 = false := by rw [T1]; simp; omega
        rw [if_neg d0, if_neg d1, if_neg d2, if_neg d3, if_neg d4, if_neg t1, ej, if_neg (nI_ge hj (by omega)), euj, euc]
        simp only [grd, if_pos c2]
    · have cA' : isB c 10 (10 + nI m - 1) = false := by simpa using cA
      by_cases cB : isB c 400 (400 + nI m - 1) = true
      · obtain ⟨j, hj, rfl⟩ := (r400 ()).mp cB
        have hjt : (nI (400 + j)).toInt = ((400 + j : Nat) : Int) := nI_toInt (by omega)
        obtain ⟨d0, d1, d2, d3, d4⟩ := hd5 (by omega)
        have ej : nI (400 + j) - 400 = nI j := by rw [show (400 : Int32) = nI 400 from rfl, pk_sub (by omega)]; congr 1; omega
        have euj : nI u + nI (400 + j) - 400 = nI (u + j) := by rw [nI_add, show (400 : Int32) = nI 400 from rfl, pk_sub (by omega)]; congr 1; omega
        have euc : (nI (u + j)).toNatClampNeg = u + j := nI_clamp (by omega)
        have c2 : ¬ (nI (u + j) < 0 ∨ 24000 ≤ u + j) := by
          have := vp_in_nI (n := u + j) (N := 24000) (by omega) (by decide)
          unfold vp_in at this
          rw [euc] at this
          exact this
        have hlin := lin (u + j) (by omega)
        refine ⟨mA x 39 (u + j), X _ ?_, ?_⟩
        · simp only [fX3_tell, grd, bnd, cal, onn, g0, g3, kl4, ev_size n g6, ev_within, cA', cB, bI, if_true, if_neg n10, ej, ev_get n g6 hj, hlin.1, hlin.2.2]
          rfl
        · have t1 : isB (nI (400 + j)) 10 399 = false := by rw [T1]; simp; omega
          have t2 : ¬ nI (400 + j) < 400 := nI_ge (a := 400) (b := 400 + j) |> fun _ => by
            rw [Int32.lt_iff_toInt_lt, hjt]
            have : (400 : Int32).toInt = 400 := by decide
            omega
          rw [if_neg d0, if_neg d1, if_neg d2, if_neg d3, if_neg d4, if_pos t1, if_neg t2, ej, if_neg (nI_ge hj (by omega)), euj, euc]
          simp only [grd, if_pos c2]
      · have cB' : isB c 400 (400 + nI m - 1) = false := by simpa using cB
        have Z : fX3_tell n S (M 9 p) c = some (if c = 0 then mA x 33 p else if c = 1 then mA x 34 p else if c = 2 then nI m else if c = 3 then grmN x u m else if c = 4 then mA x 36 p else -1) := by
          simp only [fX3_tell, grd, bnd, cal, onn, g0, g1, g2, g3, g4, g5, kl4, ev_size n g6, ev_within, cA', cB', bI, if_true, Bool.false_eq_true, if_false]
          repeat' split
          all_goals rfl
        have m10 : (10 : Int32).toInt = 10 := by decide
        have m400 : (400 : Int32).toInt = 400 := by decide
        have mt : (nI m).toInt = m := nI_toInt (by omega)
        have out : isB c 10 399 = true → nI m ≤ c - 10 := fun z => by
          rw [T1] at z
          have z := of_decide_eq_true z
          rw [Int32.le_iff_toInt_le, i32_sb (by omega) (by omega), mt, m10]
          rcases Int.lt_or_le (c.toInt - 10) m with q | q
          · exact absurd ((r10 ()).mpr ⟨c.toInt.toNat - 10, by omega, by
              apply Int32.toInt.inj
              rw [nI_toInt (by omega)]
              omega⟩) cA
          · exact q
        have out4 : ¬ c < 400 → nI m ≤ c - 400 := fun z => by
          rw [Int32.lt_iff_toInt_lt, m400] at z
          have zz := Int32.toInt_lt c
          rw [Int32.le_iff_toInt_le, i32_sb (by omega) (by omega), mt, m400]
          rcases Int.lt_or_le (c.toInt - 400) m with q | q
          · exact absurd ((r400 ()).mpr ⟨c.toInt.toNat - 400, by omega, by
              apply Int32.toInt.inj
              rw [nI_toInt (by omega)]
              omega⟩) cB
          · exact q
        refine ⟨_, X _ Z, ?_⟩
        by_cases d0 : c = 0
        · rw [if_pos d0, if_pos d0]
        by_cases d1 : c = 1
        · rw [if_neg d0, if_pos d1, if_neg d0, if_pos d1]
        by_cases d2 : c = 2
        · rw [if_neg d0, if_neg d1, if_pos d2, if_neg d0, if_neg d1, if_pos d2]
        by_cases d3 : c = 3
        · rw [if_neg d0, if_neg d1, if_neg d2, if_pos d3, if_neg d0, if_neg d1, if_neg d2, if_pos d3]
        by_cases d4 : c = 4
        · rw [if_neg d0, if_neg d1, if_neg d2, if_neg d3, if_pos d4, if_neg d0, if_neg d1, if_neg d2, if_neg d3, if_pos d4]
        rw [if_neg d0, if_neg d1, if_neg d2, if_neg d3, if_neg d4, if_neg d0, if_neg d1, if_neg d2, if_neg d3, if_neg d4]
        cases t : isB c 10 399
        · rw [if_pos rfl]
          by_cases t2 : c < 400
          · rw [if_pos t2]
          · rw [if_neg t2, if_pos (out4 t2)]
        · rw [if_neg (by decide), if_pos (out t)]
end M17
