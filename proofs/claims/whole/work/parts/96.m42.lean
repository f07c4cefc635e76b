/-! PURE: the three sorts of rules; the whole text -/
def j89 (n : Nat × Nat) (z0 : Int32) (S82 : MS) : Option MS := cal (fX12_number n S82 (9 : Int64)) (un2 fun r89 S89 => if z0 = 0 then
        cal (fX12_number n S89 (100000 : Int64)) (un2 fun r106 S106 => bnd (mI S106 64) (fun v111 => if v111 = 0 then
          cal (fX12_isWord n S106 (97 : Int32) (98 : Int32) (111 : Int32) (118 : Int32) (101 : Int32)) (fun q128 => if q128 = 0 then
            j226 z0 r89 r106 0 S106
            else cal (fX12_next n S106 ) (fun S135 => cal (fX12_number n S135 (12 : Int64)) (un2 fun r142 S142 => j226 z0 r89 r106 r142 S142)))
          else j226 z0 r89 r106 0 S106))
        else if z0 = (1 : Int32) then
          cal (fX12_number n S89 (1000 : Int64)) (un2 fun r159 S159 => j226 z0 r89 r159 0 S159)
          else cal (fX12_isWord n S89 (102 : Int32) (111 : Int32) (114 : Int32) (0 : Int32) (0 : Int32)) (fun q176 => cal (fX12_must n S89 q176) (fun S179 => bnd (mL S179 62) (fun v183 => bnd v183.toInt32 (fun x187 => bnd (mI S179 61) (fun v190 => if v190 = (2 : Int32) then
            bnd (mL S179 62) (fun v198 => if 0 < (lg_cmp v198 (9 : Int64)) then
              cal (fX12_must n S179 0) (fun S223 => j226 z0 r89 x187 0 S223)
              else bnd (mL S179 62) (fun v209 => if (lg_cmp v209 r89.toInt64) = 0 then
                cal (fX12_must n S179 0) (fun S223 => j226 z0 r89 x187 0 S223)
                else cal (fX12_must n S179 1) (fun S223 => j226 z0 r89 x187 0 S223)))
            else cal (fX12_must n S179 0) (fun S223 => j226 z0 r89 x187 0 S223)))))))
theorem j82_is (n : Nat × Nat) (z0 v : Int32) (S : MS) : j82 n z0 v S = cal (fX12_must n S v) (fun S82 => j89 n z0 S82) := rfl
/-- nothing more happens once it is bad -/
theorem j89_bad (n : Nat × Nat) (z0 : Int32) {y : MS} (h : ¬ mI y 64 = 0) : j89 n z0 y = some y := by
  unfold j89
  simp only [number_bad h, cal, un2, bnd, if_neg h, j226_bad h, isWord_is, must_bad h]
  split
  · rfl
  · split
    · rfl
    · split
      · split
        · rfl
        · split <;> rfl
      · rfl
theorem nI_nm {v : Nat} (h : v ≤ 100000) : ¬ nI v = -1 := fun e => by
  have := congrArg Int32.toInt e
  rw [nI_toInt (by omega), show (-1 : Int32).toInt = -1 by decide] at this
  omega
section SIM2
variable {M : Nat → Nat → Nat} {b : Nat → Int32} {len : Nat}
theorem need_sim (n : Nat × Nat) (hn : 30000 ≤ n.1) {p m : Nat} {T : CS} {y : MS} (h : AH M b len p m T y) (hm : m < 30) : ∃ T' y' q, fX5_readNeed n T (M 0 8) = some (q, T') ∧ j89 n 0 y = some y' ∧ ((q = 0 ∧ BD M T y T' y') ∨ (q = 1 ∧ GD M b len (m + 1) T y T' y')) := by
  have t0 := h.2.1.1
  obtain ⟨T1, r1, y1, q1, c1, e1, o1⟩ := num_step n hn (most := 9) (mo := 9) (by decide) (by decide) h
  rw [show nI 9 = (9 : Int32) from rfl] at c1
  rcases o1 with ⟨w1, bd1⟩ | ⟨v1, l1, rfl, rfl, h1, ev1, rk1⟩
  · have nz := BD_nz bd1
    refine ⟨T1, y1, 0, ?_, ?_, Or.inl ⟨rfl, bd1⟩⟩
    · simp only [fX5_readNeed, grd, cal, un2, t0, if_true, c1, if_pos w1]
    · simp only [j89, e1, cal, un2, if_true, number_bad nz, bnd, if_neg nz, j226_bad nz]
  obtain ⟨T2, r2, y2, q2, c2, e2, o2⟩ := num_step n hn (most := 100000) (mo := 100000) (by decide) (by decide) h1
  rw [show nI 100000 = (100000 : Int32) from by decide] at c2
  have t1 := h1.2.1.1
  rcases o2 with ⟨w2, bd2⟩ | ⟨v2, l2, rfl, rfl, h2, ev2, rk2⟩
  · have nz := BD_nz bd2
    refine ⟨T2, y2, 0, ?_, ?_, Or.inl ⟨rfl, BD_tr ev1 rk1 bd2⟩⟩
    · simp only [fX5_readNeed, grd, cal, un2, t0, if_true, c1, if_neg (nI_nm (show v1 ≤ 100000 by omega)), t1, c2, if_pos w2]
    · simp only [j89, e1, cal, un2, if_true, e2, bnd, if_neg nz, j226_bad nz]
  obtain ⟨T3, c3, sy3, ev3⟩ := tok_step n hn h2
  have t2 := h2.2.1.1
  have t3 := sy3.2.1.1
  have z64 : mI y2 64 = 0 := h2.2.2.2.2.1.2.2.2.2.2.2
  have z31 : mI y2 31 = nI m := h2.2.2.2.2.2.2.1
  have df3 := sy3.2.2.1
  obtain ⟨q, c4, e4, hq⟩ := word_step n hn sy3 (w := 3) (by decide) (show fX12_word 97 98 111 118 101 = wrd 3 from rfl)
  have z01 : (0 : Int32) + 1 = 1 := by decide
  have n02 : ¬ (0 : Int32) = 2 := by decide
  rcases hq with rfl | rfl
  · obtain ⟨T4, c5, sy5, ev5, rk5⟩ := lay_step n sy3 hm (v := 0) (a := nI v1) (c := nI v2) (d := 0) (d2 := 0) (ruN (v := 0) (by decide) l1 (by omega) (by omega) (fun _ => l2)) (fun _ => rfl)
    rw [z01] at c5
    refine ⟨T4, addR y2 m 0 (nI v1) (nI v2) 0, 1, ?_, ?_, Or.inr ⟨rfl, _, sy5, EvR_tr ev1 (EvR_tr ev2 (EvR_tr ev3 ev5)), RkG_tr rk1 (RkG_tr rk2 rk5)⟩⟩
    · simp only [fX5_readNeed, fX6_addNeed, grd, cal, un2, bnd, onn, t0, if_true, c1, if_neg (nI_nm (show v1 ≤ 100000 by omega)), t1, c2, if_neg (nI_nm l2), t2, c3, t3, c4, df3.2.1, df3.2.2.1, c5]
    · simp only [j89, e1, cal, un2, if_true, e2, bnd, if_pos z64, e4, j226_ok z64 z31 hm, if_neg n02]
  · obtain ⟨y3, e5, h3, rk3⟩ := ref_step n hn sy3
    obtain ⟨T4, r4, y4, q4, c5, e6, o4⟩ := num_step n hn (most := 12) (mo := 12) (by decide) (by decide) h3
    rw [show nI 12 = (12 : Int32) from rfl] at c5
    rcases o4 with ⟨w4, bd4⟩ | ⟨v4, l4, rfl, rfl, h4, ev4, rk4⟩
    · have nz := BD_nz bd4
      refine ⟨T4, y4, 0, ?_, ?_, Or.inl ⟨rfl, BD_tr (EvR_tr ev1 (EvR_tr ev2 ev3)) (RkG_tr rk1 (RkG_tr rk2 rk3)) bd4⟩⟩
      · simp only [fX5_readNeed, fX6_addNeed, grd, cal, un2, bnd, onn, t0, if_true, c1, if_neg (nI_nm (show v1 ≤ 100000 by omega)), t1, c2, if_neg (nI_nm l2), t2, c3, t3, c4, if_neg n10, c5, if_pos w4]
      · simp only [j89, e1, cal, un2, if_true, e2, bnd, if_pos z64, e4, if_neg n10, e5, e6, j226_bad nz]
    · obtain ⟨T5, c6, sy5, ev5⟩ := tok_step n hn h4
      have t4 := h4.2.1.1
      have t5 := sy5.2.1.1
      have df5 := sy5.2.2.1
      have z64' : mI y4 64 = 0 := h4.2.2.2.2.1.2.2.2.2.2.2
      have z31' : mI y4 31 = nI m := h4.2.2.2.2.2.2.1
      obtain ⟨T6, c7, sy6, ev6, rk6⟩ := lay_step n sy5 hm (v := 0) (a := nI v1) (c := nI v2) (d := nI v4) (d2 := nI v4) (ruN (v := 0) (by decide) l1 (by omega) (by omega) (fun _ => l2)) (fun _ => rfl)
      rw [z01] at c7
      refine ⟨T6, addR y4 m 0 (nI v1) (nI v2) (nI v4), 1, ?_, ?_, Or.inr ⟨rfl, _, sy6, EvR_tr ev1 (EvR_tr ev2 (EvR_tr ev3 (EvR_tr ev4 (EvR_tr ev5 ev6)))), RkG_tr rk1 (RkG_tr rk2 (RkG_tr rk3 (RkG_tr rk4 rk6)))⟩⟩
      · simp only [fX5_readNeed, fX6_addNeed, grd, cal, un2, bnd, onn, t0, if_true, c1, if_neg (nI_nm (show v1 ≤ 100000 by omega)), t1, c2, if_neg (nI_nm l2), t2, c3, t3, c4, if_neg n10, c5, if_neg (nI_nm (show v4 ≤ 100000 by omega)), t4, c6, t5, df5.2.1, df5.2.2.1, c7]
      · simp only [j89, e1, cal, un2, if_true, e2, bnd, if_pos z64, e4, if_neg n10, e5, e6, j226_ok z64' z31' hm, if_neg n02]
theorem spare_sim (n : Nat × Nat) (hn : 30000 ≤ n.1) {p m : Nat} {T : CS} {y : MS} (h : AH M b len p m T y) (hm : m < 30) : ∃ T' y' q, fX5_readSpare n T (M 0 8) = some (q, T') ∧ j89 n 1 y = some y' ∧ ((q = 0 ∧ BD M T y T' y') ∨ (q = 1 ∧ GD M b len (m + 1) T y T' y')) := by
  have t0 := h.2.1.1
  obtain ⟨T1, r1, y1, q1, c1, e1, o1⟩ := num_step n hn (most := 9) (mo := 9) (by decide) (by decide) h
  rw [show nI 9 = (9 : Int32) from rfl] at c1
  have z10 : ¬ (1 : Int32) = 0 := by decide
  rcases o1 with ⟨w1, bd1⟩ | ⟨v1, l1, rfl, rfl, h1, ev1, rk1⟩
  · have nz := BD_nz bd1
    refine ⟨T1, y1, 0, ?_, ?_, Or.inl ⟨rfl, bd1⟩⟩
    · simp only [fX5_readSpare, grd, cal, un2, t0, if_true, c1, if_pos w1]
    · simp only [j89, e1, cal, un2, if_neg z10, if_true, number_bad nz, bnd, j226_bad nz]
  obtain ⟨T2, r2, y2, q2, c2, e2, o2⟩ := num_step n hn (most := 1000) (mo := 1000) (by decide) (by decide) h1
  rw [show nI 1000 = (1000 : Int32) from rfl] at c2
  have t1 := h1.2.1.1
  rcases o2 with ⟨w2, bd2⟩ | ⟨v2, l2, rfl, rfl, h2, ev2, rk2⟩
  · have nz := BD_nz bd2
    refine ⟨T2, y2, 0, ?_, ?_, Or.inl ⟨rfl, BD_tr ev1 rk1 bd2⟩⟩
    · simp only [fX5_readSpare, grd, cal, un2, t0, if_true, c1, if_neg (nI_nm (show v1 ≤ 100000 by omega)), t1, c2, if_pos w2]
    · simp only [j89, e1, cal, un2, if_neg z10, if_true, e2, bnd, j226_bad nz]
  obtain ⟨T3, c3, sy3, ev3⟩ := tok_step n hn h2
  have t2 := h2.2.1.1
  have t3 := sy3.2.1.1
  have z64 : mI y2 64 = 0 := h2.2.2.2.2.1.2.2.2.2.2.2
  have z31 : mI y2 31 = nI m := h2.2.2.2.2.2.2.1
  have df3 := sy3.2.2.1
  have z01 : (1 : Int32) + 1 = 2 := by decide
  have n02 : ¬ (1 : Int32) = 2 := by decide
  obtain ⟨T4, c5, sy5, ev5, rk5⟩ := lay_step n sy3 hm (v := 1) (a := nI v1) (c := nI v2) (d := 0) (d2 := 0) (ruN (v := 1) (by decide) l1 (by omega) (fun _ => l2) (by omega)) (fun _ => rfl)
  rw [z01] at c5
  refine ⟨T4, addR y2 m 1 (nI v1) (nI v2) 0, 1, ?_, ?_, Or.inr ⟨rfl, _, sy5, EvR_tr ev1 (EvR_tr ev2 (EvR_tr ev3 ev5)), RkG_tr rk1 (RkG_tr rk2 rk5)⟩⟩
  · simp only [fX5_readSpare, fX6_addSpare, grd, cal, un2, bnd, onn, t0, if_true, c1, if_neg (nI_nm (show v1 ≤ 100000 by omega)), t1, c2, if_neg (nI_nm (show v2 ≤ 100000 by omega)), t2, c3, t3, df3.2.1, df3.2.2.1, c5]
  · simp only [j89, e1, cal, un2, if_neg z10, if_true, e2, bnd, j226_ok z64 z31 hm, if_neg n02]
theorem swap_sim (n : Nat × Nat) (hn : 30000 ≤ n.1) {p m : Nat} {T : CS} {y : MS} (h : AH M b len p m T y) (hm : m < 30) : ∃ T' y' q, fX5_readSwap n T (M 0 8) = some (q, T') ∧ j89 n 2 y = some y' ∧ ((q = 0 ∧ BD M T y T' y') ∨ (q = 1 ∧ GD M b len (m + 1) T y T' y')) := by
  have t0 := h.2.1.1
  obtain ⟨T1, r1, y1, q1, c1, e1, o1⟩ := num_step n hn (most := 9) (mo := 9) (by decide) (by decide) h
  rw [show nI 9 = (9 : Int32) from rfl] at c1
  have z20 : ¬ (2 : Int32) = 0 := by decide
  have z21 : ¬ (2 : Int32) = 1 := by decide
  rcases o1 with ⟨w1, bd1⟩ | ⟨v1, l1, rfl, rfl, h1, ev1, rk1⟩
  · have nz := BD_nz bd1
    refine ⟨T1, y1, 0, ?_, ?_, Or.inl ⟨rfl, bd1⟩⟩
    · simp only [fX5_readSwap, grd, cal, un2, t0, if_true, c1, if_pos w1]
    · simp only [j89, e1, cal, un2, if_neg z20, if_neg z21, isWord_is, must_bad nz, bnd, j226_bad nz]
      split
      · split
        · rfl
        · split <;> rfl
      · rfl
  have t1 := h1.2.1.1
  obtain ⟨T2, c2, sy2, ev2⟩ := tok_step n hn h1
  have t2 := sy2.2.1.1
  obtain ⟨q, c3, e3, hq⟩ := word_step n hn sy2 (w := 4) (by decide) (show fX12_word 102 111 114 0 0 = wrd 4 from rfl)
  have z64 : mI y1 64 = 0 := h1.2.2.2.2.1.2.2.2.2.2.2
  rcases hq with rfl | rfl
  · have bd := bad_at sy2
    have nz := BD_nz bd
    refine ⟨T2, _, 0, ?_, ?_, Or.inl ⟨rfl, BD_tr (EvR_tr ev1 ev2) rk1 bd⟩⟩
    · simp only [fX5_readSwap, grd, cal, un2, t0, if_true, c1, if_neg (nI_nm (show v1 ≤ 100000 by omega)), t1, c2, t2, c3]
    · simp only [j89, e1, cal, un2, if_neg z20, if_neg z21, e3, must_no z64, bnd, must_bad nz, j226_bad nz]
      split
      · split
        · rfl
        · split <;> rfl
      · rfl
  obtain ⟨y2, e4, h2, rk2⟩ := ref_step n hn sy2
  have z64' : mI y2 64 = 0 := h2.2.2.2.2.1.2.2.2.2.2.2
  have z31' : mI y2 31 = nI m := h2.2.2.2.2.2.2.1
  obtain ⟨T3, r3, y3, q3, c4, e5, o3⟩ := num_step n hn (most := 9) (mo := 9) (by decide) (by decide) h2
  rw [show nI 9 = (9 : Int32) from rfl] at c4
  have nis := number_is (n := n) z64' (9 : Int64)
  rw [e5] at nis
  -- the reference at the second number
  have R2 : j89 n 2 y = if mI y2 61 = 2 ∧ mL y2 62 ≤ 9 then (if mL y2 62 = (nI v1).toInt64 then j226 2 (nI v1) (mL y2 62).toInt32 0 (sI (sI y2 64 1) 63 (mI y2 59)) else cal (fX12_must n y2 1) (fun S223 => j226 2 (nI v1) (mL y2 62).toInt32 0 S223)) else j226 2 (nI v1) (mL y2 62).toInt32 0 (sI (sI y2 64 1) 63 (mI y2 59)) := by
    simp only [j89, e1, cal, un2, if_neg z20, if_neg z21, e3, must_ok z64 n10 e4, bnd, must_no z64', lg_cmp_gt, lg_cmp_eq]
    by_cases d1 : mI y2 61 = 2
    · rw [if_pos d1]
      by_cases d2 : mL y2 62 ≤ 9
      · rw [if_neg (Int64.not_lt.mpr d2), if_pos (show mI y2 61 = 2 ∧ mL y2 62 ≤ 9 from ⟨d1, d2⟩)]
      · rw [if_pos (Int64.not_le.mp d2), if_neg (show ¬ (mI y2 61 = 2 ∧ mL y2 62 ≤ 9) from fun w => d2 w.2)]
    · rw [if_neg d1, if_neg (show ¬ (mI y2 61 = 2 ∧ mL y2 62 ≤ 9) from fun w => d1 w.1)]
  -- both fail at the same place
  have FL : ∀ T3', EvR M T2 T3' → cI T3' 122 (M 0 8) = mI y2 59 → (∃ s, mI y2 59 = nI s) → BD M T y T3' (sI (sI y2 64 1) 63 (mI y2 59)) := fun T3' ev hs ⟨s, es⟩ => BD_tr (EvR_tr ev1 ev2) (RkG_tr rk1 rk2) ⟨s, by rw [hs, es], rfl, es, ev, Rk_mono (Rk_tr (Rk_sI y2 64 1) (Rk_sI _ 63 (mI y2 59))) (by simp) (by simp)⟩
  have nzF : ¬ mI (sI (sI y2 64 1) 63 (mI y2 59)) 64 = 0 := by show ¬ (1 : Int32) = 0; decide
  rcases o3 with ⟨w3, bd3⟩ | ⟨v3, l3, rfl, rfl, h3, ev3, rk3⟩
  · have d0 : ¬ (mI y2 61 = 2 ∧ mL y2 62 ≤ 9) := fun w => by
      rw [if_pos w] at nis
      obtain ⟨y9, e9, k9, -⟩ := ev12_nextT n hn h2.2.1.2.2.2.2.2.1 h2.2.2.2.2.1.1 h2.2.2.2.2.1.2.1 h2.2.2.2.2.1.2.2.2.1 (tokE_b (tokS_b h2.1).2).2
      rw [must_ok z64' n10 e9] at nis
      have en : y3 = y9 := by
        simp only [cal] at nis
        injection nis with nis
        injection nis
      have := BD_nz bd3
      rw [en, k9.1 64 rfl] at this
      exact this z64'
    rw [if_neg d0] at nis R2
    have en : y3 = sI (sI y2 64 1) 63 (mI y2 59) := by
      injection nis with nis
      injection nis
    refine ⟨T3, y3, 0, ?_, ?_, Or.inl ⟨rfl, BD_tr (EvR_tr ev1 ev2) (RkG_tr rk1 rk2) bd3⟩⟩
    · simp only [fX5_readSwap, grd, cal, un2, t0, if_true, c1, if_neg (nI_nm (show v1 ≤ 100000 by omega)), t1, c2, t2, c3, if_neg n10, c4, if_pos w3]
    · rw [R2, j226_bad nzF, en]
  · have d0 : mI y2 61 = 2 ∧ mL y2 62 ≤ 9 := by
      by_cases w : mI y2 61 = 2 ∧ mL y2 62 ≤ 9
      · exact w
      · rw [if_neg w] at nis
        have en : y3 = sI (sI y2 64 1) 63 (mI y2 59) := by
          injection nis with nis
          injection nis
        have z : mI y3 64 = 0 := h3.2.2.2.2.1.2.2.2.2.2.2
        rw [en] at z
        exact absurd z nzF
    rw [if_pos d0] at nis R2
    obtain ⟨y9, e9, k9, -⟩ := ev12_nextT n hn h2.2.1.2.2.2.2.2.1 h2.2.2.2.2.1.1 h2.2.2.2.2.1.2.1 h2.2.2.2.2.1.2.2.2.1 (tokE_b (tokS_b h2.1).2).2
    rw [must_ok z64' n10 e9] at nis
    simp only [cal] at nis
    have en : y3 = y9 ∧ nI v3 = (mL y2 62).toInt32 := by
      injection nis with nis
      injection nis with n1 n2
      exact ⟨n2, n1⟩
    have t3 := h3.2.1.1
    -- the number itself
    have sv : mI y2 61 = nI 2 := d0.1
    have srt2 : srt b len (tokS b len (tokE b len (tokS b len (tokE b len (tokS b len p))))) = 2 := by
      have := h2.2.2.2.2.1.2.2.2.2.1
      rw [sv] at this
      rcases srt_3 (b := b) (len := len) (tokS b len (tokE b len (tokS b len (tokE b len (tokS b len p))))) with w | w | w | w <;> rw [w] at this
      · exact absurd this (by decide)
      · exact absurd this (by decide)
      · exact w
      · exact absurd this (by decide)
    have w62 := h2.2.2.2.2.1.2.2.2.2.2.1
    have ne := num_eq (b := b) (most := 9) (mo := 9) (tokS_b h2.1).2 (by decide) (by decide) srt2
    rw [← w62] at ne
    have ie := ne.2 (ne.1.mp d0.2)
    have vi : (mL y2 62).toInt = v3 := by
      have := congrArg Int32.toInt (en.2.trans ie.1)
      rw [nI_toInt (by omega), nI_toInt (by have := ne.1.mp d0.2; omega)] at this
      rw [ie.2]; omega
    have veq : mL y2 62 = (nI v1).toInt64 ↔ nI v3 = nI v1 := by
      constructor
      · intro w
        have := congrArg Int64.toInt w
        rw [vi, Int32.toInt_toInt64, nI_toInt (by omega)] at this
        rw [show v3 = v1 by omega]
      · intro w
        apply Int64.toInt.inj
        rw [vi, Int32.toInt_toInt64, ← w, nI_toInt (by omega)]
    have s122 : cI T3 122 (M 0 8) = mI y2 59 := by
      obtain ⟨T9, e9', ev9, v9, -⟩ := ev_nextNumber n hn h2.2.1 h2.2.2.2.1 h2.1 (most := 9) (by decide)
      rw [show nI 9 = (9 : Int32) from rfl] at e9'
      rw [c4] at e9'
      injection e9' with e9'
      injection e9' with _ e9'
      rw [e9', v9, h2.2.2.2.2.1.2.2.1]
    by_cases d3 : nI v3 = nI v1
    · rw [if_pos (veq.mpr d3), j226_bad nzF] at R2
      refine ⟨T3, _, 0, ?_, R2, Or.inl ⟨rfl, FL T3 ev3 s122 ⟨_, h2.2.2.2.2.1.2.2.1⟩⟩⟩
      simp only [fX5_readSwap, grd, cal, un2, t0, if_true, c1, if_neg (nI_nm (show v1 ≤ 100000 by omega)), t1, c2, t2, c3, if_neg n10, c4, if_neg (nI_nm (show v3 ≤ 100000 by omega)), if_pos d3]
    · rw [if_neg (fun w => d3 (veq.mp w)), must_ok z64' n10 e9, ← en.1, ← en.2] at R2
      obtain ⟨T4, c5, sy4, ev4⟩ := tok_step n hn h3
      have t4 := sy4.2.1.1
      have df4 := sy4.2.2.1
      have y64 : mI y3 64 = 0 := h3.2.2.2.2.1.2.2.2.2.2.2
      have y31 : mI y3 31 = nI m := h3.2.2.2.2.2.2.1
      have z01 : (2 : Int32) + 1 = 3 := by decide
      obtain ⟨T5, c6, sy5, ev5, rk5⟩ := lay_step n sy4 hm (v := 2) (a := nI v3) (c := nI v1) (d := 0) (d2 := 0) (ruN (v := 2) (by decide) l3 (fun _ => l1) (by omega) (by omega)) (fun _ => rfl)
      rw [z01] at c6
      simp only [cal, j226_ok y64 y31 hm, if_true] at R2
      refine ⟨T5, _, 1, ?_, R2, Or.inr ⟨rfl, _, sy5, EvR_tr ev1 (EvR_tr ev2 (EvR_tr ev3 (EvR_tr ev4 ev5))), RkG_tr rk1 (RkG_tr rk2 (RkG_tr rk3 rk5))⟩⟩
      simp only [fX5_readSwap, fX6_addSwap, grd, cal, un2, onn, t0, if_true, c1, if_neg (nI_nm (show v1 ≤ 100000 by omega)), t1, c2, t2, c3, if_neg n10, c4, if_neg (nI_nm (show v3 ≤ 100000 by omega)), if_neg d3, t3, c5, t4, df4.2.1, df4.2.2.1, c6]
end SIM2
