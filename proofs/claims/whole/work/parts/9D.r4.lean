/-! PURE: van rounds: numbers' bits in the machine's ints -/
theorem bv_of {x y : Int32} (h : x.toBitVec.toNat = y.toBitVec.toNat) : x = y := Int32.toBitVec_inj.mp (BitVec.eq_of_toNat_eq h)
theorem nI_and {a b : Nat} (ha : a < 2 ^ 31) (hb : b < 2 ^ 31) : nI a &&& nI b = nI (a &&& b) := by
  have h := Nat.lt_of_le_of_lt (Nat.and_le_left (n := a) (m := b)) ha
  apply bv_of
  rw [Int32.toBitVec_and, BitVec.toNat_and, pk_tn (by omega), pk_tn (by omega), pk_tn (by omega)]
theorem nI_xor {a b : Nat} (ha : a < 256) (hb : b < 256) : nI a ^^^ nI b = nI (a ^^^ b) := by
  have h : a ^^^ b < 2 ^ 8 := Nat.xor_lt_two_pow ha hb
  apply bv_of
  rw [Int32.toBitVec_xor, BitVec.toNat_xor, pk_tn (by omega), pk_tn (by omega), pk_tn (by omega)]
theorem nI_or {a b : Nat} (ha : a < 256) (hb : b < 256) : nI a ||| nI b = nI (a ||| b) := by
  have h : a ||| b < 2 ^ 8 := Nat.or_lt_two_pow ha hb
  apply bv_of
  rw [Int32.toBitVec_or, BitVec.toNat_or, pk_tn (by omega), pk_tn (by omega), pk_tn (by omega)]
theorem xor_lt {a b : Nat} (ha : a < 256) (hb : b < 256) : a ^^^ b < 256 := Nat.xor_lt_two_pow (n := 8) ha hb
theorem t_tb : ∀ s, s < 256 → ∀ k, k < 8 → ((nI s >>> (nI k &&& 31)) &&& (1 : Int32)) = if s.testBit k = true then 1 else 0 := by decide +kernel
theorem t_sh : ∀ k, k < 9 → (1 : Int32) <<< (nI k &&& 31) = nI (2 ^ k) := by decide +kernel
theorem t_neg : ∀ s, s < 256 → nI s &&& (-nI s) = nI (lo s) := by decide +kernel
theorem b_tb {s k : Nat} (hs : s < 256) (hk : k < 8) : (((nI s >>> (nI k &&& 31)) &&& (1 : Int32)) = 0 ↔ ¬ s.testBit k = true) ∧ (((nI s >>> (nI k &&& 31)) &&& (1 : Int32)) = 1 ↔ s.testBit k = true) := by
  rw [t_tb s hs k hk]
  by_cases c : s.testBit k = true
  · rw [if_pos c]
    exact ⟨⟨fun z => absurd z (by decide), fun z => absurd c z⟩, ⟨fun _ => c, fun _ => rfl⟩⟩
  · rw [if_neg c]
    exact ⟨⟨fun _ => c, fun _ => rfl⟩, ⟨fun z => absurd z (by decide), fun z => absurd z c⟩⟩
theorem b_pow {k : Nat} (hk : k < 8) : 2 ^ k < 256 := Nat.pow_lt_pow_right (by decide) (show k < 8 from hk)
theorem b_xs {s k : Nat} (hs : s < 256) (hk : k < 8) : nI s ^^^ ((1 : Int32) <<< (nI k &&& 31)) = nI (s ^^^ 2 ^ k) := by
  rw [t_sh k (by omega), nI_xor hs (b_pow hk)]
theorem b_isIn {s k : Nat} (hs : s < 256) (hk : k < 8) : (fX9_isIn (nI s) (nI k) = 0) ↔ ¬ s.testBit k = true := by
  unfold fX9_isIn
  by_cases c : s.testBit k = true
  · rw [if_neg (fun z => (b_tb hs hk).1.mp z c)]
    exact ⟨fun z => absurd z (by decide), fun z => absurd c z⟩
  · rw [if_pos ((b_tb hs hk).1.mpr c)]
    exact ⟨fun _ => c, fun _ => rfl⟩
theorem b_next {t O : Nat} (ht : t < 256) (h0 : 0 < t) (hO : O < 256) : (nI t - 1) &&& nI O = nI ((t - 1) &&& O) := by
  have e : nI t - 1 = nI (t - 1) := by
    have := nI_pred (t - 1)
    rw [show t - 1 + 1 = t by omega] at this
    exact this
  rw [e, nI_and (by omega) (by omega)]
theorem ix8 {s k : Nat} (hs : s < 256) (hk : k < 8) : (8 : Int32) * nI s + nI k = nI (8 * s + k) ∧ nI s * (8 : Int32) + nI k = nI (8 * s + k) ∧ (nI (8 * s + k)).toNatClampNeg = 8 * s + k ∧ ¬ (nI (8 * s + k) < 0 ∨ 2048 ≤ 8 * s + k) := by
  have e : (nI (8 * s + k)).toNatClampNeg = 8 * s + k := nI_clamp (by omega)
  refine ⟨by rw [show (8 : Int32) = nI 8 from rfl, pk_mul, nI_add], by rw [show (8 : Int32) = nI 8 from rfl, pk_mul, nI_add, Nat.mul_comm], e, ?_⟩
  have := nI_in (c := 8 * s + k) (N := 2048) (by omega) (by decide)
  rw [e] at this
  exact this
theorem ix16 {s k : Nat} (hs : s < 256) (hk : k < 16) : (16 : Int32) * nI s + nI k = nI (16 * s + k) ∧ (nI (16 * s + k)).toNatClampNeg = 16 * s + k ∧ ¬ (nI (16 * s + k) < 0 ∨ 4096 ≤ 16 * s + k) := by
  have e : (nI (16 * s + k)).toNatClampNeg = 16 * s + k := nI_clamp (by omega)
  refine ⟨by rw [show (16 : Int32) = nI 16 from rfl, pk_mul, nI_add], e, ?_⟩
  have := nI_in (c := 16 * s + k) (N := 4096) (by omega) (by decide)
  rw [e] at this
  exact this
theorem ixN {s N : Nat} (hs : s < N) (hN : N < 2 ^ 31) : (nI s).toNatClampNeg = s ∧ ¬ (nI s < 0 ∨ N ≤ s) := by
  have e : (nI s).toNatClampNeg = s := nI_clamp (by omega)
  have := nI_in (c := s) (N := N) hs hN
  rw [e] at this
  exact ⟨e, this⟩
/-! longs -/
theorem lv_of {x y : Int64} (h : x.toBitVec.toNat = y.toBitVec.toNat) : x = y := Int64.toBitVec_inj.mp (BitVec.eq_of_toNat_eq h)
theorem lN_tn {n : Nat} (h : n < 2 ^ 64) : (lN n).toBitVec.toNat = n := by
  unfold lN
  rw [Int64.toBitVec_ofNat', BitVec.toNat_ofNat, Nat.mod_eq_of_lt h]
theorem l_shl {x d : Nat} (hx : x < 2 ^ 40) (hd : d < 16) : (lN x <<< ((4 : Int32).toInt64 &&& 63)) ||| (nI d).toInt64 = lN (x * 16 + d) := by
  have e : ((4 : Int32).toInt64 &&& 63).toBitVec.smod 64 = 4#64 := by decide
  apply lv_of
  rw [nI_l (by omega), Int64.toBitVec_or, Int64.toBitVec_shiftLeft, e, BitVec.toNat_or, lN_tn (by omega), lN_tn (by omega)]
  rw [BitVec.shiftLeft_eq', BitVec.toNat_shiftLeft, lN_tn (by omega)]
  have e4 : (4#64).toNat = 4 := rfl
  rw [e4, Nat.shiftLeft_eq, Nat.mod_eq_of_lt (by omega), ← Nat.shiftLeft_eq, ← Nat.shiftLeft_add_eq_or_of_lt (show d < 2 ^ 4 from hd), Nat.shiftLeft_eq]
theorem l_shr {N L : Nat} (hN : N < 2 ^ 40) (hL : L < 9) : ((lN N >>> ((nI (4 * L)).toInt64 &&& 63)).toInt32 &&& (15 : Int32)) = nI (N / 16 ^ L % 16) := by
  have e : ∀ L, L < 9 → (((nI (4 * L)).toInt64 &&& 63).toBitVec.smod 64).toNat = 4 * L := by decide +kernel
  have hm : (lN N).toBitVec.msb = false := by
    rw [BitVec.msb_eq_false_iff_two_mul_lt, lN_tn (by omega)]
    omega
  rw [pk_and _ 4 (by rfl)]
  rw [Int64.toBitVec_toInt32, BitVec.signExtend_eq_setWidth_of_le _ (by decide), BitVec.toNat_setWidth, Int64.toBitVec_shiftRight, BitVec.toNat_sshiftRight'_of_msb_false hm, e L hL, lN_tn (by omega), Nat.shiftRight_eq_div_pow, Nat.pow_mul]
  congr 1
  rw [Nat.mod_mod_of_dvd _ (by decide)]
