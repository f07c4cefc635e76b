/-! PURE: the reference's words are the class's -/
def ltr (b : Nat → Int32) (s : Nat) : Nat → Int
  | 0 => 0
  | k + 1 => ltr b s k * 32 + ((b (s + k)).toInt - 96)
theorem let_i {v : Int32} (h : isS v = true) : 97 ≤ v.toInt ∧ v.toInt ≤ 122 := by
  unfold isS isB at h
  simp only [Bool.and_eq_true, decide_eq_true_eq, Int32.le_iff_toInt_le] at h
  exact h
theorem ltr_b {b : Nat → Int32} {s : Nat} : ∀ k, (∀ i, i < k → isS (b (s + i)) = true) → k ≤ 6 → 0 ≤ ltr b s k ∧ ltr b s k < 32 ^ k
  | 0, _, _ => by show 0 ≤ (0 : Int) ∧ (0 : Int) < 1; omega
  | k + 1, h, hk => by
    have ih := ltr_b k (fun i hi => h i (by omega)) (by omega)
    have := let_i (h k (by omega))
    rw [Int.pow_succ]
    show 0 ≤ ltr b s k * 32 + ((b (s + k)).toInt - 96) ∧ ltr b s k * 32 + ((b (s + k)).toInt - 96) < 32 ^ k * 32
    omega
theorem wv_is {b : Nat → Int32} {s : Nat} : ∀ k, (∀ i, i < k → isS (b (s + i)) = true) → k ≤ 6 → (wv b s k).toInt = ltr b s k
  | 0, _, _ => rfl
  | k + 1, h, hk => by
    have hh := fun i (hi : i < k) => h i (by omega)
    have ih := wv_is k hh (by omega)
    have bb := ltr_b k hh (by omega)
    have l := let_i (h k (by omega))
    have p6 : (32 : Int) ^ k ≤ 1073741824 := by
      have : k = 0 ∨ k = 1 ∨ k = 2 ∨ k = 3 ∨ k = 4 ∨ k = 5 := by omega
      rcases this with rfl | rfl | rfl | rfl | rfl | rfl <;> decide
    have e32 : (32 : Int64).toInt = 32 := by decide
    have e96 : (96 : Int64).toInt = 96 := by decide
    have m1 : (wv b s k * 32).toInt = ltr b s k * 32 := by
      rw [Int64.toInt_mul, ih, e32]
      exact Int.bmod_eq_of_le (by omega) (by omega)
    have m2 : (wv b s k * 32 + (b (s + k)).toInt64).toInt = ltr b s k * 32 + (b (s + k)).toInt := by
      rw [i64_add (by rw [m1, Int32.toInt_toInt64]; omega) (by rw [m1, Int32.toInt_toInt64]; omega), m1, Int32.toInt_toInt64]
    show (if k < 6 then wv b s k * 32 + (b (s + k)).toInt64 - 96 else -1).toInt = ltr b s k * 32 + ((b (s + k)).toInt - 96)
    rw [if_pos (by omega), i64_sub (by rw [m2]; omega) (by rw [m2]; omega), m2, e96]
    omega
theorem wv_long {b : Nat → Int32} {s : Nat} (k : Nat) (h : 6 < k) : wv b s k = -1 := by
  obtain ⟨j, rfl⟩ : ∃ j, k = j + 1 := ⟨k - 1, by omega⟩
  exact if_neg (by omega)
/-- a word's letters from its number -/
theorem ltr_inj {b c : Nat → Int32} {s t : Nat} : ∀ (k l : Nat), (∀ i, i < k → isS (b (s + i)) = true) → (∀ i, i < l → isS (c (t + i)) = true) → k ≤ 6 → l ≤ 6 → ltr b s k = ltr c t l → k = l ∧ ∀ i, i < k → b (s + i) = c (t + i)
  | 0, 0, _, _, _, _, _ => ⟨rfl, fun i hi => absurd hi (Nat.not_lt_zero _)⟩
  | 0, l + 1, _, hl, _, h6, e => by
    have e : (0 : Int) = ltr c t l * 32 + ((c (t + l)).toInt - 96) := e
    have := let_i (hl l (by omega))
    have := ltr_b l (fun i hi => hl i (by omega)) (by omega)
    omega
  | k + 1, 0, hk, _, h6, _, e => by
    have e : ltr b s k * 32 + ((b (s + k)).toInt - 96) = (0 : Int) := e
    have := let_i (hk k (by omega))
    have := ltr_b k (fun i hi => hk i (by omega)) (by omega)
    omega
  | k + 1, l + 1, hk, hl, h6, h7, e => by
    have e : ltr b s k * 32 + ((b (s + k)).toInt - 96) = ltr c t l * 32 + ((c (t + l)).toInt - 96) := e
    have a1 := let_i (hk k (by omega))
    have a2 := let_i (hl l (by omega))
    have e2 : ltr b s k = ltr c t l := by omega
    have e3 : (b (s + k)).toInt = (c (t + l)).toInt := by omega
    obtain ⟨ekl, ih⟩ := ltr_inj k l (fun i hi => hk i (by omega)) (fun i hi => hl i (by omega)) (by omega) (by omega) e2
    subst ekl
    refine ⟨rfl, fun i hi => ?_⟩
    rcases Nat.lt_or_ge i k with q | q
    · exact ih i q
    · rw [show i = k by omega]; exact Int32.toInt.inj e3
theorem word_l : ∀ w, w < 5 → ∀ i, i < sLen w → isS (sByt w i) = true := by decide
def wrd (w : Nat) : Int64 := if w = 0 then fX12_word 110 101 101 100 0 else if w = 1 then fX12_word 115 112 97 114 101 else if w = 2 then fX12_word 115 119 97 112 0 else if w = 3 then fX12_word 97 98 111 118 101 else fX12_word 102 111 114 0 0
theorem wrd_is : ∀ w, w < 5 → (wrd w).toInt = ltr (sByt w) 0 (sLen w) := by decide
section WRD
variable {b : Nat → Int32} {len : Nat}
theorem word_eq {s w : Nat} (hs : s ≤ len) (hw : w < 5) : (srt b len s = 1 ∧ wrt b len s = wrd w) ↔ tokB b w s (tokE b len s) = true := by
  have hb := tokE_b (b := b) hs
  have hlw := sLen_b w (by omega)
  have hwl : 1 ≤ sLen w := by
    have : w = 0 ∨ w = 1 ∨ w = 2 ∨ w = 3 ∨ w = 4 := by omega
    rcases this with rfl | rfl | rfl | rfl | rfl <;> decide
  unfold tokB
  rw [decide_eq_true_eq]
  constructor
  · rintro ⟨c, e⟩
    have te : tokE b len s = run isS b len 400 s := by unfold tokE; rw [c]; rfl
    have rr := (run_b (b := b) (len := len) isS 400 s hs).2.2
    rw [← te] at rr
    have we : wrt b len s = wv b s (tokE b len s - s) := by unfold wrt; rw [c]; rfl
    rw [we] at e
    have hl : ∀ i, i < tokE b len s - s → isS (b (s + i)) = true := fun i hi => rr (s + i) (by omega) (by omega)
    have e2 := congrArg Int64.toInt e
    rw [wrd_is w hw] at e2
    by_cases c6 : tokE b len s - s ≤ 6
    · rw [wv_is _ hl c6] at e2
      have := ltr_inj _ _ hl (fun i hi => by rw [Nat.zero_add]; exact word_l w hw i hi) c6 (by omega) e2
      refine ⟨this.1, fun i hi => ?_⟩
      have q := this.2 i (by omega)
      rw [Nat.zero_add] at q
      exact q
    · rw [wv_long _ (by omega)] at e2
      have bb := ltr_b (b := sByt w) (s := 0) (sLen w) (fun i hi => by rw [Nat.zero_add]; exact word_l w hw i hi) (by omega)
      have m1 : (-1 : Int64).toInt = -1 := by decide
      omega
  · rintro ⟨e1, e2⟩
    have c : srt b len s = 1 := by
      have h0 := e2 0 (by omega)
      rw [Nat.add_zero] at h0
      unfold srt
      rw [if_neg (by omega), h0, word_l w hw 0 (by omega)]
      rfl
    refine ⟨c, ?_⟩
    have we : wrt b len s = wv b s (tokE b len s - s) := by unfold wrt; rw [c]; rfl
    have hl : ∀ i, i < sLen w → isS (b (s + i)) = true := fun i hi => by rw [e2 i hi]; exact word_l w hw i hi
    apply Int64.toInt.inj
    rw [we, e1, wv_is _ hl (by omega), wrd_is w hw]
    have cg : ∀ k, k ≤ sLen w → ltr b s k = ltr (sByt w) 0 k := by
      intro k
      induction k with
      | zero => intro _; rfl
      | succ k ih =>
        intro hk
        show ltr b s k * 32 + ((b (s + k)).toInt - 96) = ltr (sByt w) 0 k * 32 + ((sByt w (0 + k)).toInt - 96)
        rw [ih (by omega), e2 k (by omega), Nat.zero_add]
    exact cg _ (Nat.le_refl _)
/-- ';' -/
theorem semi_eq {s : Nat} (hs : s ≤ len) (hbb : ∀ i, i < len → isB (b i) 0 255 = true) : (srt b len s = 3 ∧ wrt b len s = 59) ↔ tokB b 5 s (tokE b len s) = true := by
  unfold tokB
  rw [decide_eq_true_eq]
  have s5 : sLen 5 = 1 := rfl
  have b5 : sByt 5 0 = 59 := rfl
  constructor
  · rintro ⟨c, e⟩
    have te : tokE b len s = s + 1 := by unfold tokE; rw [c]; rfl
    have we : wrt b len s = (b s).toInt64 := by unfold wrt; rw [c]; rfl
    rw [we] at e
    refine ⟨by rw [te, s5]; omega, fun i hi => ?_⟩
    rw [s5] at hi
    rw [show i = 0 by omega, Nat.add_zero, b5]
    apply Int32.toInt.inj
    have := congrArg Int64.toInt e
    rw [Int32.toInt_toInt64] at this
    rw [this]; decide
  · rintro ⟨e1, e2⟩
    have h0 := e2 0 (by rw [s5]; omega)
    rw [Nat.add_zero, b5] at h0
    rw [s5] at e1
    have hb := tokE_b (b := b) hs
    have c : srt b len s = 3 := by
      unfold srt
      rw [if_neg (by omega), h0]
      rfl
    refine ⟨c, ?_⟩
    have we : wrt b len s = (b s).toInt64 := by unfold wrt; rw [c]; rfl
    rw [we, h0]; decide
theorem dv_is {s : Nat} : ∀ k, (∀ i, i < k → isG (b (s + i)) = true) → ((dv b s k).toInt = dec b s k ∧ dec b s k ≤ 20000000) ∨ (1000000 < (dv b s k).toInt ∧ 1000000 < dec b s k)
  | 0, _ => Or.inl ⟨rfl, Nat.zero_le _⟩
  | k + 1, h => by
    have ih := dv_is (s := s) k (fun i hi => h i (by omega))
    have l := dig_i (h k (by omega))
    have k6 : (1000000 : Int64).toInt = 1000000 := by decide
    have e10 : (10 : Int64).toInt = 10 := by decide
    have e48 : (48 : Int64).toInt = 48 := by decide
    have cn : (b (s + k)).toNatClampNeg = (b (s + k)).toInt.toNat := rfl
    have d1 : dec b s (k + 1) = dec b s k * 10 + ((b (s + k)).toNatClampNeg - 48) := rfl
    have v1 : dv b s (k + 1) = if dv b s k ≤ 1000000 then dv b s k * 10 + (b (s + k)).toInt64 - 48 else dv b s k := rfl
    rw [d1, v1]
    by_cases c : dv b s k ≤ 1000000
    · rw [if_pos c]
      rw [Int64.le_iff_toInt_le, k6] at c
      rcases ih with ih | ih
      · have m1 : (dv b s k * 10).toInt = (dv b s k).toInt * 10 := by
          rw [Int64.toInt_mul, e10]
          exact Int.bmod_eq_of_le (by omega) (by omega)
        have m2 : (dv b s k * 10 + (b (s + k)).toInt64).toInt = (dv b s k).toInt * 10 + (b (s + k)).toInt := by
          rw [i64_add (by rw [m1, Int32.toInt_toInt64]; omega) (by rw [m1, Int32.toInt_toInt64]; omega), m1, Int32.toInt_toInt64]
        refine Or.inl ⟨?_, by omega⟩
        rw [i64_sub (by rw [m2]; omega) (by rw [m2]; omega), m2, e48]
        omega
      · omega
    · rw [if_neg c]
      rw [Int64.le_iff_toInt_le, k6] at c
      refine Or.inr ⟨by omega, ?_⟩
      rcases ih with ih | ih <;> omega
theorem num_eq {s most : Nat} (hs : s ≤ len) (hm : most ≤ 100000) {mo : Int64} (hmo : mo.toInt = most) (c : srt b len s = 2) : (wrt b len s ≤ mo ↔ dec b s (tokE b len s - s) ≤ most) ∧ (dec b s (tokE b len s - s) ≤ most → (wrt b len s).toInt32 = nI (dec b s (tokE b len s - s)) ∧ (wrt b len s).toInt = dec b s (tokE b len s - s)) := by
  have te : tokE b len s = run isG b len 400 s := by unfold tokE; rw [c]; rfl
  have rr := (run_b (b := b) (len := len) isG 400 s hs).2.2
  rw [← te] at rr
  have hb := tokE_b (b := b) hs
  have we : wrt b len s = dv b s (tokE b len s - s) := by unfold wrt; rw [c]; rfl
  rw [we, Int64.le_iff_toInt_le, hmo]
  have h := dv_is (b := b) (s := s) (tokE b len s - s) (fun i hi => rr (s + i) (by omega) (by omega))
  refine ⟨by omega, fun q => ?_⟩
  have e : (dv b s (tokE b len s - s)).toInt = dec b s (tokE b len s - s) := by omega
  refine ⟨?_, e⟩
  apply Int32.toInt.inj
  rw [Int64.toInt_toInt32, e, nI_toInt (by omega)]
  exact Int.bmod_eq_of_le (by omega) (by omega)
end WRD
