/-! PURE: a line taken from a lot: what the reference's side keeps -/
theorem sum_upd (F : Nat → Int32) (j : Nat) (v : Int32) : ∀ n, itN (fun i s => s + (upd F j v i).toInt) (0 : Int) n = itN (fun i s => s + (F i).toInt) (0 : Int) n + (if j < n then v.toInt - (F j).toInt else 0)
  | 0 => by rw [itN_0, itN_0, if_neg (Nat.not_lt_zero _)]; rfl
  | n + 1 => by
    have ih := sum_upd F j v n
    have e1 : itN (fun i s => s + (upd F j v i).toInt) (0 : Int) (n + 1) = itN (fun i s => s + (upd F j v i).toInt) (0 : Int) n + (upd F j v n).toInt := rfl
    have e2 : itN (fun i s => s + (F i).toInt) (0 : Int) (n + 1) = itN (fun i s => s + (F i).toInt) (0 : Int) n + (F n).toInt := rfl
    rw [e1, e2, ih]
    by_cases c : j = n
    · subst c
      rw [pk_us, if_neg (Nat.lt_irrefl _), if_pos (by omega)]
      omega
    · rw [pk_un (fun z => c z.symm)]
      by_cases c2 : j < n
      · rw [if_pos c2, if_pos (by omega)]; omega
      · rw [if_neg c2, if_neg (by omega)]; omega
def grS (x : MS) (m : Nat) : Int := itN (fun q s => s + (mA x 39 q).toInt) (0 : Int) m
theorem grS_s (x : MS) (m : Nat) : grS x (m + 1) = grS x m + (mA x 39 m).toInt := rfl
theorem grS_0 (x : MS) : grS x 0 = 0 := itN_0 _ _
theorem i32_0le {a : Int32} (h : 0 ≤ a) : 0 ≤ a.toInt := by
  rw [Int32.le_iff_toInt_le] at h
  exact h
theorem grS_mono {x : MS} {L : Nat} (hq : ∀ q, q < L → 0 ≤ mA x 39 q) (a : Nat) : ∀ n, a + n ≤ L → grS x a ≤ grS x (a + n)
  | 0, _ => Int.le_refl _
  | n + 1, h => by
    have ih := grS_mono hq a n (by omega)
    have := i32_0le (hq (a + n) (by omega))
    rw [← Nat.add_assoc, grS_s]
    omega
theorem grS_cong {x z : MS} {L : Nat} (h : ∀ q, q < L → mA z 39 q = mA x 39 q) : grS z L = grS x L := it_cong L (fun q hq s => by rw [h q hq])
theorem i64_add {a b : Int64} (h1 : -9223372036854775808 ≤ a.toInt + b.toInt) (h2 : a.toInt + b.toInt < 9223372036854775808) : (a + b).toInt = a.toInt + b.toInt := by
  rw [Int64.toInt_add]
  exact Int.bmod_eq_of_le (by omega) (by omega)
theorem lin_le {x : MS} {L : Nat} (hq : ∀ q, q < L → 0 ≤ mA x 39 q) (gi : Int32) (a : Nat) {z : Int64} (hz : 0 ≤ z.toInt) : ∀ n, a + n ≤ L → z.toInt + (grS x (a + n) - grS x a) < 1000000000000 → z.toInt ≤ (linN x gi a z n).toInt ∧ (linN x gi a z n).toInt ≤ z.toInt + (grS x (a + n) - grS x a)
  | 0, _, _ => by
    rw [show linN x gi a z 0 = z from rfl, Nat.add_zero]
    omega
  | n + 1, h, hb => by
    have e : grS x (a + (n + 1)) = grS x (a + n) + (mA x 39 (a + n)).toInt := grS_s x (a + n)
    have h0 := i32_0le (hq (a + n) (by omega))
    rw [e] at hb ⊢
    have ih := lin_le hq gi a hz n (by omega) (by omega)
    rw [linN_s]
    have e0 : (0 : Int64).toInt = 0 := by decide
    split
    · rw [i64_add (by rw [Int32.toInt_toInt64]; omega) (by rw [Int32.toInt_toInt64]; omega), Int32.toInt_toInt64]
      omega
    · rw [i64_add (by omega) (by omega), e0]
      omega
theorem led_le {x : MS} {L N : Nat} (hq : ∀ q, q < L → 0 ≤ mA x 39 q) (hb : grS x L < 1000000000) (hm : ∀ p, p < N → nA x 35 p ≤ nA x 35 (p + 1)) (hL : ∀ p, p ≤ N → nA x 35 p ≤ L) (g f : Int32) : ∀ n, n ≤ N → 0 ≤ (ledN x g f n).toInt ∧ (ledN x g f n).toInt ≤ grS x (nA x 35 n)
  | 0, _ => by
    have e0 : (ledN x g f 0).toInt = 0 := by
      rw [show ledN x g f 0 = 0 from itN_0 _ _]; decide
    have := grS_mono hq 0 (nA x 35 0) (by have := hL 0 (Nat.zero_le _); omega)
    rw [grS_0, Nat.zero_add] at this
    omega
  | n + 1, h => by
    have ih := led_le hq hb hm hL g f n (by omega)
    have m1 := hm n (by omega)
    have l1 := hL (n + 1) h
    have mo := grS_mono hq (nA x 35 n) (nA x 35 (n + 1) - nA x 35 n) (by omega)
    have mo2 := grS_mono hq (nA x 35 (n + 1)) (L - nA x 35 (n + 1)) (by omega)
    rw [show nA x 35 n + (nA x 35 (n + 1) - nA x 35 n) = nA x 35 (n + 1) by omega] at mo
    rw [show nA x 35 (n + 1) + (L - nA x 35 (n + 1)) = L by omega] at mo2
    rw [ledN_s]
    split
    · have := lin_le hq g (nA x 35 n) ih.1 (nA x 35 (n + 1) - nA x 35 n) (by omega) (by rw [show nA x 35 n + (nA x 35 (n + 1) - nA x 35 n) = nA x 35 (n + 1) by omega]; omega)
      rw [show nA x 35 n + (nA x 35 (n + 1) - nA x 35 n) = nA x 35 (n + 1) by omega] at this
      omega
    · omega
theorem hand_le {x : MS} (hLim : rLim x) : ∀ n, n ≤ nN x 4 → itN (fun i s => s + (mA x 10 i).toInt) (0 : Int) n ≤ n * 1000000
  | 0, _ => by rw [itN_0]; omega
  | n + 1, h => by
    have ih := hand_le hLim n (by omega)
    have e : itN (fun i s => s + (mA x 10 i).toInt) (0 : Int) (n + 1) = itN (fun i s => s + (mA x 10 i).toInt) (0 : Int) n + (mA x 10 n).toInt := rfl
    obtain ⟨-, b6, -, -, b9, es, b10, b11, b12⟩ := hLim.2.1 n (by omega)
    simp only [isB, Bool.and_eq_true, decide_eq_true_eq, Int32.le_iff_toInt_le] at b6 b9
    have h0 := i32_0le b10
    have h1 := i32_0le b11
    have h2 := i32_0le b12
    have m0 : (0 : Int32).toInt = 0 := by decide
    have m6 : (1000000 : Int32).toInt = 1000000 := by decide
    rw [e]
    omega
/-- all lines' grams -/
theorem gr_le {x : MS} (hLim : rLim x) (hSum : rSum x) (h4 : nN x 4 ≤ 200) : grS x (nN x 37) ≤ 200000000 := by
  have := hand_le hLim (nN x 4) (Nat.le_refl _)
  have e : grS x (nN x 37) = _ := hSum.2.2
  rw [e]
  omega
section TK
variable {z : MS} {j : Nat} {its : Int32}
theorem tk_10 : mA (takeS z j its) 10 = upd (mA z 10) j (mA z 10 j + its) := rfl
theorem tk_38 : mA (takeS z j its) 38 = upd (mA z 38) (nN z 37) (nI j) := rfl
theorem tk_39 : mA (takeS z j its) 39 = upd (mA z 39) (nN z 37) its := rfl
theorem take_ref (hj : j < nN z 4) (h37 : nN z 37 < 24000) (h0 : 0 < its.toInt) (hle : its.toInt ≤ (mA z 9 j).toInt) (hLim : rLim z) (hNew : rNew z) (hSum : rSum z) (hWho : rWho z) : rLim (takeS z j its) ∧ rNew (takeS z j its) ∧ rSum (takeS z j its) ∧ rWho (takeS z j its) := by
  have e37 := (takeS_37 z j its h37).2
  have e4 := takeS_N z j its 4 (by decide)
  have m0 : (0 : Int32).toInt = 0 := by decide
  have m6 : (1000000 : Int32).toInt = 1000000 := by decide
  obtain ⟨a5, a6, a7, a8, a9, es, a10, a11, a12⟩ := hLim.2.1 j hj
  have n10 := i32_0le a10
  have n11 := i32_0le a11
  have n12 := i32_0le a12
  have b6 := a6
  have b9 := a9
  simp only [isB, Bool.and_eq_true, decide_eq_true_eq, Int32.le_iff_toInt_le] at b6 b9
  have s9 : (mA z 9 j - its).toInt = (mA z 9 j).toInt - its.toInt := i32_sb (by omega) (by omega)
  have s10 : (mA z 10 j + its).toInt = (mA z 10 j).toInt + its.toInt := i32_add (by omega) (by omega)
  refine ⟨⟨fun i => ?_, fun i hi => ?_, hLim.2.2⟩, ?_, ⟨hSum.1, fun q hq => ?_, ?_⟩, ⟨hWho.1, hWho.2.1, hWho.2.2.1, hWho.2.2.2.1, fun q hq => ?_⟩⟩
  · rw [takeS_9]
    by_cases e : i = j
    · rw [e, pk_us, Int32.le_iff_toInt_le, s9, m0]; omega
    · rw [pk_un e]; exact hLim.1 i
  · rw [e4] at hi
    rw [takeS_9, tk_10]
    by_cases e : i = j
    · rw [e, pk_us, pk_us]
      refine ⟨a5, a6, a7, a8, ?_, ?_, ?_, a11, a12⟩
      · simp only [isB, Bool.and_eq_true, decide_eq_true_eq, Int32.le_iff_toInt_le, s9]
        omega
      · show (mA z 6 j).toInt = (mA z 9 j - its).toInt + (mA z 10 j + its).toInt + (mA z 11 j).toInt + (mA z 12 j).toInt
        omega
      · rw [Int32.le_iff_toInt_le, s10, m0]; omega
    · rw [pk_un e, pk_un e]
      exact hLim.2.1 i hi
  · intro i hi
    rw [e4] at hi
    rw [takeS_9, tk_10, pk_un (by omega), pk_un (by omega)]
    exact hNew i hi
  · rw [e37] at hq
    rw [tk_39]
    by_cases e : q = nN z 37
    · rw [e, pk_us, Int32.le_iff_toInt_le, m0]; omega
    · rw [pk_un e]; exact hSum.2.1 q (by omega)
  · have r1 := sum_upd (mA z 10) j (mA z 10 j + its) (nN z 4)
    have r2 := sum_upd (mA z 39) (nN z 37) its (nN z 37)
    rw [if_pos hj, s10] at r1
    rw [if_neg (Nat.lt_irrefl _)] at r2
    have r3 : itN (fun q s => s + (upd (mA z 39) (nN z 37) its q).toInt) (0 : Int) (nN z 37 + 1) = itN (fun q s => s + (upd (mA z 39) (nN z 37) its q).toInt) (0 : Int) (nN z 37) + (upd (mA z 39) (nN z 37) its (nN z 37)).toInt := rfl
    rw [pk_us, r2] at r3
    have r4 := hSum.2.2
    rw [e37, e4, tk_39, tk_10, r1, r3]
    omega
  · rw [e37] at hq
    rw [e4, tk_38]
    by_cases e : q = nN z 37
    · rw [e, pk_us]; exact ⟨j, hj, rfl⟩
    · rw [pk_un e]; exact hWho.2.2.2.2 q (by omega)
end TK
