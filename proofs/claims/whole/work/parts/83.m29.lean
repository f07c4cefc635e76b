/-! PURE: gluts parted: sums of wants, levels -/
def wnt (x : MS) (kd t : Nat) : Int := (mA x 14 (10 * t + kd)).toInt
def uS (x : MS) (kd : Nat) (L : Int) (k : Nat) : Int := itN (fun t s => s + min (wnt x kd t) L) (0 : Int) k
def cW (x : MS) (kd : Nat) (L : Int) (k : Nat) : Int := itN (fun t s => s + if L < wnt x kd t then 1 else 0) (0 : Int) k
theorem uS_s (x : MS) (kd : Nat) (L : Int) (k : Nat) : uS x kd L (k + 1) = uS x kd L k + min (wnt x kd k) L := rfl
theorem uS_0 (x : MS) (kd : Nat) (L : Int) : uS x kd L 0 = 0 := itN_0 _ _
theorem cW_s (x : MS) (kd : Nat) (L : Int) (k : Nat) : cW x kd L (k + 1) = cW x kd L k + if L < wnt x kd k then 1 else 0 := rfl
theorem cW_0 (x : MS) (kd : Nat) (L : Int) : cW x kd L 0 = 0 := itN_0 _ _
section WI
variable {x : MS} {kd : Nat}
theorem wnt_b (hLim : rLim x) (t : Nat) : 0 ≤ wnt x kd t ∧ wnt x kd t ≤ 1000000 := by
  have h := hLim.2.2.1 (10 * t + kd)
  simp only [isB, Bool.and_eq_true, decide_eq_true_eq, Int32.le_iff_toInt_le] at h
  exact h
theorem uS_mono {L L' : Int} (h : L ≤ L') : ∀ k, uS x kd L k ≤ uS x kd L' k
  | 0 => by rw [uS_0, uS_0]; omega
  | k + 1 => by
    have := uS_mono h k
    rw [uS_s, uS_s]
    omega
theorem uS_bd (hLim : rLim x) {L : Int} (h : 0 ≤ L) : ∀ k, 0 ≤ uS x kd L k ∧ uS x kd L k ≤ k * 1000000
  | 0 => by rw [uS_0]; omega
  | k + 1 => by
    have := uS_bd hLim h k
    have := wnt_b (kd := kd) hLim k
    rw [uS_s]
    omega
theorem uS_inc (L : Int) : ∀ k, uS x kd (L + 1) k = uS x kd L k + cW x kd L k
  | 0 => by rw [uS_0, uS_0, cW_0]; omega
  | k + 1 => by
    have := uS_inc L k
    rw [uS_s, uS_s, cW_s]
    split <;> omega
theorem uS_big (hLim : rLim x) {L : Int} (h : 1000000 ≤ L) : ∀ k, uS x kd L k = uS x kd 1000000 k
  | 0 => by rw [uS_0, uS_0]
  | k + 1 => by
    have := uS_big hLim h k
    have := wnt_b (kd := kd) hLim k
    rw [uS_s, uS_s]
    omega
theorem uS_z (hLim : rLim x) : ∀ k, uS x kd 0 k = 0
  | 0 => uS_0 _ _ _
  | k + 1 => by
    have := uS_z hLim k
    have := wnt_b (kd := kd) hLim k
    rw [uS_s]
    omega
theorem cW_nn (L : Int) : ∀ k, 0 ≤ cW x kd L k
  | 0 => by rw [cW_0]; omega
  | k + 1 => by
    have := cW_nn L k
    rw [cW_s]
    split <;> omega
/-- what is left over after t tables -/
def rmS (x : MS) (kd : Nat) (L r : Int) : Nat → Int
  | 0 => r
  | t + 1 => if L < wnt x kd t ∧ 0 < rmS x kd L r t then rmS x kd L r t - 1 else rmS x kd L r t
def shS (x : MS) (kd : Nat) (L r : Int) (t : Nat) : Int := min (wnt x kd t) L + if L < wnt x kd t ∧ 0 < rmS x kd L r t then 1 else 0
def toS (x : MS) (kd : Nat) (L r : Int) (k : Nat) : Int := itN (fun t s => s + shS x kd L r t) (0 : Int) k
theorem toS_s (x : MS) (kd : Nat) (L r : Int) (k : Nat) : toS x kd L r (k + 1) = toS x kd L r k + shS x kd L r k := rfl
theorem toS_0 (x : MS) (kd : Nat) (L r : Int) : toS x kd L r 0 = 0 := itN_0 _ _
theorem rm_is {L r : Int} (hr : 0 ≤ r) : ∀ k, rmS x kd L r k = max 0 (r - cW x kd L k)
  | 0 => by rw [cW_0]; show r = _; omega
  | k + 1 => by
    have ih := rm_is (L := L) hr k
    have := cW_nn (x := x) (kd := kd) L k
    rw [cW_s]
    show (if L < wnt x kd k ∧ 0 < rmS x kd L r k then rmS x kd L r k - 1 else rmS x kd L r k) = _
    rw [ih]
    by_cases c1 : L < wnt x kd k
    · rw [if_pos c1]
      by_cases c2 : 0 < max 0 (r - cW x kd L k)
      · rw [if_pos ⟨c1, c2⟩]; omega
      · rw [if_neg (fun z => c2 z.2)]; omega
    · rw [if_neg c1, if_neg (fun z => c1 z.1)]; omega
theorem to_is {L r : Int} : ∀ k, toS x kd L r k = uS x kd L k + (r - rmS x kd L r k)
  | 0 => by rw [toS_0, uS_0]; show 0 = 0 + (r - r); omega
  | k + 1 => by
    have ih := to_is (L := L) (r := r) k
    rw [toS_s, uS_s, ih]
    unfold shS
    rw [show rmS x kd L r (k + 1) = if L < wnt x kd k ∧ 0 < rmS x kd L r k then rmS x kd L r k - 1 else rmS x kd L r k from rfl]
    split <;> omega
theorem sh_b (hLim : rLim x) {L r : Int} (hL : 0 ≤ L) (t : Nat) : 0 ≤ shS x kd L r t ∧ shS x kd L r t ≤ wnt x kd t := by
  have := wnt_b (kd := kd) hLim t
  unfold shS
  split <;> omega
/-- two levels that both fit best part alike -/
theorem sh_eq (hLim : rLim x) {A L1 L2 : Int} {k : Nat} (h1 : 0 ≤ L1) (h2 : 0 ≤ L2) (b2 : L2 ≤ 1000000) (u1 : uS x kd L1 k ≤ A) (u2 : uS x kd L2 k ≤ A) (t1 : 1000000 ≤ L1 ∨ A < uS x kd (L1 + 1) k) (t2 : L2 = 1000000 ∨ A < uS x kd (L2 + 1) k) (t : Nat) : shS x kd L1 (A - uS x kd L1 k) t = shS x kd L2 (A - uS x kd L2 k) t ∧ toS x kd L1 (A - uS x kd L1 k) k = min A (uS x kd 1000000 k) := by
  have key : (1000000 ≤ L1 ∧ L2 = 1000000) ∨ L1 = L2 := by
    by_cases c : A < uS x kd 1000000 k
    · refine Or.inr ?_
      have a1 : ¬ 1000000 ≤ L1 := fun z => by have := uS_big (kd := kd) hLim z k; omega
      have a2 : ¬ L2 = 1000000 := fun z => by rw [z] at u2; omega
      have b1 := t1.resolve_left a1
      have b2 := t2.resolve_left a2
      rcases Int.lt_trichotomy L1 L2 with q | q | q
      · have := uS_mono (x := x) (kd := kd) (show L1 + 1 ≤ L2 by omega) k; omega
      · exact q
      · have := uS_mono (x := x) (kd := kd) (show L2 + 1 ≤ L1 by omega) k; omega
    · refine Or.inl ⟨?_, ?_⟩
      · rcases t1 with q | q
        · exact q
        · rcases Int.lt_or_le L1 1000000 with w | w
          · have := uS_mono (x := x) (kd := kd) (show L1 + 1 ≤ 1000000 by omega) k; omega
          · exact w
      · rcases t2 with q | q
        · exact q
        · rcases Int.lt_or_le L2 1000000 with w | w
          · have := uS_mono (x := x) (kd := kd) (show L2 + 1 ≤ 1000000 by omega) k; omega
          · omega
  have w := wnt_b (kd := kd) hLim t
  refine ⟨?_, ?_⟩
  · rcases key with ⟨q1, q2⟩ | q
    · unfold shS
      rw [if_neg (fun z => by omega), if_neg (fun z => by omega)]
      omega
    · rw [q]
  · have T := to_is (x := x) (kd := kd) (L := L1) (r := A - uS x kd L1 k) k
    have R := rm_is (x := x) (kd := kd) (L := L1) (r := A - uS x kd L1 k) (by omega) k
    rw [T, R]
    rcases t1 with q | q
    · have e := uS_big (kd := kd) hLim q k
      have c0 : cW x kd L1 k = 0 := by
        have i1 := uS_inc (x := x) (kd := kd) L1 k
        have i2 := uS_big (kd := kd) hLim (show 1000000 ≤ L1 + 1 by omega) k
        omega
      omega
    · have i1 := uS_inc (x := x) (kd := kd) L1 k
      rcases Int.lt_or_le L1 1000000 with w | w
      · have := uS_mono (x := x) (kd := kd) (show L1 + 1 ≤ 1000000 by omega) k
        omega
      · have e := uS_big (kd := kd) hLim w k
        have e2 := uS_big (kd := kd) hLim (show 1000000 ≤ L1 + 1 by omega) k
        omega
end WI
theorem up_is {x : MS} {kd : Nat} (hLim : rLim x) {lv : Int64} (h0 : 0 ≤ lv.toInt) (h1 : lv.toInt ≤ 2000000) : ∀ k, k ≤ 12 → (upN x kd lv k).toInt = uS x kd lv.toInt k
  | 0, _ => by rw [uS_0, show upN x kd lv 0 = 0 from itN_0 _ _]; rfl
  | k + 1, hk => by
    have ih := up_is (kd := kd) hLim h0 h1 k (by omega)
    have b := uS_bd (kd := kd) hLim h0 k
    have w := wnt_b (kd := kd) hLim k
    have e : (if lv ≤ (mA x 14 (10 * k + kd)).toInt64 then lv else (mA x 14 (10 * k + kd)).toInt64).toInt = min (wnt x kd k) lv.toInt := by
      unfold wnt at w ⊢
      split
      · rename_i c
        rw [Int64.le_iff_toInt_le, Int32.toInt_toInt64] at c
        omega
      · rename_i c
        rw [Int64.le_iff_toInt_le, Int32.toInt_toInt64] at c
        rw [Int32.toInt_toInt64]
        omega
    rw [upN_s, uS_s, i64_add (by rw [ih, e]; omega) (by rw [ih, e]; omega), ih, e]
/-- how much of a kind may go -/
def aS (z : MS) (kd le : Int32) (k : Nat) : Int := itN (fun j s => s + if mA z 5 j = kd ∧ ¬ mA z 7 j < le then (mA z 9 j).toInt else 0) (0 : Int) k
theorem aS_s (z : MS) (kd le : Int32) (k : Nat) : aS z kd le (k + 1) = aS z kd le k + if mA z 5 k = kd ∧ ¬ mA z 7 k < le then (mA z 9 k).toInt else 0 := rfl
theorem aS_0 (z : MS) (kd le : Int32) : aS z kd le 0 = 0 := itN_0 _ _
theorem lot_b {x : MS} (hLim : rLim x) {i : Nat} (hi : i < nN x 4) : 0 ≤ (mA x 9 i).toInt ∧ (mA x 9 i).toInt ≤ 1000000 := by
  have h := (hLim.2.1 i hi).2.2.2.2.1
  simp only [isB, Bool.and_eq_true, decide_eq_true_eq, Int32.le_iff_toInt_le] at h
  exact h
theorem aS_b {x : MS} (hLim : rLim x) (kd le : Int32) : ∀ k, k ≤ nN x 4 → 0 ≤ aS x kd le k ∧ aS x kd le k ≤ k * 1000000
  | 0, _ => by rw [aS_0]; omega
  | k + 1, hk => by
    have := aS_b hLim kd le k (by omega)
    have := lot_b hLim (i := k) (by omega)
    rw [aS_s]
    split <;> omega
theorem part35 (n : Nat × Nat) {x : MS} (o4 : okN x 4 200) (hLim : rLim x) (kd le : Int32) : ∀ (d i fuel : Nat) (a : Int64), i + d = nN x 4 → d < fuel → a.toInt = aS x kd le i → ∃ r, fX12_part_lp35 n x kd le fuel a (nI i) = some r ∧ r.toInt = aS x kd le (nN x 4)
  | d, i, 0, _, _, hf, _ => absurd hf (Nat.not_lt_zero _)
  | d, i, fuel + 1, a, hi, hf, ha => by
    have h200 := o4.2
    unfold fX12_part_lp35
    simp only [bnd, o4.1]
    cases d with
    | zero =>
      rw [if_pos (nI_le (by omega) (by omega))]
      exact ⟨a, rfl, by rw [ha, show i = nN x 4 by omega]⟩
    | succ d =>
      have hlt : i < nN x 4 := by omega
      have ei : (nI i).toNatClampNeg = i := nI_clamp (by omega)
      have hv : ¬ (nI i < 0 ∨ 200 ≤ i) := by
        have := vp_in_nI (n := i) (N := 200) (by omega) (by decide)
        unfold vp_in at this
        rw [ei] at this
        exact this
      have b1 := aS_b hLim kd le i (by omega)
      have b2 := lot_b hLim hlt
      have z0 : (0 : Int64).toInt = 0 := by decide
      rw [if_neg (nI_ge hlt (by omega))]
      simp only [grd, ei, if_pos hv, nI_inc1]
      have s := aS_s x kd le i
      by_cases c1 : mA x 5 i = kd
      · rw [if_pos c1]
        by_cases c2 : mA x 7 i < le
        · rw [if_pos c2]
          rw [if_neg (fun z => z.2 c2)] at s
          exact part35 n o4 hLim kd le d (i + 1) fuel _ (by omega) (by omega) (by rw [i64_add (by omega) (by omega), s]; omega)
        · rw [if_neg c2]
          rw [if_pos ⟨c1, c2⟩] at s
          exact part35 n o4 hLim kd le d (i + 1) fuel _ (by omega) (by omega) (by rw [i64_add (by rw [Int32.toInt_toInt64]; omega) (by rw [Int32.toInt_toInt64]; omega), s, Int32.toInt_toInt64]; omega)
      · rw [if_neg c1]
        rw [if_neg (fun z => c1 z.1)] at s
        exact part35 n o4 hLim kd le d (i + 1) fuel _ (by omega) (by omega) (by rw [i64_add (by omega) (by omega), s]; omega)
theorem ix10 {t kd : Nat} (ht : t < 12) (hk : kd < 10) : (10 : Int32) * nI t + nI kd = nI (10 * t + kd) ∧ (nI (10 * t + kd)).toNatClampNeg = 10 * t + kd ∧ ¬ (nI (10 * t + kd) < 0 ∨ 120 ≤ 10 * t + kd) := by
  have e : (nI (10 * t + kd)).toNatClampNeg = 10 * t + kd := nI_clamp (by omega)
  refine ⟨?_, e, ?_⟩
  · rw [show (10 : Int32) = nI 10 from rfl, pk_mul, nI_add]
  · have := vp_in_nI (n := 10 * t + kd) (N := 120) (by omega) (by decide)
    unfold vp_in at this
    rw [e] at this
    exact this
theorem ev12_upTo (n : Nat × Nat) (hn : 30000 ≤ n.1) {x : MS} (o13 : okN x 13 12) {kd : Nat} (hkd : kd < 10) (lv : Int64) : fX12_upTo n x (nI kd) lv = some (upN x kd lv (nN x 13)) := by
  have h12 := o13.2
  have lp : ∀ (d i fuel : Nat), i + d = nN x 13 → d < fuel → fX12_upTo_lp6 n x (nI kd) lv fuel (upN x kd lv i) (nI i) = some (upN x kd lv (nN x 13)) := by
    intro d i fuel
    induction fuel generalizing d i with
    | zero => intro _ hf; exact absurd hf (Nat.not_lt_zero _)
    | succ fuel ih =>
      intro hi hf
      unfold fX12_upTo_lp6
      simp only [bnd, o13.1]
      by_cases hd : d = 0
      · rw [if_pos (nI_le (by omega) (by omega)), show i = nN x 13 by omega]
      · have hlt : i < nN x 13 := by omega
        obtain ⟨e1, e2, e3⟩ := ix10 (t := i) (kd := kd) (by omega) hkd
        have ih := ih (d - 1) (i + 1) (by omega) (by omega)
        rw [upN_s] at ih
        rw [if_neg (nI_ge hlt (by omega))]
        simp only [e1, e2, grd, if_pos e3, nI_inc1, lg_cmp_ge]
        by_cases c : lv ≤ (mA x 14 (10 * i + kd)).toInt64
        · rw [if_pos c] at ih ⊢
          exact ih
        · rw [if_neg c] at ih ⊢
          exact ih
  have := lp (nN x 13) 0 n.1 (by omega) (by omega)
  rw [show upN x kd lv 0 = 0 from itN_0 _ _, nI_0] at this
  simp only [fX12_upTo, bnd, cal, this]
theorem ev12_spared (n : Nat × Nat) (hn : 30000 ≤ n.1) {x : MS} (o25 : okN x 25 30) (kd : Int32) : fX12_sparedOf n x kd = some (spareN x kd (nN x 25)) := by
  have h30 := o25.2
  have lp : ∀ (d i fuel : Nat), i + d = nN x 25 → d < fuel → fX12_sparedOf_lp4 n x kd fuel (spareN x kd i) (nI i) = some (spareN x kd (nN x 25)) := by
    intro d i fuel
    induction fuel generalizing d i with
    | zero => intro _ hf; exact absurd hf (Nat.not_lt_zero _)
    | succ fuel ih =>
      intro hi hf
      unfold fX12_sparedOf_lp4
      simp only [bnd, o25.1]
      by_cases hd : d = 0
      · rw [if_pos (nI_le (by omega) (by omega)), show i = nN x 25 by omega]
      · have hlt : i < nN x 25 := by omega
        have ei : (nI i).toNatClampNeg = i := nI_clamp (by omega)
        have hv : ¬ (nI i < 0 ∨ 30 ≤ i) := by
          have := vp_in_nI (n := i) (N := 30) (by omega) (by decide)
          unfold vp_in at this
          rw [ei] at this
          exact this
        have ih := ih (d - 1) (i + 1) (by omega) (by omega)
        have st : spareN x kd (i + 1) = if mA x 26 i = 1 ∧ mA x 27 i = kd ∧ ¬ mA x 28 i ≤ spareN x kd i then mA x 28 i else spareN x kd i := rfl
        rw [if_neg (nI_ge hlt (by omega))]
        simp only [grd, ei, if_pos hv, nI_inc1]
        by_cases c1 : mA x 26 i = 1
        · by_cases c2 : mA x 27 i = kd
          · by_cases c3 : mA x 28 i ≤ spareN x kd i
            · rw [st, if_neg (fun z => z.2.2 c3)] at ih
              rw [if_pos c1, if_pos c2, if_pos c3]; exact ih
            · rw [st, if_pos ⟨c1, c2, c3⟩] at ih
              rw [if_pos c1, if_pos c2, if_neg c3]; exact ih
          · rw [st, if_neg (fun z => c2 z.2.1)] at ih
            rw [if_pos c1, if_neg c2]; exact ih
        · rw [st, if_neg (fun z => c1 z.1)] at ih
          rw [if_neg c1]; exact ih
  have := lp (nN x 25) 0 n.1 (by omega) (by omega)
  rw [show spareN x kd 0 = 0 from itN_0 _ _, nI_0] at this
  simp only [fX12_sparedOf, bnd, cal, this]
theorem ev12_next (n : Nat × Nat) (hn : 30000 ≤ n.1) {x : MS} (o4 : okN x 4 200) (o25 : okN x 25 30) (kd : Int32) : fX12_nextOf n x kd = some (nextF x kd) := by
  have h200 := o4.2
  obtain ⟨le, ele⟩ : ∃ q, q = mI x 2 + spareN x kd (nN x 25) := ⟨_, rfl⟩
  have lp : ∀ (d i fuel : Nat), i + d = nN x 4 → d < fuel → fX12_nextOf_lp16 n x kd le fuel (nextN x kd le i) (nI i) = some (nextN x kd le (nN x 4)) := by
    intro d i fuel
    induction fuel generalizing d i with
    | zero => intro _ hf; exact absurd hf (Nat.not_lt_zero _)
    | succ fuel ih =>
      intro hi hf
      unfold fX12_nextOf_lp16
      simp only [bnd, o4.1]
      by_cases hd : d = 0
      · rw [if_pos (nI_le (by omega) (by omega)), show i = nN x 4 by omega]
      · have hlt : i < nN x 4 := by omega
        have ei : (nI i).toNatClampNeg = i := nI_clamp (by omega)
        have hv : ¬ (nI i < 0 ∨ 200 ≤ i) := by
          have := vp_in_nI (n := i) (N := 200) (by omega) (by decide)
          unfold vp_in at this
          rw [ei] at this
          exact this
        have ih := ih (d - 1) (i + 1) (by omega) (by omega)
        rw [nextN_s'] at ih
        rw [if_neg (nI_ge hlt (by omega))]
        simp only [grd, ei, if_pos hv, nI_inc1]
        by_cases c1 : mA x 5 i = kd
        · rw [if_pos c1]
          by_cases c2 : mA x 9 i ≤ 0
          · rw [if_neg (fun z => z.2.1 c2)] at ih
            rw [if_pos c2]; exact ih
          · rw [if_neg c2]
            by_cases c3 : mA x 7 i < le
            · rw [if_neg (fun z => z.2.2.1 c3)] at ih
              rw [if_pos c3]; exact ih
            · rw [if_neg c3]
              by_cases c4 : nextN x kd le i < 0
              · rw [if_pos ⟨c1, c2, c3, Or.inl c4⟩] at ih
                rw [if_pos c4]; exact ih
              · rw [if_neg c4]
                have hg : ¬ (nextN x kd le i < 0 ∨ 200 ≤ (nextN x kd le i).toNatClampNeg) := by
                  rcases nextN_min x kd le i (by omega) with ⟨q, -⟩ | ⟨j, hj, q, -⟩
                  · rw [q] at c4; exact absurd (by decide) c4
                  · rw [q]
                    exact vp_in_nI (by omega) (by decide)
                rw [if_pos hg]
                by_cases c5 : mA x 7 (nextN x kd le i).toNatClampNeg ≤ mA x 7 i
                · rw [if_neg (fun z => z.2.2.2.elim c4 (fun w => w c5))] at ih
                  rw [if_pos c5]; exact ih
                · rw [if_pos ⟨c1, c2, c3, Or.inr c5⟩] at ih
                  rw [if_neg c5]; exact ih
        · rw [if_neg (fun z => c1 z.1)] at ih
          rw [if_neg c1]; exact ih
  have := lp (nN x 4) 0 n.1 (by omega) (by omega)
  rw [show nextN x kd le 0 = -1 from itN_0 _ _, nI_0] at this
  simp only [fX12_nextOf, bnd, cal, ev12_spared n hn o25, ← ele, this]
  unfold nextF
  rw [← ele]
