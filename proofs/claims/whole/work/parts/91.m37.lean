/-! PURE: words and numbers, as the class reads them -/
theorem sByt_b : ∀ w, w < 6 → ∀ i, i < sLen w → 0 ≤ (sByt w i).toInt ∧ (sByt w i).toInt < 128 := by decide
theorem sLen_b : ∀ w, w < 6 → sLen w ≤ 5 := by decide
section NUM
variable {b : Nat → Int32} {len R A : Nat}
theorem ev_isToken (n : Nat × Nat) (hn : 30000 ≤ n.1) {T : CS} (ht : tpe b len R A T) {s e w : Nat} (hs : cI T 122 R = nI s) (he : cI T 123 R = nI e) (hse : s ≤ e) (hel : e ≤ len) (hw : w < 6) : fX5_isToken n T R w = some (bI (tokB b w s e)) := by
  have h400 := ht.2.2.2.2.2.1
  have hlw := sLen_b w hw
  have hsub : nI e - nI s = nI (e - s) := pk_sub hse
  unfold fX5_isToken
  simp only [grd, bnd, cal, ht.1, hs, he, if_true, fS_length, if_pos hw, hsub]
  by_cases c : e - s = sLen w
  · rw [if_pos (by rw [c])]
    have lp : ∀ (d i fuel : Nat), i + d = sLen w → d < fuel → (∀ j, j < i → b (s + j) = sByt w j) → ∃ q, fX5_isToken_lp20 n T R w fuel (nI i) = some q ∧ ((q = 1 ∧ ∀ j, j < sLen w → b (s + j) = sByt w j) ∨ (q = 0 ∧ ¬ ∀ j, j < sLen w → b (s + j) = sByt w j)) := by
      intro d i fuel
      induction fuel generalizing d i with
      | zero => intro _ hf; exact absurd hf (Nat.not_lt_zero _)
      | succ fuel ih =>
        intro hi hf hj
        unfold fX5_isToken_lp20
        simp only [cal, fS_length, grd, if_pos hw]
        by_cases hd : d = 0
        · rw [if_pos (nI_le (by omega) (by omega))]
          exact ⟨1, rfl, Or.inl ⟨rfl, fun j hj2 => hj j (by omega)⟩⟩
        · have hlt : i < sLen w := by omega
          have ei : (nI i).toNatClampNeg = i := nI_clamp (by omega)
          rw [if_neg (nI_ge hlt (by omega))]
          have h7 := (ht.2.2.2.2.2.2 (s + i) (by omega)).1
          simp only [bnd, ht.1, hs, if_true, nI_add, ev_byteAt n ht (s + i) (by omega), if_pos (show s + i < len by omega), fS_charAt, grd, if_pos hw, if_pos (nI_pos (show i < 2 ^ 31 by omega)), if_pos (nI_lt hlt (show sLen w < 2 ^ 31 by omega)), ei]
          by_cases c2 : b (s + i) = sByt w i
          · rw [if_pos ((sgn_eq h7 (sByt_b w hw i hlt)).mpr c2), nI_inc1]
            exact ih (d - 1) (i + 1) (by omega) (by omega) (fun j hj2 => by
              rcases Nat.lt_or_ge j i with q | q
              · exact hj j q
              · rw [show j = i by omega]; exact c2)
          · rw [if_neg (fun z => c2 ((sgn_eq h7 (sByt_b w hw i hlt)).mp z))]
            exact ⟨0, rfl, Or.inr ⟨rfl, fun z => c2 (z i hlt)⟩⟩
    obtain ⟨q, eq, hq⟩ := lp (sLen w) 0 n.1 (by omega) (by omega) (fun j hj => absurd hj (Nat.not_lt_zero _))
    rw [nI_0] at eq
    rw [eq]
    rcases hq with ⟨rfl, hq⟩ | ⟨rfl, hq⟩
    · have : tokB b w s e = true := decide_eq_true ⟨c, hq⟩
      rw [this]; rfl
    · have : tokB b w s e = false := decide_eq_false (fun z => hq z.2)
      rw [this]; rfl
  · rw [if_neg (fun z => c ((nI_eq (by omega) (by omega)).mp z))]
    have : tokB b w s e = false := decide_eq_false (fun z => c z.1)
    rw [this]; rfl
theorem dec_mono (b : Nat → Int32) (s i : Nat) : ∀ j, dec b s i ≤ dec b s (i + j)
  | 0 => Nat.le_refl _
  | j + 1 => by
    have := dec_mono b s i j
    show dec b s i ≤ dec b s (i + j) * 10 + _
    omega
def numR (b : Nat → Int32) (len s most : Nat) : Int32 := if srt b len s = 2 ∧ dec b s (tokE b len s - s) ≤ most then nI (dec b s (tokE b len s - s)) else -1
theorem dig_i {v : Int32} (h : isG v = true) : 48 ≤ v.toInt ∧ v.toInt ≤ 57 := by
  unfold isG isB at h
  simp only [Bool.and_eq_true, decide_eq_true_eq, Int32.le_iff_toInt_le] at h
  exact h
theorem ev_nextNumber (n : Nat × Nat) (hn : 30000 ≤ n.1) {T : CS} (ht : tpe b len R A T) {p most : Nat} (hp : cI T 123 R = nI p) (hl : p ≤ len) (hm : most ≤ 100000) : ∃ T', fX5_nextNumber n T R (nI most) = some (numR b len (tokS b len p) most, T') ∧ Ev T T' [122, 123] [] ∧ cI T' 122 R = nI (tokS b len p) ∧ cI T' 123 R = nI (tokE b len (tokS b len p)) := by
  have h400 := ht.2.2.2.2.2.1
  obtain ⟨T1, e1, ev1, v122, v123⟩ := ev_nextToken n hn ht hp hl
  have ht1 := tpe_ev ev1 (by decide) (by simp) ht
  have sb := tokS_b (b := b) hl
  obtain ⟨s, es⟩ : ∃ q, q = tokS b len p := ⟨_, rfl⟩
  rw [← es] at v122 v123 sb ⊢
  have eb := tokE_b (b := b) sb.2
  obtain ⟨q, eq, sq⟩ := sort_at n ht1 sb.2
  refine ⟨T1, ?_, ev1, v122, v123⟩
  by_cases c : srt b len s = 2
  · have te : tokE b len s = run isG b len 400 s := by unfold tokE; rw [c]; rfl
    have dg := (run_b (b := b) (len := len) isG 400 s sb.2).2.2
    rw [← te] at dg
    obtain ⟨e, ee⟩ : ∃ q, q = tokE b len s := ⟨_, rfl⟩
    have lp : ∀ (d i fuel : Nat), i + d = e - s → d < fuel → dec b s i ≤ most → ∃ r, fX5_nextNumber_lp28 n T1 R (nI most) fuel (nI (dec b s i)) (nI (s + i)) = some r ∧ ((r = (1, nI (dec b s (e - s))) ∧ dec b s (e - s) ≤ most) ∨ (r.1 = 0 ∧ most < dec b s (e - s))) := by
      rw [← ee] at v123 eb dg
      intro d i fuel
      induction fuel generalizing d i with
      | zero => intro _ hf; exact absurd hf (Nat.not_lt_zero _)
      | succ fuel ih =>
        intro hi hf hle
        unfold fX5_nextNumber_lp28
        simp only [grd, bnd, cal, ht1.1, v123, if_true]
        by_cases hd : d = 0
        · rw [if_pos (nI_le (by omega) (by omega))]
          refine ⟨_, rfl, Or.inl ⟨?_, ?_⟩⟩
          · rw [show e - s = i by omega]
          · rw [show e - s = i by omega]; exact hle
        · rw [if_neg (nI_ge (show s + i < e by omega) (by omega)), ev_byteAt n ht1 (s + i) (by omega), if_pos (show s + i < len by omega)]
          have h7 := (ht1.2.2.2.2.2.2 (s + i) (by omega)).1
          have hd9 := dig_i (dg (s + i) (by omega) (by omega))
          have eb2 : (b (s + i)).toInt8.toInt32 = b (s + i) := (sgn_eq h7 (by omega)).mpr rfl
          have ebn : b (s + i) = nI (b (s + i)).toNatClampNeg := by
            apply Int32.toInt.inj
            have : (b (s + i)).toNatClampNeg = (b (s + i)).toInt.toNat := rfl
            rw [nI_toInt (by omega), this]
            omega
          have c48 : 48 ≤ (b (s + i)).toNatClampNeg ∧ (b (s + i)).toNatClampNeg ≤ 57 := by
            have : (b (s + i)).toNatClampNeg = (b (s + i)).toInt.toNat := rfl
            omega
          have ex : nI (dec b s i) * 10 + (b (s + i)).toInt8.toInt32 - 48 = nI (dec b s (i + 1)) := by
            rw [eb2, ebn, show (10 : Int32) = nI 10 from rfl, pk_mul, nI_add, show (48 : Int32) = nI 48 from rfl, pk_sub (by omega)]
            congr 1
            show _ = dec b s i * 10 + _
            omega
          simp only [ex, show s + i + 1 = s + (i + 1) from rfl, nI_inc1]
          have d1 : dec b s (i + 1) = dec b s i * 10 + ((b (s + i)).toNatClampNeg - 48) := rfl
          by_cases c2 : dec b s (i + 1) ≤ most
          · rw [if_pos (nI_le c2 (by omega))]
            exact ih (d - 1) (i + 1) (by omega) (by omega) c2
          · rw [if_neg (nI_ge (a := most) (by omega) (by omega))]
            refine ⟨_, rfl, Or.inr ⟨rfl, ?_⟩⟩
            have := dec_mono b s (i + 1) (d - 1)
            rw [show i + 1 + (d - 1) = e - s by omega] at this
            omega
    obtain ⟨r, er, hr⟩ := lp (e - s) 0 n.1 (by omega) (by omega) (Nat.zero_le _)
    rw [show dec b s 0 = 0 from rfl, nI_0, Nat.add_zero] at er
    have e2 : fX5_sortOf q = 2 := by rw [sq, c]; rfl
    simp only [fX5_nextNumber, grd, bnd, cal, un2, ht.1, e1, ht1.1, v122, eq, e2, if_true, er]
    have nr : numR b len s most = if srt b len s = 2 ∧ dec b s (e - s) ≤ most then nI (dec b s (e - s)) else -1 := by
      unfold numR
      rw [← ee]
    rcases hr with ⟨rfl, hr⟩ | ⟨h0, hr⟩
    · rw [nr, if_pos (show srt b len s = 2 ∧ dec b s (e - s) ≤ most from ⟨c, hr⟩)]; rfl
    · rw [nr, if_neg (show ¬ (srt b len s = 2 ∧ dec b s (e - s) ≤ most) from fun z => by omega)]
      obtain ⟨r1, r2⟩ := r
      have h0 : r1 = 0 := h0
      subst h0
      rfl
  · have e2 : ¬ fX5_sortOf q = 2 := by
      rw [sq]
      rcases srt_3 (b := b) (len := len) s with w | w | w | w
      · rw [w]; decide
      · rw [w]; decide
      · exact absurd w c
      · rw [w]; decide
    simp only [fX5_nextNumber, grd, bnd, cal, un2, ht.1, e1, ht1.1, v122, eq, if_neg e2, if_true]
    unfold numR
    rw [if_neg (fun z => c z.1)]
end NUM
