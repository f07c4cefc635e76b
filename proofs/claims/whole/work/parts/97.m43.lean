/-! PURE: a rule, the text -/
section SIM3
variable {M : Nat → Nat → Nat} {b : Nat → Int32} {len : Nat}
theorem rule_sim (n : Nat × Nat) (hn : 30000 ≤ n.1) {s m : Nat} {T : CS} {y : MS} (h : SY M b len s m T y) (hm : m < 30) : ∃ T' y' q, fX5_readRule n T (M 0 8) = some (q, T') ∧ fX12_readRule n y = some y' ∧ ((q = 0 ∧ BD M T y T' y') ∨ (q = 1 ∧ GD M b len (m + 1) T y T' y')) := by
  have t0 := h.2.1.1
  have z64 : mI y 64 = 0 := h.2.2.2.2.2.1.2.2.2.2.2.2
  have z31 : mI y 31 = nI m := h.2.2.2.2.2.2.2.1
  have n30 : ¬ (30 : Int32) ≤ nI m := nI_ge (a := m) (b := 30) hm (by decide)
  obtain ⟨y1, e1, ah, rk⟩ := ref_step n hn h
  have J : ∀ z : Int32, ¬ z < 0 → j62 n z y = j89 n z y1 := fun z hz => by
    unfold j62
    rw [if_neg hz]
    simp only [bnd, z31, if_neg n30]
    rw [j82_is, must_ok z64 n10 e1]
    rfl
  obtain ⟨q0, c0, d0, h0⟩ := word_step n hn h (w := 0) (by decide) (show fX12_word 110 101 101 100 0 = wrd 0 from rfl)
  obtain ⟨q1, c1, d1, h1⟩ := word_step n hn h (w := 1) (by decide) (show fX12_word 115 112 97 114 101 = wrd 1 from rfl)
  obtain ⟨q2, c2, d2, h2⟩ := word_step n hn h (w := 2) (by decide) (show fX12_word 115 119 97 112 0 = wrd 2 from rfl)
  rw [rule_un]
  rcases h0 with rfl | rfl
  · rcases h1 with rfl | rfl
    · rcases h2 with rfl | rfl
      · have bd := bad_at h
        refine ⟨T, _, 0, ?_, ?_, Or.inl ⟨rfl, bd⟩⟩
        · simp only [fX5_readRule, grd, cal, t0, if_true, c0, c1, c2]
        · simp only [cal, d0, d1, d2, if_true]
          unfold j62
          rw [if_pos (by decide), j82_is, must_no z64]
          exact j89_bad n (-1) (BD_nz bd)
      · obtain ⟨T', y', q, g1, g2, g3⟩ := swap_sim n hn ah hm
        rcases g3 with ⟨rfl, g3⟩ | ⟨rfl, g3⟩
        · refine ⟨T', y', 0, ?_, ?_, Or.inl ⟨rfl, BD_tr (EvR_rf M T) rk g3⟩⟩
          · simp only [fX5_readRule, grd, cal, un2, t0, if_true, c0, c1, c2, if_neg n10, g1]
          · simp only [cal, d0, d1, d2, if_true, if_neg n10, J 2 (by decide), g2]
        · refine ⟨T', y', 1, ?_, ?_, Or.inr ⟨rfl, by obtain ⟨s', a, e, r⟩ := g3; exact ⟨s', a, e, RkG_tr rk r⟩⟩⟩
          · simp only [fX5_readRule, grd, cal, un2, t0, if_true, c0, c1, c2, if_neg n10, g1]
          · simp only [cal, d0, d1, d2, if_true, if_neg n10, J 2 (by decide), g2]
    · obtain ⟨T', y', q, g1, g2, g3⟩ := spare_sim n hn ah hm
      have hq : q = 0 ∨ q = 1 := by rcases g3 with ⟨e, -⟩ | ⟨e, -⟩; exact Or.inl e; exact Or.inr e
      refine ⟨T', y', q, ?_, ?_, ?_⟩
      · simp only [fX5_readRule, grd, cal, un2, t0, if_true, c0, c1, if_neg n10, g1, if_pos hq]
      · simp only [cal, d0, d1, if_true, if_neg n10, J 1 (by decide), g2]
      · rcases g3 with ⟨e, g3⟩ | ⟨e, s', a, ev, r⟩
        · exact Or.inl ⟨e, BD_tr (EvR_rf M T) rk g3⟩
        · exact Or.inr ⟨e, s', a, ev, RkG_tr rk r⟩
  · obtain ⟨T', y', q, g1, g2, g3⟩ := need_sim n hn ah hm
    have hq : q = 0 ∨ q = 1 := by rcases g3 with ⟨e, -⟩ | ⟨e, -⟩; exact Or.inl e; exact Or.inr e
    refine ⟨T', y', q, ?_, ?_, ?_⟩
    · simp only [fX5_readRule, grd, cal, un2, t0, if_true, c0, if_neg n10, g1, if_pos hq]
    · simp only [cal, d0, if_neg n10, J 0 (by decide), g2]
    · rcases g3 with ⟨e, g3⟩ | ⟨e, s', a, ev, r⟩
      · exact Or.inl ⟨e, BD_tr (EvR_rf M T) rk g3⟩
      · exact Or.inr ⟨e, s', a, ev, RkG_tr rk r⟩
/-- no room for another rule -/
theorem full_sim (n : Nat × Nat) (hn : 30000 ≤ n.1) {s : Nat} {T : CS} {y : MS} (h : SY M b len s 30 T y) : ∃ y', fX12_readRule n y = some y' ∧ BD M T y T y' := by
  have z64 : mI y 64 = 0 := h.2.2.2.2.2.1.2.2.2.2.2.2
  have z31 : mI y 31 = nI 30 := h.2.2.2.2.2.2.2.1
  have bd := bad_at h
  have J : ∀ z : Int32, j62 n z y = some (sI (sI y 64 1) 63 (mI y 59)) := fun z => by
    have e : j82 n z 0 y = some (sI (sI y 64 1) 63 (mI y 59)) := by
      rw [j82_is, must_no z64]
      exact j89_bad n z (BD_nz bd)
    unfold j62
    simp only [bnd, z31, e]
    rw [if_pos (show (30 : Int32) ≤ nI 30 by decide)]
    split <;> rfl
  refine ⟨_, ?_, bd⟩
  rw [rule_un]
  simp only [isWord_is, cal, J]
  repeat' split
  all_goals rfl
theorem ev_behind (n : Nat × Nat) {s m : Nat} {T : CS} {y : MS} (h : SY M b len s m T y) : fX5_isBehindText n T (M 0 8) = some (if srt b len s = 0 then 1 else 0) := by
  have h400 := h.2.1.2.2.2.2.2.1
  have hs := h.1
  simp only [fX5_isBehindText, grd, bnd, h.2.1.1, h.2.2.2.1, h.2.1.2.1, if_true]
  by_cases c : s < len
  · rw [if_pos (nI_lt c (by omega))]
    have : ¬ srt b len s = 0 := by
      unfold srt
      rw [if_neg (by omega)]
      split
      · decide
      · split <;> decide
    rw [if_neg this]
  · rw [if_neg (show ¬ nI s < nI len from fun w => by have := (nI_ltI (a := s) (b := len) (by omega) (by omega)).mp w; omega), show srt b len s = 0 from if_pos (by omega), if_pos rfl]
/-- how the reading of the rules ends -/
def END (M : Nat → Nat → Nat) (b : Nat → Int32) (len : Nat) (T : CS) (y : MS) (e : Nat) (T' : CS) (y' : MS) : Prop := (e = 1 ∧ ∃ s m, m ≤ 30 ∧ SY M b len s m T' y' ∧ srt b len s = 0 ∧ EvR M T T' ∧ RkG y y') ∨ (e ≠ 1 ∧ e < 4 ∧ BD M T y T' y') ∨ (e ≠ 1 ∧ e < 4 ∧ ∃ s m, SY M b len s m T' y' ∧ srt b len s ≠ 0 ∧ EvR M T T' ∧ RkG y y')
theorem END_tr {T0 T : CS} {y0 y : MS} {e : Nat} {T' : CS} {y' : MS} (ev : EvR M T0 T) (rk : RkG y0 y) (h : END M b len T y e T' y') : END M b len T0 y0 e T' y' := by
  rcases h with ⟨a, s, m, b1, b2, b3, b4, b5⟩ | ⟨a, a2, h⟩ | ⟨a, a2, s, m, b2, b3, b4, b5⟩
  · exact Or.inl ⟨a, s, m, b1, b2, b3, EvR_tr ev b4, RkG_tr rk b5⟩
  · exact Or.inr (Or.inl ⟨a, a2, BD_tr ev rk h⟩)
  · exact Or.inr (Or.inr ⟨a, a2, s, m, b2, b3, EvR_tr ev b4, RkG_tr rk b5⟩)
theorem text_sim (n : Nat × Nat) (hn : 30000 ≤ n.1) : ∀ (d m fuel fuel2 s : Nat) (T : CS) (y : MS), m + d = 30 → d < fuel → d < fuel2 → SY M b len s m T y → ∃ T' y' e, fX5_readText_lp28 n (M 0 8) fuel (nI m) T = some (e, T') ∧ cal (fX12_readRule n y) (fun S37 => fX12_rules_lp40 n fuel2 S37) = some y' ∧ END M b len T y e T' y'
  | d, m, 0, _, _, _, _, _, hf, _, _ => absurd hf (Nat.not_lt_zero _)
  | d, m, _, 0, _, _, _, _, _, hf, _ => absurd hf (Nat.not_lt_zero _)
  | d, m, fuel + 1, fuel2 + 1, s, T, y, hd, hf, hf2, h => by
    have lpbad : ∀ y1 : MS, ¬ mI y1 64 = 0 → fX12_rules_lp40 n (fuel2 + 1) y1 = some y1 := fun y1 hz => by
      simp only [fX12_rules_lp40, bnd, if_neg hz]
    unfold fX5_readText_lp28
    by_cases hd0 : d = 0
    · have hm : m = 30 := by omega
      subst hm
      rw [if_pos (show (30 : Int32) ≤ nI 30 by decide)]
      obtain ⟨y', e1, bd⟩ := full_sim n hn h
      exact ⟨T, y', 3, rfl, by simp only [cal, e1, lpbad y' (BD_nz bd)], Or.inr (Or.inl ⟨by decide, by decide, bd⟩)⟩
    · have hm : m < 30 := by omega
      rw [if_neg (show ¬ (30 : Int32) ≤ nI m from nI_ge (a := m) (b := 30) hm (by decide))]
      have t0 := h.2.1.1
      obtain ⟨T1, y1, q, c1, e1, o1⟩ := rule_sim n hn h hm
      rcases o1 with ⟨rfl, bd⟩ | ⟨rfl, s1, sy1, ev1, rk1⟩
      · exact ⟨T1, y1, 0, by simp only [grd, cal, un2, t0, if_true, c1], by simp only [cal, e1, lpbad y1 (BD_nz bd)], Or.inr (Or.inl ⟨by decide, by decide, bd⟩)⟩
      · have t1 := sy1.2.1.1
        have bh := ev_behind n sy1
        have z64 : mI y1 64 = 0 := sy1.2.2.2.2.2.1.2.2.2.2.2.2
        have z61 := sy1.2.2.2.2.2.1.2.2.2.2.1
        have z62 := sy1.2.2.2.2.2.1.2.2.2.2.2.1
        have s3 : (mI y1 61 = 3) ↔ srt b len s1 = 3 := by
          rw [z61]
          rcases srt_3 (b := b) (len := len) s1 with w | w | w | w <;> rw [w] <;> decide
        by_cases c0 : srt b len s1 = 0
        · rw [if_pos c0] at bh
          refine ⟨T1, y1, 1, by simp only [grd, cal, un2, t0, if_true, c1, if_neg n10, t1, bh], ?_, Or.inl ⟨rfl, s1, m + 1, by omega, sy1, c0, ev1, rk1⟩⟩
          simp only [cal, e1, fX12_rules_lp40, bnd, z64, if_true, if_neg (show ¬ mI y1 61 = 3 from fun w => by rw [s3.mp w] at c0; cases c0)]
        · rw [if_neg c0] at bh
          have hb := tokE_b (b := b) sy1.1
          have tk := ev_isToken n hn sy1.2.1 sy1.2.2.2.1 sy1.2.2.2.2.1 hb.1 hb.2 (w := 5) (by decide)
          have se := semi_eq (b := b) sy1.1 (fun i hi => (sy1.2.1.2.2.2.2.2.2 i hi).1)
          cases ct : tokB b 5 s1 (tokE b len s1)
          · rw [ct] at tk
            have ns : ¬ (mI y1 61 = 3 ∧ mL y1 62 = 59) := fun w => by
              have := se.mp ⟨s3.mp w.1, by rw [← z62]; exact w.2⟩
              rw [ct] at this; cases this
            refine ⟨T1, y1, 2, by simp only [grd, cal, un2, t0, if_true, c1, if_neg n10, t1, bh, tk, bI, Bool.false_eq_true, if_false], ?_, Or.inr (Or.inr ⟨by decide, by decide, s1, m + 1, sy1, c0, ev1, rk1⟩)⟩
            simp only [cal, e1, fX12_rules_lp40, bnd, z64, if_true, lg_cmp_eq]
            by_cases w1 : mI y1 61 = 3
            · rw [if_pos w1, if_neg (fun w => ns ⟨w1, w⟩)]
            · rw [if_neg w1]
          · rw [ct] at tk
            have ys := se.mpr ct
            have w1 : mI y1 61 = 3 := s3.mpr ys.1
            have w2 : mL y1 62 = 59 := by rw [z62]; exact ys.2
            obtain ⟨y2, e2, ah, rk2⟩ := ref_step n hn sy1
            obtain ⟨T2, c2, sy2, ev2⟩ := tok_step n hn ah
            obtain ⟨T', y', e, c3, e3, o3⟩ := text_sim n hn (d - 1) (m + 1) fuel fuel2 _ T2 y2 (by omega) (by omega) (by omega) sy2
            refine ⟨T', y', e, ?_, ?_, END_tr (EvR_tr ev1 ev2) (RkG_tr rk1 rk2) o3⟩
            · simp only [grd, cal, un2, bnd, t0, if_true, c1, if_neg n10, t1, bh, tk, bI, c2, nI_inc1, c3]
            · simp only [cal] at e3
              simp only [cal, e1, fX12_rules_lp40, bnd, z64, if_true, lg_cmp_eq, w1, w2, e2]
              exact e3
end SIM3
