/-! PURE: a rule read on both sides -/
def RF (b : Nat → Int32) (len s : Nat) (y : MS) : Prop := mI y 58 = nI len ∧ mA y 57 = b ∧ mI y 59 = nI s ∧ mI y 60 = nI (tokE b len s) ∧ mI y 61 = nI (srt b len s) ∧ mL y 62 = wrt b len s ∧ mI y 64 = 0
def AH (M : Nat → Nat → Nat) (b : Nat → Int32) (len p m : Nat) (T : CS) (y : MS) : Prop := p ≤ len ∧ tpe b len (M 0 8) (M 0 9) T ∧ dft M T ∧ cI T 123 (M 0 8) = nI p ∧ RF b len (tokS b len p) y ∧ lkd M m T y
def SY (M : Nat → Nat → Nat) (b : Nat → Int32) (len s m : Nat) (T : CS) (y : MS) : Prop := s ≤ len ∧ tpe b len (M 0 8) (M 0 9) T ∧ dft M T ∧ cI T 122 (M 0 8) = nI s ∧ cI T 123 (M 0 8) = nI (tokE b len s) ∧ RF b len s y ∧ lkd M m T y
def EvR (M : Nat → Nat → Nat) (T T' : CS) : Prop := Ev T T' [122, 123, 144] [42, 43, 44, 45] ∧ offD M T T'
def RkR (y y' : MS) : Prop := Rk y y' [59, 60, 61, 63, 64, 31] [30]
theorem EvR_tr {M : Nat → Nat → Nat} {T U V : CS} (h : EvR M T U) (h2 : EvR M U V) : EvR M T V := by
  have nz : ∀ q, cD T q ≠ 0 → cD U q ≠ 0 := fun q hq => by rw [h.1.2.2]; exact hq
  obtain ⟨h, a1, a2, a3, a4, a5⟩ := h
  obtain ⟨h2, b1, b2, b3, b4, b5⟩ := h2
  exact ⟨Ev_mono (Ev_tr h h2) (by simp) (by simp), fun q hz hq => (b1 q (nz q hz) hq).trans (a1 q hz hq), fun q hz hq => (b2 q (nz q hz) hq).trans (a2 q hz hq), fun q hz hq => (b3 q (nz q hz) hq).trans (a3 q hz hq), fun q hz hq => (b4 q (nz q hz) hq).trans (a4 q hz hq), fun q hz hq => (b5 q (nz q hz) hq).trans (a5 q hz hq)⟩
theorem EvR_of {M : Nat → Nat → Nat} {T T' : CS} (h : Ev T T' [122, 123] []) : EvR M T T' := ⟨Ev_mono h (by simp) (by simp), fun q hz _ => h.1.2.1 144 (by decide) q hz, fun q hz _ => h.1.2.2.2.1 42 (by simp) q hz, fun q hz _ => h.1.2.2.2.1 43 (by simp) q hz, fun q hz _ => h.1.2.2.2.1 44 (by simp) q hz, fun q hz _ => h.1.2.2.2.1 45 (by simp) q hz⟩
theorem RkR_tr {x y z : MS} (h : RkR x y) (h2 : RkR y z) : RkR x z := Rk_mono (Rk_tr h h2) (by simp) (by simp)
def RkG (y y' : MS) : Prop := Rk y y' [59, 60, 61, 31] [30]
theorem RkG_tr {x y z : MS} (h : RkG x y) (h2 : RkG y z) : RkG x z := Rk_mono (Rk_tr h h2) (by simp) (by simp)
theorem RkG_rf (y : MS) : RkG y y := Rk_mono (Rk_rf y) (by simp) (by simp)
theorem RkG_R {y y' : MS} (h : RkG y y') : RkR y y' := Rk_mono h (by simp) (by simp)
theorem EvR_rf (M : Nat → Nat → Nat) (T : CS) : EvR M T T := EvR_of (Ev_mono (Ev_rf T) (by simp) (by simp))
theorem RkR_rf (y : MS) : RkR y y := Rk_mono (Rk_rf y) (by simp) (by simp)
/-- it ended badly at s -/
def BD (M : Nat → Nat → Nat) (T0 : CS) (y0 : MS) (T : CS) (y : MS) : Prop := ∃ s, cI T 122 (M 0 8) = nI s ∧ mI y 64 = 1 ∧ mI y 63 = nI s ∧ EvR M T0 T ∧ RkR y0 y
section SIM
variable {M : Nat → Nat → Nat} {b : Nat → Int32} {len : Nat}
theorem bad_at {s m : Nat} {T : CS} {y : MS} (h : SY M b len s m T y) : BD M T y T (sI (sI y 64 1) 63 (mI y 59)) := ⟨s, h.2.2.2.1, rfl, h.2.2.2.2.2.1.2.2.1, EvR_rf M T, Rk_mono (Rk_tr (Rk_sI y 64 1) (Rk_sI _ 63 (mI y 59))) (by simp) (by simp)⟩
theorem BD_tr {T0 T1 T2 : CS} {y0 y1 y2 : MS} (e : EvR M T0 T1) (r : RkG y0 y1) (h : BD M T1 y1 T2 y2) : BD M T0 y0 T2 y2 := by
  obtain ⟨s, a, c, d, f, g⟩ := h
  exact ⟨s, a, c, d, EvR_tr e f, RkR_tr (RkG_R r) g⟩
theorem BD_nz {T0 T : CS} {y0 y : MS} (h : BD M T0 y0 T y) : ¬ mI y 64 = 0 := by
  obtain ⟨s, a, c, d⟩ := h
  rw [c]; decide
theorem tok_step (n : Nat × Nat) (hn : 30000 ≤ n.1) {p m : Nat} {T : CS} {y : MS} (h : AH M b len p m T y) : ∃ T1, fX5_nextToken n T (M 0 8) = some T1 ∧ SY M b len (tokS b len p) m T1 y ∧ EvR M T T1 := by
  obtain ⟨h1, h2, h3, h4, h5, h6⟩ := h
  obtain ⟨T1, e, ev, v1, v2⟩ := ev_nextToken n hn h2 h4 h1
  exact ⟨T1, e, ⟨(tokS_b h1).2, tpe_ev ev (by decide) (by simp) h2, dft_ev ev h3, v1, v2, h5, lkd_ev ev (Rk_rf y) (by decide) rfl h3 h6⟩, EvR_of ev⟩
theorem ref_step (n : Nat × Nat) (hn : 30000 ≤ n.1) {s m : Nat} {T : CS} {y : MS} (h : SY M b len s m T y) : ∃ y1, fX12_next n y = some y1 ∧ AH M b len (tokE b len s) m T y1 ∧ RkG y y1 := by
  obtain ⟨h1, h2, h3, h4, h5, h6, h7⟩ := h
  obtain ⟨g58, g57, g59, g60, g61, g62, g64⟩ := h6
  have hb := tokE_b (b := b) h1
  obtain ⟨y1, e, k, v1, v2, v3, v4⟩ := ev12_nextT n hn h2.2.2.2.2.2.1 g58 g57 g60 hb.2
  exact ⟨y1, e, ⟨hb.2, h2, h3, h5, ⟨(k.1 58 rfl).trans g58, (k.2.1 57 rfl).trans g57, v1, v2, v3, v4, (k.1 64 rfl).trans g64⟩, lkd_ev (Ev_rf T) k (by simp) rfl h3 h7⟩, Rk_mono k (by simp) (by simp)⟩
theorem num_step (n : Nat × Nat) (hn : 30000 ≤ n.1) {p m most : Nat} {mo : Int64} (hm : most ≤ 100000) (hmo : mo.toInt = most) {T : CS} {y : MS} (h : AH M b len p m T y) : ∃ T1 r y1 q, fX5_nextNumber n T (M 0 8) (nI most) = some (r, T1) ∧ fX12_number n y mo = some (q, y1) ∧ ((r = -1 ∧ BD M T y T1 y1) ∨ ∃ v, v ≤ most ∧ r = nI v ∧ q = nI v ∧ AH M b len (tokE b len (tokS b len p)) m T1 y1 ∧ EvR M T T1 ∧ RkG y y1) := by
  obtain ⟨h1, h2, h3, h4, h5, h6⟩ := h
  obtain ⟨T1, e, ev, v1, v2⟩ := ev_nextNumber n hn h2 h4 h1 hm
  have sb := tokS_b (b := b) h1
  have sy : SY M b len (tokS b len p) m T1 y := ⟨sb.2, tpe_ev ev (by decide) (by simp) h2, dft_ev ev h3, v1, v2, h5, lkd_ev ev (Rk_rf y) (by decide) rfl h3 h6⟩
  obtain ⟨s, es⟩ : ∃ q, q = tokS b len p := ⟨_, rfl⟩
  rw [← es] at e v1 v2 sb sy h5 ⊢
  obtain ⟨g58, g57, g59, g60, g61, g62, g64⟩ := h5
  have evr : EvR M T T1 := EvR_of ev
  have nis := number_is (n := n) g64 mo
  have s2 : (mI y 61 = 2) ↔ srt b len s = 2 := by
    rw [g61]
    rcases srt_3 (b := b) (len := len) s with w | w | w | w <;> rw [w] <;> decide
  by_cases c : srt b len s = 2
  · have ne := num_eq (b := b) sb.2 hm hmo c
    by_cases c2 : dec b s (tokE b len s - s) ≤ most
    · obtain ⟨y1, e1, a1, r1⟩ := ref_step n hn sy
      rw [if_pos ⟨s2.mpr c, by rw [g62]; exact ne.1.mpr c2⟩, must_ok g64 n10 e1] at nis
      refine ⟨T1, numR b len s most, y1, (mL y 62).toInt32, e, by rw [nis]; rfl, Or.inr ⟨dec b s (tokE b len s - s), c2, if_pos ⟨c, c2⟩, by rw [g62]; exact (ne.2 c2).1, a1, evr, r1⟩⟩
    · rw [if_neg (fun w => c2 (ne.1.mp (by rw [← g62]; exact w.2)))] at nis
      exact ⟨T1, numR b len s most, _, _, e, nis, Or.inl ⟨if_neg (fun w => c2 w.2), BD_tr evr (RkG_rf y) (bad_at sy)⟩⟩
  · rw [if_neg (fun w => c (s2.mp w.1))] at nis
    exact ⟨T1, numR b len s most, _, _, e, nis, Or.inl ⟨if_neg (fun w => c w.1), BD_tr evr (RkG_rf y) (bad_at sy)⟩⟩
theorem word_step (n : Nat × Nat) (hn : 30000 ≤ n.1) {s m w : Nat} {T : CS} {y : MS} (h : SY M b len s m T y) (hw : w < 5) {a1 a2 a3 a4 a5 : Int32} (ha : fX12_word a1 a2 a3 a4 a5 = wrd w) : ∃ q, fX5_isToken n T (M 0 8) w = some q ∧ fX12_isWord n y a1 a2 a3 a4 a5 = some q ∧ (q = 0 ∨ q = 1) := by
  obtain ⟨h1, h2, h3, h4, h5, ⟨g58, g57, g59, g60, g61, g62, g64⟩, h7⟩ := h
  have hb := tokE_b (b := b) h1
  refine ⟨_, ev_isToken n hn h2 h4 h5 hb.1 hb.2 (by omega), ?_, ?_⟩
  · rw [isWord_is, ha, g61, g62]
    congr 2
    rw [Bool.eq_iff_iff, decide_eq_true_eq, ← word_eq h1 hw]
    have s1 : (nI (srt b len s) = 1) ↔ srt b len s = 1 := by
      rcases srt_3 (b := b) (len := len) s with w | w | w | w <;> rw [w] <;> decide
    rw [s1]
  · cases tokB b w s (tokE b len s)
    · exact Or.inl rfl
    · exact Or.inr rfl
theorem ruN {v a c : Nat} (hv : v < 3) (ha : a ≤ 9) (h2 : v = 2 → c ≤ 9) (h1 : v = 1 → c ≤ 1000) (h0 : v = 0 → c ≤ 100000) : ruOk (nI v) (nI a) (nI c) := by
  have B : ∀ (q t : Nat), q ≤ t → t < 1000000 → isB (nI q) 0 (nI t) = true := fun q t h ht => by
    simp only [isB, Bool.and_eq_true, decide_eq_true_eq]
    exact ⟨nI_le (a := 0) (Nat.zero_le _) (by omega), nI_le h (by omega)⟩
  refine ⟨B v 2 (by omega) (by decide), B a 9 ha (by decide), fun e => B c 9 (h2 ?_) (by decide), fun e => B c 1000 (h1 ?_) (by decide), fun e => B c 100000 (h0 ?_) (by decide)⟩
  · exact (nI_eq (b := 2) (by omega) (by decide)).mp e
  · exact (nI_eq (b := 1) (by omega) (by decide)).mp e
  · exact (nI_eq (b := 0) (by omega) (by decide)).mp e
/-- a rule is laid down -/
theorem lay_step (n : Nat × Nat) {s m : Nat} {T : CS} {y : MS} (h : SY M b len s m T y) (hm : m < 30) {v a c d d2 : Int32} (hru : ruOk v a c) (hdd : v = 0 → d2 = d) : ∃ T1, fX6_add n T (M 13 1) (v + 1) a c d2 = some T1 ∧ SY M b len s (m + 1) T1 (addR y m v a c d) ∧ EvR M T T1 ∧ RkG y (addR y m v a c d) := by
  obtain ⟨h1, h2, h3, h4, h5, h6, h7⟩ := h
  obtain ⟨T1, e, ev, off, lk⟩ := ev_add6 n h3 h7 hm hru hdd
  refine ⟨T1, e, ⟨h1, tpe_ev ev (by decide) (by decide) h2, dft_ev ev h3, kI ev.1 h2.1 (by decide) (by decide) h4, kI ev.1 h2.1 (by decide) (by decide) h5, h6, lk⟩, ⟨Ev_mono ev (by simp) (by simp), off⟩, ?_⟩
  refine ⟨fun f hf => ?_, fun f hf => ?_, fun _ _ => rfl, fun _ => rfl⟩
  · show (if f = 31 then _ else mI y f) = mI y f
    rw [if_neg (fun w => by rw [w] at hf; exact absurd hf (by decide))]
  · show (if f = 30 then _ else mA y f) = mA y f
    rw [if_neg (fun w => by rw [w] at hf; exact absurd hf (by decide))]
/-- it went well -/
def GD (M : Nat → Nat → Nat) (b : Nat → Int32) (len m : Nat) (T0 : CS) (y0 : MS) (T : CS) (y : MS) : Prop := ∃ s, SY M b len s m T y ∧ EvR M T0 T ∧ RkG y0 y
end SIM
