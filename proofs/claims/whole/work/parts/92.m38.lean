/-! PURE: tokens, words and numbers, as the reference reads them -/
def Rk (y y' : MS) (LI LA : List Nat) : Prop := (∀ f, LI.contains f = false → mI y' f = mI y f) ∧ (∀ f, LA.contains f = false → mA y' f = mA y f) ∧ (∀ f, [62].contains f = false → mL y' f = mL y f) ∧ ∀ f, mB y' f = mB y f
theorem Rk_rf (y : MS) : Rk y y [] [] := ⟨fun _ _ => rfl, fun _ _ => rfl, fun _ _ => rfl, fun _ => rfl⟩
theorem cont_app {a b : List Nat} {f : Nat} (h : (a ++ b).contains f = false) : a.contains f = false ∧ b.contains f = false := by
  rw [List.contains_append, Bool.or_eq_false_iff] at h
  exact h
theorem Rk_tr {x y z : MS} {a b c d : List Nat} (h : Rk x y a b) (h2 : Rk y z c d) : Rk x z (a ++ c) (b ++ d) := ⟨fun f hf => (h2.1 f (cont_app hf).2).trans (h.1 f (cont_app hf).1), fun f hf => (h2.2.1 f (cont_app hf).2).trans (h.2.1 f (cont_app hf).1), fun f hf => (h2.2.2.1 f hf).trans (h.2.2.1 f hf), fun f => (h2.2.2.2 f).trans (h.2.2.2 f)⟩
theorem cont_mono {a b : List Nat} (h : ∀ g ∈ a, g ∈ b) {f : Nat} (hf : b.contains f = false) : a.contains f = false := by
  cases c : a.contains f
  · rfl
  · have := h f (List.contains_iff_mem.mp c)
    rw [List.contains_iff_mem.mpr this] at hf
    exact absurd hf (by decide)
theorem Rk_mono {x y : MS} {a b a' b' : List Nat} (h : Rk x y a b) (h1 : ∀ g ∈ a, g ∈ a') (h2 : ∀ g ∈ b, g ∈ b') : Rk x y a' b' := ⟨fun f hf => h.1 f (cont_mono h1 hf), fun f hf => h.2.1 f (cont_mono h2 hf), h.2.2⟩
theorem Rk_sI (y : MS) (k : Nat) (v : Int32) : Rk y (sI y k v) [k] [] := ⟨fun f hf => by
    rw [mI_sI, if_neg (fun e => by rw [e] at hf; simp at hf)], fun _ _ => rfl, fun _ _ => rfl, fun _ => rfl⟩
theorem Rk_sL (y : MS) (v : Int64) : Rk y (sL y 62 v) [] [] := ⟨fun _ _ => rfl, fun _ _ => rfl, fun f hf => by
    show (if f = 62 then v else mL y f) = mL y f
    rw [if_neg (fun e => by rw [e] at hf; exact absurd hf (by decide))], fun _ => rfl⟩
theorem mL_62 (y : MS) (v : Int64) : mL (sL y 62 v) 62 = v := rfl
def wv (b : Nat → Int32) (s : Nat) : Nat → Int64
  | 0 => 0
  | k + 1 => if k < 6 then wv b s k * 32 + (b (s + k)).toInt64 - 96 else -1
def dv (b : Nat → Int32) (s : Nat) : Nat → Int64
  | 0 => 0
  | k + 1 => if dv b s k ≤ 1000000 then dv b s k * 10 + (b (s + k)).toInt64 - 48 else dv b s k
def wrt (b : Nat → Int32) (len s : Nat) : Int64 := if srt b len s = 1 then wv b s (tokE b len s - s) else if srt b len s = 2 then dv b s (tokE b len s - s) else if srt b len s = 3 then (b s).toInt64 else 0
theorem sm_is (v : Int32) : fX12_isSmall v = bI (isS v) := by
  unfold fX12_isSmall isS
  by_cases h1 : v < 97
  · rw [if_pos h1]; exact isB_1 h1
  · rw [if_neg h1]
    by_cases h2 : 122 < v
    · rw [if_pos h2]; exact isB_2 h2
    · rw [if_neg h2]; exact isB_3 h1 h2
theorem dg_is (v : Int32) : fX12_isDigit v = bI (isG v) := by
  unfold fX12_isDigit isG
  by_cases h1 : v < 48
  · rw [if_pos h1]; exact isB_1 h1
  · rw [if_neg h1]
    by_cases h2 : 57 < v
    · rw [if_pos h2]; exact isB_2 h2
    · rw [if_neg h2]; exact isB_3 h1 h2
section REFN
variable {b : Nat → Int32} {len : Nat}
theorem ix400 {i : Nat} (h : i < 400) : (nI i).toNatClampNeg = i ∧ ¬ (nI i < 0 ∨ 400 ≤ i) := by
  have e : (nI i).toNatClampNeg = i := nI_clamp (by omega)
  refine ⟨e, ?_⟩
  have := vp_in_nI (n := i) (N := 400) h (by decide)
  unfold vp_in at this
  rw [e] at this
  exact this
theorem rskip_lp (n : Nat × Nat) (h400 : len ≤ 400) : ∀ (d s fuel : Nat) (y : MS), mI y 58 = nI len → mA y 57 = b → mI y 59 = nI s → s ≤ len → len ≤ s + d → d < fuel → ∃ y', fX12_next_lp8 n fuel y = some y' ∧ Rk y y' [59] [] ∧ mL y' 62 = mL y 62 ∧ mI y' 59 = nI (skp b len d s)
  | d, s, 0, _, _, _, _, _, _, hf => absurd hf (Nat.not_lt_zero _)
  | d, s, fuel + 1, y, h58, h57, hs, hl, hd, hf => by
    unfold fX12_next_lp8
    simp only [bnd, grd, hs, h58]
    by_cases c : s < len
    · obtain ⟨e1, e2⟩ := ix400 (i := s) (by omega)
      rw [if_neg (nI_ge c (by omega))]
      simp only [e1, if_pos e2, h57]
      obtain ⟨d', rfl⟩ : ∃ q, d = q + 1 := ⟨d - 1, by omega⟩
      by_cases c2 : b s = 32
      · rw [show (skp b len (d' + 1) s) = skp b len d' (s + 1) from if_pos ⟨c, c2⟩, if_pos c2, nI_inc1]
        have k1 := Rk_sI y 59 (nI (s + 1))
        obtain ⟨y', e, k2, k3, k4⟩ := rskip_lp n h400 d' (s + 1) fuel (sI y 59 (nI (s + 1))) (by rw [mI_sI, if_neg (by decide)]; exact h58) h57 (by rw [mI_sI, if_pos rfl]) (by omega) (by omega) (by omega)
        exact ⟨y', e, Rk_mono (Rk_tr k1 k2) (by simp) (by simp), k3, k4⟩
      · rw [show (skp b len (d' + 1) s) = s from if_neg (fun w => c2 w.2), if_neg c2]
        exact ⟨y, rfl, Rk_mono (Rk_rf y) (by simp) (by simp), rfl, hs⟩
    · rw [if_pos (nI_le (by omega) (by omega))]
      refine ⟨y, rfl, Rk_mono (Rk_rf y) (by simp) (by simp), rfl, ?_⟩
      rw [hs]
      cases d with
      | zero => rfl
      | succ d => rw [show (skp b len (d + 1) s) = s from if_neg (fun w => c w.1)]
theorem rword_lp (n : Nat × Nat) (h400 : len ≤ 400) (s : Nat) : ∀ (d p fuel : Nat) (y : MS), mI y 58 = nI len → mA y 57 = b → mI y 59 = nI s → mI y 61 = 1 → mI y 60 = nI p → mL y 62 = wv b s (p - s) → s ≤ p → p ≤ len → len ≤ p + d → d < fuel → ∃ y', fX12_next_lp149 n fuel y = some y' ∧ Rk y y' [60] [] ∧ mI y' 60 = nI (run isS b len d p) ∧ mL y' 62 = wv b s (run isS b len d p - s)
  | d, p, 0, _, _, _, _, _, _, _, _, _, _, hf => absurd hf (Nat.not_lt_zero _)
  | d, p, fuel + 1, y, h58, h57, h59, h61, h60, h62, hsp, hl, hd, hf => by
    unfold fX12_next_lp149
    simp only [bnd, grd, h61, h60, h59, h58, if_true]
    by_cases c : p < len
    · obtain ⟨e1, e2⟩ := ix400 (i := p) (by omega)
      rw [if_neg (nI_ge c (by omega))]
      simp only [e1, if_pos e2, h57, sm_is]
      obtain ⟨d', rfl⟩ : ∃ q, d = q + 1 := ⟨d - 1, by omega⟩
      cases c2 : isS (b p)
      · rw [show (run isS b len (d' + 1) p) = p from if_neg (fun w => by rw [c2] at w; exact Bool.noConfusion w.2)]
        exact ⟨y, rfl, Rk_mono (Rk_rf y) (by simp) (by simp), h60, h62⟩
      · rw [show (run isS b len (d' + 1) p) = run isS b len d' (p + 1) from if_pos ⟨c, c2⟩]
        simp only [show bI true = 1 from rfl, if_neg n10, pk_sub hsp]
        have w1 : wv b s (p + 1 - s) = if p - s < 6 then wv b s (p - s) * 32 + (b p).toInt64 - 96 else -1 := by
          rw [show p + 1 - s = (p - s) + 1 by omega]
          show (if p - s < 6 then wv b s (p - s) * 32 + (b (s + (p - s))).toInt64 - 96 else -1) = _
          rw [show s + (p - s) = p by omega]
        have go : ∀ v : Int64, v = wv b s (p + 1 - s) → ∃ y', fX12_next_lp149 n fuel (sI (sL y 62 v) 60 (nI (p + 1))) = some y' ∧ Rk y y' [60] [] ∧ mI y' 60 = nI (run isS b len d' (p + 1)) ∧ mL y' 62 = wv b s (run isS b len d' (p + 1) - s) := fun v hv => by
          have k1 := Rk_tr (Rk_sL y v) (Rk_sI (sL y 62 v) 60 (nI (p + 1)))
          obtain ⟨y', e, k2, k3, k4⟩ := rword_lp n h400 s d' (p + 1) fuel (sI (sL y 62 v) 60 (nI (p + 1))) h58 h57 h59 h61 rfl (by rw [← hv]; rfl) (by omega) (by omega) (by omega) (by omega)
          exact ⟨y', e, Rk_mono (Rk_tr k1 k2) (by simp) (by simp), k3, k4⟩
        by_cases c6 : p - s < 6
        · rw [if_pos c6] at w1
          rw [if_neg (show ¬ (6 : Int32) ≤ nI (p - s) from nI_ge (a := p - s) (b := 6) c6 (by decide))]
          rw [h62]
          have e60 : ∀ v, mI (sL y 62 v) 60 = nI p := fun v => h60
          simp only [e60, nI_inc1]
          exact go _ w1.symm
        · rw [if_neg c6] at w1
          rw [if_pos (show (6 : Int32) ≤ nI (p - s) from nI_le (a := 6) (by omega) (by omega))]
          have e60 : ∀ v, mI (sL y 62 v) 60 = nI p := fun v => h60
          simp only [e60, nI_inc1]
          exact go _ w1.symm
    · rw [if_pos (nI_le (by omega) (by omega))]
      have er : run isS b len d p = p := by
        cases d with
        | zero => rfl
        | succ d => exact if_neg (fun w => c w.1)
      exact ⟨y, rfl, Rk_mono (Rk_rf y) (by simp) (by simp), by rw [er]; exact h60, by rw [er]; exact h62⟩
theorem rnum_lp (n : Nat × Nat) (h400 : len ≤ 400) (s : Nat) : ∀ (d p fuel : Nat) (y : MS), mI y 58 = nI len → mA y 57 = b → mI y 61 = 2 → mI y 60 = nI p → mL y 62 = dv b s (p - s) → s ≤ p → p ≤ len → len ≤ p + d → d < fuel → ∃ y', fX12_next_lp243 n fuel y = some y' ∧ Rk y y' [60] [] ∧ mI y' 60 = nI (run isG b len d p) ∧ mL y' 62 = dv b s (run isG b len d p - s)
  | d, p, 0, _, _, _, _, _, _, _, _, _, hf => absurd hf (Nat.not_lt_zero _)
  | d, p, fuel + 1, y, h58, h57, h61, h60, h62, hsp, hl, hd, hf => by
    unfold fX12_next_lp243
    simp only [bnd, grd, h61, h60, h58, if_true]
    by_cases c : p < len
    · obtain ⟨e1, e2⟩ := ix400 (i := p) (by omega)
      rw [if_neg (nI_ge c (by omega))]
      simp only [e1, if_pos e2, h57, dg_is]
      obtain ⟨d', rfl⟩ : ∃ q, d = q + 1 := ⟨d - 1, by omega⟩
      cases c2 : isG (b p)
      · rw [show (run isG b len (d' + 1) p) = p from if_neg (fun w => by rw [c2] at w; exact Bool.noConfusion w.2)]
        exact ⟨y, rfl, Rk_mono (Rk_rf y) (by simp) (by simp), h60, h62⟩
      · rw [show (run isG b len (d' + 1) p) = run isG b len d' (p + 1) from if_pos ⟨c, c2⟩]
        simp only [show bI true = 1 from rfl, if_neg n10, h62, lg_cmp_le]
        have w1 : dv b s (p + 1 - s) = if dv b s (p - s) ≤ 1000000 then dv b s (p - s) * 10 + (b p).toInt64 - 48 else dv b s (p - s) := by
          rw [show p + 1 - s = (p - s) + 1 by omega]
          show (if dv b s (p - s) ≤ 1000000 then dv b s (p - s) * 10 + (b (s + (p - s))).toInt64 - 48 else dv b s (p - s)) = _
          rw [show s + (p - s) = p by omega]
        have go : ∀ v : Int64, v = dv b s (p + 1 - s) → ∃ y', fX12_next_lp243 n fuel (sI (sL y 62 v) 60 (nI (p + 1))) = some y' ∧ Rk y y' [60] [] ∧ mI y' 60 = nI (run isG b len d' (p + 1)) ∧ mL y' 62 = dv b s (run isG b len d' (p + 1) - s) := fun v hv => by
          have k1 := Rk_tr (Rk_sL y v) (Rk_sI (sL y 62 v) 60 (nI (p + 1)))
          obtain ⟨y', e, k2, k3, k4⟩ := rnum_lp n h400 s d' (p + 1) fuel (sI (sL y 62 v) 60 (nI (p + 1))) h58 h57 h61 rfl (by rw [← hv]; rfl) (by omega) (by omega) (by omega) (by omega)
          exact ⟨y', e, Rk_mono (Rk_tr k1 k2) (by simp) (by simp), k3, k4⟩
        have e60 : ∀ v, mI (sL y 62 v) 60 = nI p := fun v => h60
        by_cases c6 : dv b s (p - s) ≤ 1000000
        · rw [if_pos c6] at w1 ⊢
          simp only [e60, nI_inc1]
          exact go _ w1.symm
        · rw [if_neg c6] at w1 ⊢
          simp only [e60, nI_inc1]
          exact go _ w1.symm
    · rw [if_pos (nI_le (by omega) (by omega))]
      have er : run isG b len d p = p := by
        cases d with
        | zero => rfl
        | succ d => exact if_neg (fun w => c w.1)
      exact ⟨y, rfl, Rk_mono (Rk_rf y) (by simp) (by simp), by rw [er]; exact h60, by rw [er]; exact h62⟩
theorem ev12_nextT (n : Nat × Nat) (hn : 30000 ≤ n.1) (h400 : len ≤ 400) {y : MS} (h58 : mI y 58 = nI len) (h57 : mA y 57 = b) {p : Nat} (hp : mI y 60 = nI p) (hl : p ≤ len) : ∃ y', fX12_next n y = some y' ∧ Rk y y' [59, 60, 61] [] ∧ mI y' 59 = nI (tokS b len p) ∧ mI y' 60 = nI (tokE b len (tokS b len p)) ∧ mI y' 61 = nI (srt b len (tokS b len p)) ∧ mL y' 62 = wrt b len (tokS b len p) := by
  have k1 := Rk_sI y 59 (nI p)
  obtain ⟨y2, e2, k2, -, s2⟩ := rskip_lp n h400 400 p n.1 (sI y 59 (nI p)) h58 h57 rfl hl (by omega) (by omega)
  have sb := tokS_b (b := b) hl
  obtain ⟨s, es⟩ : ∃ q, q = tokS b len p := ⟨_, rfl⟩
  rw [show skp b len 400 p = s from es.symm] at s2
  rw [← es] at sb ⊢
  have h58b : mI y2 58 = nI len := (k2.1 58 rfl).trans h58
  have h57b : mA y2 57 = b := (k2.2.1 57 rfl).trans h57
  obtain ⟨y3, ey3⟩ : ∃ q, q = sL (sI y2 60 (nI s)) 62 0 := ⟨_, rfl⟩
  have k3 : Rk y2 y3 [60] [] := by rw [ey3]; exact Rk_mono (Rk_tr (Rk_sI y2 60 (nI s)) (Rk_sL _ 0)) (by simp) (by simp)
  have v59 : mI y3 59 = nI s := by rw [ey3]; exact s2
  have v60 : mI y3 60 = nI s := by rw [ey3]; rfl
  have v58 : mI y3 58 = nI len := by rw [ey3]; exact h58b
  have v57 : mA y3 57 = b := by rw [ey3]; exact h57b
  have v62 : mL y3 62 = 0 := by rw [ey3]; rfl
  have k03 : Rk y y3 [59, 60] [] := Rk_mono (Rk_tr k1 (Rk_tr k2 k3)) (by simp) (by simp)
  have tl : ∀ (z : Int32) (y4 y5 : MS), fX12_next_lp149 n n.1 y4 = some y5 → ∀ y6, fX12_next_lp243 n n.1 y5 = some y6 → (cal (fX12_next_lp149 n n.1 y4) (fun S149 => cal (fX12_next_lp243 n n.1 S149) (fun S243 => some S243))) = some y6 := fun z y4 y5 h5 y6 h6 => by
    simp only [cal, h5, h6]
  have skW : ∀ y4 : MS, ¬ mI y4 61 = 1 → fX12_next_lp149 n n.1 y4 = some y4 := fun y4 h => by
    obtain ⟨f', ef⟩ : ∃ q, n.1 = q + 1 := ⟨n.1 - 1, by omega⟩
    rw [ef]
    simp only [fX12_next_lp149, bnd, if_neg h]
  have skN : ∀ y4 : MS, ¬ mI y4 61 = 2 → fX12_next_lp243 n n.1 y4 = some y4 := fun y4 h => by
    obtain ⟨f', ef⟩ : ∃ q, n.1 = q + 1 := ⟨n.1 - 1, by omega⟩
    rw [ef]
    simp only [fX12_next_lp243, bnd, if_neg h]
  have te : tokE b len s = if srt b len s = 0 then s else if srt b len s = 1 then run isS b len 400 s else if srt b len s = 2 then run isG b len 400 s else s + 1 := rfl
  have we : wrt b len s = if srt b len s = 1 then wv b s (tokE b len s - s) else if srt b len s = 2 then dv b s (tokE b len s - s) else if srt b len s = 3 then (b s).toInt64 else 0 := rfl
  have U : fX12_next n y = (if nI s = nI len then (cal (fX12_next_lp149 n n.1 (sI y3 61 0)) (fun S149 => cal (fX12_next_lp243 n n.1 S149) (fun S243 => some S243))) else grd (¬ (nI s < 0 ∨ 400 ≤ (nI s).toNatClampNeg)) (if bI (isS (b (nI s).toNatClampNeg)) = 0 then (if bI (isG (b (nI s).toNatClampNeg)) = 0 then (cal (fX12_next_lp149 n n.1 (sI (sL (sI y3 61 3) 62 (b (nI s).toNatClampNeg).toInt64) 60 (nI s + 1))) (fun S149 => cal (fX12_next_lp243 n n.1 S149) (fun S243 => some S243))) else (cal (fX12_next_lp149 n n.1 (sI y3 61 2)) (fun S149 => cal (fX12_next_lp243 n n.1 S149) (fun S243 => some S243)))) else (cal (fX12_next_lp149 n n.1 (sI y3 61 1)) (fun S149 => cal (fX12_next_lp243 n n.1 S149) (fun S243 => some S243))))) := by
    have i3 : ∀ z, mI (sI y3 61 z) 61 = z := fun z => rfl
    have i59 : ∀ z, mI (sI y3 61 z) 59 = nI s := fun z => v59
    have i57 : ∀ z, mA (sI y3 61 z) 57 = b := fun z => v57
    have i60 : ∀ z v, mI (sL (sI y3 61 z) 62 v) 60 = nI s := fun z v => v60
    have d0 : ¬ (0 : Int32) = 3 := by decide
    have d1 : ¬ (1 : Int32) = 3 := by decide
    have d2 : ¬ (2 : Int32) = 3 := by decide
    simp only [fX12_next, bnd, cal, grd, hp, e2, s2, ← ey3, v59, v58, v57, i3, i59, i57, i60, sm_is, dg_is, if_true, if_neg d0, if_neg d1, if_neg d2]
    by_cases cc : nI s = nI len
    · rw [if_pos cc, if_pos cc]
    · rw [if_neg cc, if_neg cc]
      by_cases cv : ¬ (nI s < 0 ∨ 400 ≤ (nI s).toNatClampNeg)
      · simp only [if_pos cv]
      · simp only [if_neg cv]
  rw [U]
  by_cases c0 : len ≤ s
  · have hs0 : srt b len s = 0 := if_pos c0
    have t0 : tokE b len s = s := by rw [te, hs0]; rfl
    have w0 : wrt b len s = 0 := by rw [we, hs0]; rfl
    rw [if_pos (by rw [show s = len by omega]), t0, w0, hs0]
    refine ⟨sI y3 61 0, tl 0 _ _ (skW _ (by show ¬ (0 : Int32) = 1; decide)) _ (skN _ (by show ¬ (0 : Int32) = 2; decide)), Rk_mono (Rk_tr k03 (Rk_sI y3 61 0)) (by simp) (by simp), v59, v60, rfl, v62⟩
  · obtain ⟨i1, i2⟩ := ix400 (i := s) (by omega)
    rw [if_neg (fun w => c0 (by have := (nI_eq (a := s) (b := len) (by omega) (by omega)).mp w; omega)), i1]
    simp only [grd, if_pos i2]
    cases c1 : isS (b s)
    · cases c2 : isG (b s)
      · have hs3 : srt b len s = 3 := by unfold srt; rw [if_neg c0, c1, c2]; rfl
        have t3 : tokE b len s = s + 1 := by rw [te, hs3]; rfl
        have w3 : wrt b len s = (b s).toInt64 := by rw [we, hs3]; rfl
        rw [t3, w3, hs3]
        simp only [show bI false = 0 from rfl, if_true, nI_inc1]
        refine ⟨_, tl 0 _ _ (skW _ (by show ¬ (3 : Int32) = 1; decide)) _ (skN _ (by show ¬ (3 : Int32) = 2; decide)), Rk_mono (Rk_tr k03 (Rk_tr (Rk_sI y3 61 3) (Rk_tr (Rk_sL _ (b s).toInt64) (Rk_sI _ 60 (nI (s + 1)))))) (by simp) (by simp), v59, rfl, rfl, rfl⟩
      · have hs2 : srt b len s = 2 := by unfold srt; rw [if_neg c0, c1, c2]; rfl
        have t2 : tokE b len s = run isG b len 400 s := by rw [te, hs2]; rfl
        have w2 : wrt b len s = dv b s (tokE b len s - s) := by rw [we, hs2]; rfl
        simp only [show bI false = 0 from rfl, show bI true = 1 from rfl, if_true, if_neg n10]
        obtain ⟨y5, e5, k5, k6, k7⟩ := rnum_lp n h400 s 400 s n.1 (sI y3 61 2) v58 v57 rfl v60 (by rw [Nat.sub_self]; exact v62) (Nat.le_refl _) (by omega) (by omega) (by omega)
        rw [w2, t2, hs2]
        exact ⟨y5, tl 0 _ _ (skW _ (by show ¬ (2 : Int32) = 1; decide)) _ e5, Rk_mono (Rk_tr k03 (Rk_tr (Rk_sI y3 61 2) k5)) (by simp) (by simp), (k5.1 59 rfl).trans v59, k6, (k5.1 61 rfl).trans rfl, k7⟩
    · have hs1 : srt b len s = 1 := by unfold srt; rw [if_neg c0, c1]; rfl
      have t1 : tokE b len s = run isS b len 400 s := by rw [te, hs1]; rfl
      have w1 : wrt b len s = wv b s (tokE b len s - s) := by rw [we, hs1]; rfl
      simp only [show bI true = 1 from rfl, if_neg n10]
      obtain ⟨y5, e5, k5, k6, k7⟩ := rword_lp n h400 s 400 s n.1 (sI y3 61 1) v58 v57 v59 rfl v60 (by rw [Nat.sub_self]; exact v62) (Nat.le_refl _) (by omega) (by omega) (by omega)
      have h61 : mI y5 61 = 1 := (k5.1 61 rfl).trans rfl
      rw [w1, t1, hs1]
      exact ⟨y5, tl 0 _ _ e5 _ (skN _ (by rw [h61]; decide)), Rk_mono (Rk_tr k03 (Rk_tr (Rk_sI y3 61 1) k5)) (by simp) (by simp), (k5.1 59 rfl).trans v59, k6, h61, k7⟩
end REFN
