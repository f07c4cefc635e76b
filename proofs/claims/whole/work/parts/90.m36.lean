/-! PURE: the tape's tokens, as the class reads them -/
def skp (b : Nat → Int32) (len : Nat) : Nat → Nat → Nat
  | 0, p => p
  | d + 1, p => if p < len ∧ b p = 32 then skp b len d (p + 1) else p
def run (c : Int32 → Bool) (b : Nat → Int32) (len : Nat) : Nat → Nat → Nat
  | 0, p => p
  | d + 1, p => if p < len ∧ c (b p) = true then run c b len d (p + 1) else p
def isS (v : Int32) : Bool := isB v 97 122
def isG (v : Int32) : Bool := isB v 48 57
def srt (b : Nat → Int32) (len s : Nat) : Nat := if len ≤ s then 0 else if isS (b s) then 1 else if isG (b s) then 2 else 3
def tokE (b : Nat → Int32) (len s : Nat) : Nat := if srt b len s = 0 then s else if srt b len s = 1 then run isS b len 400 s else if srt b len s = 2 then run isG b len 400 s else s + 1
def tokS (b : Nat → Int32) (len p : Nat) : Nat := skp b len 400 p
def tokB (b : Nat → Int32) (w s e : Nat) : Bool := decide (e - s = sLen w ∧ ∀ i, i < sLen w → b (s + i) = sByt w i)
def dec (b : Nat → Int32) (s : Nat) : Nat → Nat
  | 0 => 0
  | n + 1 => dec b s n * 10 + ((b (s + n)).toNatClampNeg - 48)
section TOK
variable {b : Nat → Int32} {len : Nat}
theorem skp_b : ∀ (d p : Nat), p ≤ len → p ≤ skp b len d p ∧ skp b len d p ≤ len
  | 0, p, h => ⟨Nat.le_refl _, h⟩
  | d + 1, p, h => by
    unfold skp
    by_cases c : p < len ∧ b p = 32
    · rw [if_pos c]
      have := skp_b d (p + 1) (by omega)
      omega
    · rw [if_neg c]; omega
theorem run_b (c : Int32 → Bool) : ∀ (d p : Nat), p ≤ len → p ≤ run c b len d p ∧ run c b len d p ≤ len ∧ ∀ i, p ≤ i → i < run c b len d p → c (b i) = true
  | 0, p, h => ⟨Nat.le_refl _, h, fun i h1 h2 => by have h2 : i < p := h2; omega⟩
  | d + 1, p, h => by
    unfold run
    by_cases q : p < len ∧ c (b p) = true
    · rw [if_pos q]
      have ih := run_b c d (p + 1) (by omega)
      refine ⟨by omega, ih.2.1, fun i h1 h2 => ?_⟩
      rcases Nat.eq_or_lt_of_le h1 with e | e
      · rw [← e]; exact q.2
      · exact ih.2.2 i (by omega) h2
    · rw [if_neg q]
      exact ⟨Nat.le_refl _, h, fun i h1 h2 => by omega⟩
theorem srt_3 (s : Nat) : srt b len s = 0 ∨ srt b len s = 1 ∨ srt b len s = 2 ∨ srt b len s = 3 := by
  unfold srt
  split
  · exact Or.inl rfl
  · split
    · exact Or.inr (Or.inl rfl)
    · split
      · exact Or.inr (Or.inr (Or.inl rfl))
      · exact Or.inr (Or.inr (Or.inr rfl))
theorem tokE_b {s : Nat} (h : s ≤ len) : s ≤ tokE b len s ∧ tokE b len s ≤ len := by
  unfold tokE
  have r1 := run_b (b := b) (len := len) isS 400 s h
  have r2 := run_b (b := b) (len := len) isG 400 s h
  by_cases c : len ≤ s
  · have e : srt b len s = 0 := if_pos c
    rw [if_pos e]; omega
  · split
    · omega
    · split
      · omega
      · split
        · omega
        · omega
theorem tokS_b {p : Nat} (h : p ≤ len) : p ≤ tokS b len p ∧ tokS b len p ≤ len := skp_b 400 p h
end TOK
theorem byt_i {v : Int32} (h : isB v 0 255 = true) : 0 ≤ v.toInt ∧ v.toInt ≤ 255 := by
  simp only [isB, Bool.and_eq_true, decide_eq_true_eq, Int32.le_iff_toInt_le] at h
  exact h
theorem sgn_i {v : Int32} (h : isB v 0 255 = true) : v.toInt8.toInt32.toInt = if v.toInt < 128 then v.toInt else v.toInt - 256 := by
  have q := byt_i h
  rw [Int8.toInt_toInt32, Int32.toInt_toInt8]
  by_cases c : v.toInt < 128
  · rw [if_pos c]; exact Int.bmod_eq_of_le (by omega) (by omega)
  · rw [if_neg c, ← Int.sub_bmod_right]
    exact Int.bmod_eq_of_le (by omega) (by omega)
theorem sgn_eq {v c : Int32} (h : isB v 0 255 = true) (hc : 0 ≤ c.toInt ∧ c.toInt < 128) : v.toInt8.toInt32 = c ↔ v = c := by
  have q := sgn_i h
  have r := byt_i h
  constructor
  · intro e
    apply Int32.toInt.inj
    rw [e] at q
    split at q <;> omega
  · intro e
    apply Int32.toInt.inj
    rw [q, e]
    rw [e] at r
    split <;> omega
theorem sort_i (v : Int32) : fX5_sortOf v = if isS v then 1 else if isG v then 2 else 3 := by
  unfold fX5_sortOf isS isG isB
  simp only [Int32.lt_iff_toInt_lt, Bool.and_eq_true, decide_eq_true_eq, Int32.le_iff_toInt_le]
  have e1 : (97 : Int32).toInt = 97 := by decide
  have e2 : (122 : Int32).toInt = 122 := by decide
  have e3 : (48 : Int32).toInt = 48 := by decide
  have e4 : (57 : Int32).toInt = 57 := by decide
  rw [e1, e2, e3, e4]
  repeat' split
  all_goals first | rfl | omega
theorem sort_sgn {v : Int32} (h : isB v 0 255 = true) : fX5_sortOf v.toInt8.toInt32 = if isS v then 1 else if isG v then 2 else 3 := by
  rw [sort_i]
  have q := sgn_i h
  have r := byt_i h
  have eS : isS v.toInt8.toInt32 = isS v := by
    rw [Bool.eq_iff_iff]
    unfold isS isB
    simp only [Bool.and_eq_true, decide_eq_true_eq, Int32.le_iff_toInt_le]
    have e1 : (97 : Int32).toInt = 97 := by decide
    have e2 : (122 : Int32).toInt = 122 := by decide
    rw [e1, e2, q]
    split <;> omega
  have eG : isG v.toInt8.toInt32 = isG v := by
    rw [Bool.eq_iff_iff]
    unfold isG isB
    simp only [Bool.and_eq_true, decide_eq_true_eq, Int32.le_iff_toInt_le]
    have e1 : (48 : Int32).toInt = 48 := by decide
    have e2 : (57 : Int32).toInt = 57 := by decide
    rw [e1, e2, q]
    split <;> omega
  rw [eS, eG]
/-- the tape stands -/
def tpe (b : Nat → Int32) (len R A : Nat) (T : CS) : Prop := cD T R = 6 ∧ cI T 124 R = nI len ∧ cR T 120 R = some A ∧ cD T A = 60 ∧ cN T A = 400 ∧ len ≤ 400 ∧ ∀ i, i < len → isB (b i) 0 255 = true ∧ cA T 60 A i = (b i).toInt8.toInt32
/-- only these int fields were written -/
def Ev (T T' : CS) (GI GA : List Nat) : Prop := keep T T' GI [] GA [] ∧ nx T' = nx T ∧ ∀ q, cD T' q = cD T q
theorem Ev_rf (T : CS) : Ev T T [] [] := ⟨keep_rf T, rfl, fun _ => rfl⟩
theorem Ev_tr {T U V : CS} {a b c d : List Nat} (h : Ev T U a b) (h2 : Ev U V c d) : Ev T V (a ++ c) (b ++ d) := ⟨keep_tr h.1 h2.1, h2.2.1.trans h.2.1, fun q => (h2.2.2 q).trans (h.2.2 q)⟩
theorem Ev_mono {T U : CS} {a b a' b' : List Nat} (h : Ev T U a b) (h1 : ∀ g ∈ a, g ∈ a') (h2 : ∀ g ∈ b, g ∈ b') : Ev T U a' b' := ⟨kpre h.1 h1 (fun _ q => q) h2 (fun _ q => q), h.2⟩
theorem Ev_uI (T : CS) (g a : Nat) (v : Int32) : Ev T (uI T g a v) [g] [] := ⟨keep_uI T g a v, rfl, fun _ => rfl⟩
theorem Ev_uA (T : CS) (g a i : Nat) (v : Int32) : Ev T (uA T g a i v) [] [g] := ⟨keep_uA T g a i v, rfl, fun _ => rfl⟩
theorem tpe_ev {b : Nat → Int32} {len R A : Nat} {T T' : CS} {GI GA : List Nat} (h : Ev T T' GI GA) (h1 : 124 ∉ GI) (h2 : 60 ∉ GA) (ht : tpe b len R A T) : tpe b len R A T' := by
  obtain ⟨t1, t2, t3, t4, t5, t6, t7⟩ := ht
  exact ⟨kD h.1 t1 (by decide), kI h.1 t1 (by decide) h1 t2, kR h.1 t1 (by decide) (by simp) t3, kD h.1 t4 (by decide), kN h.1 t4 (by decide) t5, t6, fun i hi => ⟨(t7 i hi).1, kA h.1 t4 (by decide) h2 i (t7 i hi).2⟩⟩
section CLS
variable {b : Nat → Int32} {len R A : Nat}
theorem ev_byteAt (n : Nat × Nat) {T : CS} (h : tpe b len R A T) (i : Nat) (hi : i < 2 ^ 30) : fX5_byteAt n T R (nI i) = some (if i < len then (b i).toInt8.toInt32 else -1) := by
  obtain ⟨t1, t2, t3, t4, t5, t6, t7⟩ := h
  have e : (nI i).toNatClampNeg = i := nI_clamp (by omega)
  unfold fX5_byteAt
  rw [if_neg (nI_pos (by omega))]
  simp only [grd, bnd, onn, t1, t2, if_true]
  by_cases c : i < len
  · rw [if_neg (nI_ge c (by omega)), if_neg (show ¬ (400 : Int32) ≤ nI i from nI_ge (a := i) (b := 400) (by omega) (by decide)), if_pos c]
    have hv : ¬ (nI i < 0 ∨ 400 ≤ i) := by
      have := vp_in_nI (n := i) (N := 400) (by omega) (by decide)
      unfold vp_in at this
      rw [e] at this
      exact this
    simp only [t3, t4, t5, e, if_true, if_pos hv, (t7 i c).2]
  · rw [if_pos (nI_le (by omega) (by omega)), if_neg c]
theorem skip_lp (n : Nat × Nat) : ∀ (d s fuel : Nat) (T : CS), tpe b len R A T → cI T 122 R = nI s → s ≤ len → len ≤ s + d → d < fuel → ∃ T', fX5_nextToken_lp8 n R fuel T = some T' ∧ Ev T T' [122] [] ∧ cI T' 122 R = nI (skp b len d s)
  | d, s, 0, _, _, _, _, _, hf => absurd hf (Nat.not_lt_zero _)
  | d, s, fuel + 1, T, ht, hs, hl, hd, hf => by
    have h400 := ht.2.2.2.2.2.1
    unfold fX5_nextToken_lp8
    simp only [grd, bnd, cal, ht.1, hs, ht.2.1, if_true]
    by_cases c : s < len
    · rw [if_neg (nI_ge c (by omega)), ev_byteAt n ht s (by omega), if_pos c]
      have h7 := (ht.2.2.2.2.2.2 s c).1
      obtain ⟨d', rfl⟩ : ∃ q, d = q + 1 := ⟨d - 1, by omega⟩
      by_cases c2 : b s = 32
      · rw [show (skp b len (d' + 1) s) = skp b len d' (s + 1) from if_pos ⟨c, c2⟩]
        simp only [(sgn_eq h7 (by decide)).mpr c2, if_true, nI_inc1]
        have ev1 := Ev_uI T 122 R (nI (s + 1))
        obtain ⟨T', e, ev2, e2⟩ := skip_lp n d' (s + 1) fuel (uI T 122 R (nI (s + 1))) (tpe_ev ev1 (by decide) (by simp) ht) (by rw [cI_uI, set1_s, set1_s]) (by omega) (by omega) (by omega)
        exact ⟨T', e, Ev_mono (Ev_tr ev1 ev2) (by simp) (by simp), e2⟩
      · rw [show (skp b len (d' + 1) s) = s from if_neg (fun w => c2 w.2)]
        have : ¬ (b s).toInt8.toInt32 = 32 := fun w => c2 ((sgn_eq h7 (by decide)).mp w)
        simp only [if_neg this]
        exact ⟨T, rfl, Ev_mono (Ev_rf T) (by simp) (by simp), hs⟩
    · rw [if_pos (nI_le (by omega) (by omega))]
      refine ⟨T, rfl, Ev_mono (Ev_rf T) (by simp) (by simp), ?_⟩
      rw [hs]
      cases d with
      | zero => rfl
      | succ d => rw [show (skp b len (d + 1) s) = s from if_neg (fun w => c w.1)]
theorem run_lp (n : Nat × Nat) {f1 : Int32} {c : Int32 → Bool} (hf1 : ¬ f1 = 3) (hc : ∀ v, isB v 0 255 = true → (fX5_sortOf v.toInt8.toInt32 = f1 ↔ c v = true)) : ∀ (d s fuel : Nat) (T : CS), tpe b len R A T → cI T 123 R = nI s → s ≤ len → len ≤ s + d → d < fuel → ∃ T', fX5_nextToken_lp87 n R f1 fuel T = some T' ∧ Ev T T' [123] [] ∧ cI T' 123 R = nI (run c b len d s)
  | d, s, 0, _, _, _, _, _, hf => absurd hf (Nat.not_lt_zero _)
  | d, s, fuel + 1, T, ht, hs, hl, hd, hf => by
    have h400 := ht.2.2.2.2.2.1
    unfold fX5_nextToken_lp87
    rw [if_neg hf1]
    simp only [grd, bnd, cal, ht.1, hs, ht.2.1, if_true]
    by_cases cl : s < len
    · rw [if_neg (nI_ge cl (by omega)), ev_byteAt n ht s (by omega), if_pos cl]
      have h7 := (ht.2.2.2.2.2.2 s cl).1
      obtain ⟨d', rfl⟩ : ∃ q, d = q + 1 := ⟨d - 1, by omega⟩
      by_cases c2 : c (b s) = true
      · rw [show (run c b len (d' + 1) s) = run c b len d' (s + 1) from if_pos ⟨cl, c2⟩]
        simp only [(hc _ h7).mpr c2, if_true, nI_inc1]
        have ev1 := Ev_uI T 123 R (nI (s + 1))
        obtain ⟨T', e, ev2, e2⟩ := run_lp n hf1 hc d' (s + 1) fuel (uI T 123 R (nI (s + 1))) (tpe_ev ev1 (by decide) (by simp) ht) (by rw [cI_uI, set1_s, set1_s]) (by omega) (by omega) (by omega)
        exact ⟨T', e, Ev_mono (Ev_tr ev1 ev2) (by simp) (by simp), e2⟩
      · rw [show (run c b len (d' + 1) s) = s from if_neg (fun w => c2 w.2)]
        have : ¬ fX5_sortOf (b s).toInt8.toInt32 = f1 := fun w => c2 ((hc _ h7).mp w)
        simp only [if_neg this]
        exact ⟨T, rfl, Ev_mono (Ev_rf T) (by simp) (by simp), hs⟩
    · rw [if_pos (nI_le (by omega) (by omega))]
      refine ⟨T, rfl, Ev_mono (Ev_rf T) (by simp) (by simp), ?_⟩
      rw [hs]
      cases d with
      | zero => rfl
      | succ d => rw [show (run c b len (d + 1) s) = s from if_neg (fun w => cl w.1)]
theorem sort_at (n : Nat × Nat) {T : CS} (ht : tpe b len R A T) {s : Nat} (hs : s ≤ len) : ∃ q, fX5_byteAt n T R (nI s) = some q ∧ fX5_sortOf q = nI (if srt b len s = 0 then 3 else srt b len s) := by
  have h400 := ht.2.2.2.2.2.1
  refine ⟨_, ev_byteAt n ht s (by omega), ?_⟩
  by_cases c : s < len
  · have es : srt b len s = if isS (b s) then 1 else if isG (b s) then 2 else 3 := if_neg (by omega)
    rw [if_pos c, sort_sgn (ht.2.2.2.2.2.2 s c).1, es]
    cases isS (b s) <;> cases isG (b s) <;> rfl
  · rw [if_neg c, show srt b len s = 0 from if_pos (by omega)]
    rfl
theorem ev_nextToken (n : Nat × Nat) (hn : 30000 ≤ n.1) {T : CS} (ht : tpe b len R A T) {p : Nat} (hp : cI T 123 R = nI p) (hl : p ≤ len) : ∃ T', fX5_nextToken n T R = some T' ∧ Ev T T' [122, 123] [] ∧ cI T' 122 R = nI (tokS b len p) ∧ cI T' 123 R = nI (tokE b len (tokS b len p)) := by
  have h400 := ht.2.2.2.2.2.1
  have ev1 := Ev_uI T 122 R (nI p)
  have ht1 := tpe_ev ev1 (by decide) (by simp) ht
  obtain ⟨T2, e2, ev2, s2⟩ := skip_lp n 400 p n.1 (uI T 122 R (nI p)) ht1 (by rw [cI_uI, set1_s, set1_s]) hl (by omega) (by omega)
  have ht2 := tpe_ev ev2 (by decide) (by simp) ht1
  have sb := tokS_b (b := b) hl
  obtain ⟨s, es⟩ : ∃ q, q = tokS b len p := ⟨_, rfl⟩
  rw [show skp b len 400 p = s from es.symm] at s2
  rw [← es] at sb ⊢
  have ev3 := Ev_uI T2 123 R (nI s)
  obtain ⟨T3, eT3⟩ : ∃ q, q = uI T2 123 R (nI s) := ⟨_, rfl⟩
  rw [← eT3] at ev3
  have ht3 := tpe_ev ev3 (by decide) (by simp) ht2
  have v122 : cI T3 122 R = nI s := kI ev3.1 ht2.1 (by decide) (by decide) s2
  have v123 : cI T3 123 R = nI s := by rw [eT3, cI_uI, set1_s, set1_s]
  have v124 := ht3.2.1
  obtain ⟨q, eq, sq⟩ := sort_at n ht3 sb.2
  have evT : Ev T T3 [122, 123] [] := Ev_mono (Ev_tr ev1 (Ev_tr ev2 ev3)) (by simp) (by simp)
  have U : ∀ T' : CS, (fX5_nextToken n T R = if fX5_sortOf q = 3 then (cal (fX5_nextToken_lp87 n R (fX5_sortOf q) n.1 (uI T3 123 R (if nI len < nI s + 1 then nI len else nI s + 1))) (fun S87 => some S87)) else cal (fX5_nextToken_lp87 n R (fX5_sortOf q) n.1 T3) (fun S87 => some S87)) := fun _ => by
    simp only [fX5_nextToken, grd, bnd, cal, ht.1, hp, e2, ht2.1, s2, if_true, ← eT3, v122, v124, eq]
  rw [U T, sq]
  have n3 : ∀ j, j < 4 → (nI j = (3 : Int32) ↔ j = 3) := by decide
  have te : tokE b len s = if srt b len s = 0 then s else if srt b len s = 1 then run isS b len 400 s else if srt b len s = 2 then run isG b len 400 s else s + 1 := rfl
  rcases srt_3 (b := b) (len := len) s with c | c | c | c
  · rw [show tokE b len s = s by rw [te, c]; rfl, show (if srt b len s = 0 then 3 else srt b len s) = 3 by rw [c]; rfl, if_pos ((n3 3 (by decide)).mpr rfl)]
    have hl2 : len ≤ s := by
      unfold srt at c
      by_cases w : len ≤ s
      · exact w
      · rw [if_neg w] at c; split at c; · cases c
        split at c <;> cases c
    have em : (if nI len < nI s + 1 then nI len else nI s + 1) = nI s := by
      rw [nI_inc1, if_pos (nI_lt (by omega) (by omega)), show len = s by omega]
    rw [em]
    obtain ⟨f', ef⟩ : ∃ q, n.1 = q + 1 := ⟨n.1 - 1, by omega⟩
    refine ⟨uI T3 123 R (nI s), ?_, Ev_mono (Ev_tr evT (Ev_uI T3 123 R (nI s))) (by simp) (by simp), ?_, by rw [cI_uI, set1_s, set1_s]⟩
    · rw [ef]
      simp only [fX5_nextToken_lp87, if_pos (show nI 3 = (3 : Int32) from rfl), cal]
    · rw [cI_uI, set1_n _ _ (by decide)]; exact v122
  · rw [show tokE b len s = run isS b len 400 s by rw [te, c]; rfl, show (if srt b len s = 0 then 3 else srt b len s) = 1 by rw [c]; rfl, if_neg (by decide)]
    obtain ⟨T4, e4, ev4, s4⟩ := run_lp n (f1 := nI 1) (c := isS) (b := b) (len := len) (by decide) (fun v hv => by
      rw [sort_sgn hv]
      cases isS v <;> cases isG v <;> decide) 400 s n.1 T3 ht3 v123 sb.2 (by omega) (by omega)
    exact ⟨T4, by simp only [e4, cal], Ev_mono (Ev_tr evT ev4) (by simp) (by simp), kI ev4.1 ht3.1 (by decide) (by decide) v122, s4⟩
  · rw [show tokE b len s = run isG b len 400 s by rw [te, c]; rfl, show (if srt b len s = 0 then 3 else srt b len s) = 2 by rw [c]; rfl, if_neg (by decide)]
    obtain ⟨T4, e4, ev4, s4⟩ := run_lp n (f1 := nI 2) (c := isG) (b := b) (len := len) (by decide) (fun v hv => by
      rw [sort_sgn hv]
      have ex : isG v = true → isS v = false := fun w => by
        unfold isG isS isB at *
        simp only [Bool.and_eq_true, decide_eq_true_eq, Int32.le_iff_toInt_le, Bool.and_eq_false_iff, decide_eq_false_iff_not] at w ⊢
        have e1 : (97 : Int32).toInt = 97 := by decide
        have e4 : (57 : Int32).toInt = 57 := by decide
        rw [e1]
        rw [e4] at w
        omega
      cases hG : isG v
      · cases isS v <;> decide
      · rw [ex hG]; decide) 400 s n.1 T3 ht3 v123 sb.2 (by omega) (by omega)
    exact ⟨T4, by simp only [e4, cal], Ev_mono (Ev_tr evT ev4) (by simp) (by simp), kI ev4.1 ht3.1 (by decide) (by decide) v122, s4⟩
  · rw [show tokE b len s = s + 1 by rw [te, c]; rfl, show (if srt b len s = 0 then 3 else srt b len s) = 3 by rw [c]; rfl, if_pos ((n3 3 (by decide)).mpr rfl)]
    have hl2 : s < len := by
      unfold srt at c
      by_cases w : len ≤ s
      · rw [if_pos w] at c; cases c
      · omega
    have em : (if nI len < nI s + 1 then nI len else nI s + 1) = nI (s + 1) := by
      rw [nI_inc1]
      by_cases w : nI len < nI (s + 1)
      · have := (nI_ltI (a := len) (b := s + 1) (by omega) (by omega)).mp w
        omega
      · rw [if_neg w]
    rw [em]
    obtain ⟨f', ef⟩ : ∃ q, n.1 = q + 1 := ⟨n.1 - 1, by omega⟩
    refine ⟨uI T3 123 R (nI (s + 1)), ?_, Ev_mono (Ev_tr evT (Ev_uI T3 123 R (nI (s + 1)))) (by simp) (by simp), ?_, by rw [cI_uI, set1_s, set1_s]⟩
    · rw [ef]
      simp only [fX5_nextToken_lp87, if_pos (show nI 3 = (3 : Int32) from rfl), cal]
    · rw [cI_uI, set1_n _ _ (by decide)]; exact v122
end CLS
