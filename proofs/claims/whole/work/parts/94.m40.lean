/-! PURE: rules laid down on both sides -/
def j226 (z0 r89 l3 l4 : Int32) (S : MS) : Option MS :=
  bnd (mI S 64) (fun v227 => if v227 = 0 then
          bnd (mI S 31) (fun v240 => grd (¬ (((4 : Int32) * v240) < 0 ∨ 120 ≤ ((4 : Int32) * v240).toNatClampNeg)) (bnd (sA S 30 (upd (mA S 30) ((4 : Int32) * v240).toNatClampNeg z0)) (fun S245 => bnd (mI S245 31) (fun v252 => bnd (fun (z0_268 : Int32) (S : MS) => grd (¬ ((((4 : Int32) * v252) + (1 : Int32)) < 0 ∨ 120 ≤ (((4 : Int32) * v252) + (1 : Int32)).toNatClampNeg)) (bnd (sA S 30 (upd (mA S 30) (((4 : Int32) * v252) + (1 : Int32)).toNatClampNeg z0_268)) (fun S268 => bnd (mI S268 31) (fun v275 => bnd (fun (z0_291 : Int32) (S : MS) => grd (¬ ((((4 : Int32) * v275) + (2 : Int32)) < 0 ∨ 120 ≤ (((4 : Int32) * v275) + (2 : Int32)).toNatClampNeg)) (bnd (sA S 30 (upd (mA S 30) (((4 : Int32) * v275) + (2 : Int32)).toNatClampNeg z0_291)) (fun S291 => bnd (mI S291 31) (fun v298 => grd (¬ ((((4 : Int32) * v298) + (3 : Int32)) < 0 ∨ 120 ≤ (((4 : Int32) * v298) + (3 : Int32)).toNatClampNeg)) (bnd (sA S291 30 (upd (mA S291 30) (((4 : Int32) * v298) + (3 : Int32)).toNatClampNeg l4)) (fun S306 => bnd (mI S306 31) (fun v309 => bnd (sI S306 31 (v309 + (1 : Int32))) (fun S314 => some S314)))))))) (fun j291 => if z0 = (2 : Int32) then
              j291 r89 S268
              else j291 l3 S268))))) (fun j268 => if z0 = (2 : Int32) then
            j268 l3 S245
            else j268 r89 S245)))))
          else some S)
def j82 (n : Nat × Nat) (z0 v : Int32) (S : MS) : Option MS :=
  cal (fX12_must n S v) (fun S82 => cal (fX12_number n S82 (9 : Int64)) (un2 fun r89 S89 => if z0 = 0 then
        cal (fX12_number n S89 (100000 : Int64)) (un2 fun r106 S106 => bnd (mI S106 64) (fun v111 => if v111 = 0 then
          cal (fX12_isWord n S106 (97 : Int32) (98 : Int32) (111 : Int32) (118 : Int32) (101 : Int32)) (fun q128 => if q128 = 0 then
            j226 z0 r89 r106 0 S106
            else cal (fX12_next n S106 ) (fun S135 => cal (fX12_number n S135 (12 : Int64)) (un2 fun r142 S142 => j226 z0 r89 r106 r142 S142)))
          else j226 z0 r89 r106 0 S106))
        else if z0 = (1 : Int32) then
          cal (fX12_number n S89 (1000 : Int64)) (un2 fun r159 S159 => j226 z0 r89 r159 0 S159)
          else cal (fX12_isWord n S89 (102 : Int32) (111 : Int32) (114 : Int32) (0 : Int32) (0 : Int32)) (fun q176 => cal (fX12_must n S89 q176) (fun S179 => bnd (mL S179 62) (fun v183 => bnd v183.toInt32 (fun x187 => bnd (mI S179 61) (fun v190 => if v190 = (2 : Int32) then
            bnd (mL S179 62) (fun v198 => if 0 < (lg_cmp v198 (9 : Int64)) then
              cal (fX12_must n S179 0) (fun S223 => j226 z0 r89 x187 0 S223)
              else bnd (mL S179 62) (fun v209 => if (lg_cmp v209 r89.toInt64) = 0 then
                cal (fX12_must n S179 0) (fun S223 => j226 z0 r89 x187 0 S223)
                else cal (fX12_must n S179 1) (fun S223 => j226 z0 r89 x187 0 S223)))
            else cal (fX12_must n S179 0) (fun S223 => j226 z0 r89 x187 0 S223))))))))
def j62 (n : Nat × Nat) (z0 : Int32) (S : MS) : Option MS := if z0 < 0 then j82 n z0 0 S else bnd (mI S 31) (fun v69 => if (30 : Int32) ≤ v69 then j82 n z0 0 S else j82 n z0 1 S)
theorem rule_un (n : Nat × Nat) (S : MS) : fX12_readRule n S = cal (fX12_isWord n S (110 : Int32) (101 : Int32) (101 : Int32) (100 : Int32) (0 : Int32)) (fun q10 => if q10 = 0 then
    cal (fX12_isWord n S (115 : Int32) (112 : Int32) (97 : Int32) (114 : Int32) (101 : Int32)) (fun q31 => if q31 = 0 then
      cal (fX12_isWord n S (115 : Int32) (119 : Int32) (97 : Int32) (112 : Int32) (0 : Int32)) (fun q51 => if q51 = 0 then
        j62 n (-1 : Int32) S
        else j62 n (2 : Int32) S)
      else j62 n (1 : Int32) S)
    else j62 n (0 : Int32) S) := rfl
def addR (S : MS) (m : Nat) (v a c d : Int32) : MS := sI (sA S 30 (upd (upd (upd (upd (mA S 30) (4 * m) v) (4 * m + 1) a) (4 * m + 2) c) (4 * m + 3) d)) 31 (nI (m + 1))
theorem sA_sA (S : MS) (k : Nat) (f g : Nat → Int32) : sA (sA S k f) k g = sA S k g := by
  unfold sA
  refine Prod.ext rfl (Prod.ext rfl (Prod.ext ?_ rfl))
  funext j
  by_cases c : j = k
  · simp only [c, if_true]
  · simp only [c, if_false]
theorem j226_bad {z0 r89 l3 l4 : Int32} {S : MS} (h : ¬ mI S 64 = 0) : j226 z0 r89 l3 l4 S = some S := by
  unfold j226 bnd
  exact if_neg h
theorem ix120 {j : Nat} (h : j < 120) : (nI j).toNatClampNeg = j ∧ ¬ (nI j < 0 ∨ 120 ≤ j) := by
  have e : (nI j).toNatClampNeg = j := nI_clamp (by omega)
  refine ⟨e, ?_⟩
  have := vp_in_nI (n := j) (N := 120) h (by decide)
  unfold vp_in at this
  rw [e] at this
  exact this
theorem j226_ok {z0 r89 l3 l4 : Int32} {S : MS} {m : Nat} (h : mI S 64 = 0) (h31 : mI S 31 = nI m) (hm : m < 30) : j226 z0 r89 l3 l4 S = some (addR S m z0 (if z0 = 2 then l3 else r89) (if z0 = 2 then r89 else l3) l4) := by
  have e4 : (4 : Int32) * nI m = nI (4 * m) := by rw [show (4 : Int32) = nI 4 from rfl, pk_mul]
  have e1 : nI (4 * m) + 1 = nI (4 * m + 1) := nI_1 _
  have e2 : nI (4 * m) + 2 = nI (4 * m + 2) := by rw [show (2 : Int32) = nI 2 from rfl, nI_add]
  have e3 : nI (4 * m) + 3 = nI (4 * m + 3) := by rw [show (3 : Int32) = nI 3 from rfl, nI_add]
  obtain ⟨a0, b0⟩ := ix120 (j := 4 * m) (by omega)
  obtain ⟨a1, b1⟩ := ix120 (j := 4 * m + 1) (by omega)
  obtain ⟨a2, b2⟩ := ix120 (j := 4 * m + 2) (by omega)
  obtain ⟨a3, b3⟩ := ix120 (j := 4 * m + 3) (by omega)
  have f30 : ∀ (X : MS) (f : Nat → Int32), mA (sA X 30 f) 30 = f := fun X f => rfl
  have i31 : ∀ (X : MS) (f : Nat → Int32), mI (sA X 30 f) 31 = mI X 31 := fun X f => rfl
  unfold j226 addR
  simp only [bnd, grd, h, h31, if_true, e4, e1, e2, e3, a0, a1, a2, a3, if_pos b0, if_pos b1, if_pos b2, if_pos b3, f30, i31, sA_sA, nI_inc1]
  by_cases c : z0 = 2
  · simp only [if_pos c]
  · simp only [if_neg c]
section MUST
variable {n : Nat × Nat} {y : MS}
theorem must_bad (h : ¬ mI y 64 = 0) (v : Int32) : fX12_must n y v = some y := by
  unfold fX12_must
  simp only [bnd, if_neg h]
theorem must_no (h : mI y 64 = 0) : fX12_must n y 0 = some (sI (sI y 64 1) 63 (mI y 59)) := by
  have e1 : mI (sI (sI y 64 1) 63 (mI y 59)) 64 = 1 := rfl
  have e2 : mI (sI y 64 1) 59 = mI y 59 := rfl
  unfold fX12_must
  simp only [bnd, h, if_true, e2, e1, if_neg n10]
theorem must_ok (h : mI y 64 = 0) {v : Int32} (hv : ¬ v = 0) {y' : MS} (e : fX12_next n y = some y') : fX12_must n y v = some y' := by
  unfold fX12_must
  simp only [bnd, h, if_true, if_neg hv, cal, e]
theorem number_bad (h : ¬ mI y 64 = 0) (mo : Int64) : fX12_number n y mo = some ((mL y 62).toInt32, y) := by
  unfold fX12_number
  simp only [bnd, cal, must_bad h]
  split
  · split <;> rfl
  · rfl
theorem number_is (h : mI y 64 = 0) (mo : Int64) : fX12_number n y mo = if mI y 61 = 2 ∧ mL y 62 ≤ mo then cal (fX12_must n y 1) (fun S29 => some ((mL y 62).toInt32, S29)) else some ((mL y 62).toInt32, sI (sI y 64 1) 63 (mI y 59)) := by
  unfold fX12_number
  simp only [bnd, cal, must_no h, lg_cmp_gt]
  by_cases c1 : mI y 61 = 2
  · rw [if_pos c1]
    by_cases c2 : mL y 62 ≤ mo
    · rw [if_neg (Int64.not_lt.mpr c2), if_pos ⟨c1, c2⟩]
    · rw [if_pos (Int64.not_le.mp c2), if_neg (fun w => c2 w.2)]
  · rw [if_neg c1, if_neg (fun w => c1 w.1)]
theorem isWord_is (a1 a2 a3 a4 a5 : Int32) : fX12_isWord n y a1 a2 a3 a4 a5 = some (bI (decide (mI y 61 = 1 ∧ mL y 62 = fX12_word a1 a2 a3 a4 a5))) := by
  unfold fX12_isWord
  simp only [bnd, lg_cmp_eq]
  by_cases c1 : mI y 61 = 1
  · rw [if_pos c1]
    by_cases c2 : mL y 62 = fX12_word a1 a2 a3 a4 a5
    · rw [if_pos c2, decide_eq_true ⟨c1, c2⟩]; rfl
    · rw [if_neg c2, decide_eq_false (fun w => c2 w.2)]; rfl
  · rw [if_neg c1, decide_eq_false (fun w => c1 w.1)]; rfl
end MUST
/-- a rule that may stand -/
def ruOk (v a c : Int32) : Prop := isB v 0 2 = true ∧ isB a 0 9 = true ∧ (v = 2 → isB c 0 9 = true) ∧ (v = 1 → isB c 0 1000 = true) ∧ (v = 0 → isB c 0 100000 = true)
/-- both read at the token that begins at s, m rules are laid down -/
def dft (M : Nat → Nat → Nat) (T : CS) : Prop := cD T (M 0 8) = 6 ∧ cR T 121 (M 0 8) = some (M 13 1) ∧ cD T (M 13 1) = 7 ∧ cR T 140 (M 13 1) = some (M 14 1) ∧ cR T 141 (M 13 1) = some (M 15 1) ∧ cR T 142 (M 13 1) = some (M 16 1) ∧ cR T 143 (M 13 1) = some (M 17 1) ∧ (cD T (M 14 1) = 42 ∧ cN T (M 14 1) = 30) ∧ (cD T (M 15 1) = 43 ∧ cN T (M 15 1) = 30) ∧ (cD T (M 16 1) = 44 ∧ cN T (M 16 1) = 30) ∧ cD T (M 17 1) = 45 ∧ cN T (M 17 1) = 30
def lkd (M : Nat → Nat → Nat) (m : Nat) (T : CS) (y : MS) : Prop := cI T 144 (M 13 1) = nI m ∧ mI y 31 = nI m ∧ ∀ r, r < m → cA T 42 (M 14 1) r = mA y 30 (4 * r) + 1 ∧ cA T 43 (M 15 1) r = mA y 30 (4 * r + 1) ∧ cA T 44 (M 16 1) r = mA y 30 (4 * r + 2) ∧ (mA y 30 (4 * r) = 0 → cA T 45 (M 17 1) r = mA y 30 (4 * r + 3)) ∧ ruOk (mA y 30 (4 * r)) (mA y 30 (4 * r + 1)) (mA y 30 (4 * r + 2))
/-- beside the draft nothing is written in its fields -/
def offD (M : Nat → Nat → Nat) (T T' : CS) : Prop := (∀ q, cD T q ≠ 0 → q ≠ M 13 1 → cI T' 144 q = cI T 144 q) ∧ (∀ q, cD T q ≠ 0 → q ≠ M 14 1 → cA T' 42 q = cA T 42 q) ∧ (∀ q, cD T q ≠ 0 → q ≠ M 15 1 → cA T' 43 q = cA T 43 q) ∧ (∀ q, cD T q ≠ 0 → q ≠ M 16 1 → cA T' 44 q = cA T 44 q) ∧ ∀ q, cD T q ≠ 0 → q ≠ M 17 1 → cA T' 45 q = cA T 45 q
theorem dft_ev {M : Nat → Nat → Nat} {T T' : CS} {GI GA : List Nat} (h : Ev T T' GI GA) (hd : dft M T) : dft M T' := by
  obtain ⟨d1, d2, d3, d4, d5, d6, d7, d8, d9, d10, d11, d12⟩ := hd
  exact ⟨kD h.1 d1 (by decide), kR h.1 d1 (by decide) (by simp) d2, kD h.1 d3 (by decide), kR h.1 d3 (by decide) (by simp) d4, kR h.1 d3 (by decide) (by simp) d5, kR h.1 d3 (by decide) (by simp) d6, kR h.1 d3 (by decide) (by simp) d7, ⟨kD h.1 d8.1 (by decide), kN h.1 d8.1 (by decide) d8.2⟩, ⟨kD h.1 d9.1 (by decide), kN h.1 d9.1 (by decide) d9.2⟩, ⟨kD h.1 d10.1 (by decide), kN h.1 d10.1 (by decide) d10.2⟩, kD h.1 d11 (by decide), kN h.1 d11 (by decide) d12⟩
theorem lkd_ev {M : Nat → Nat → Nat} {m : Nat} {T T' : CS} {y y' : MS} {GI : List Nat} {LI : List Nat} (h : Ev T T' GI []) (hk : Rk y y' LI []) (h1 : 144 ∉ GI) (h2 : LI.contains 31 = false) (hd : dft M T) (hl : lkd M m T y) : lkd M m T' y' := by
  obtain ⟨d1, d2, d3, d4, d5, d6, d7, d8, d9, d10, d11, d12⟩ := hd
  obtain ⟨l1, l2, l3⟩ := hl
  refine ⟨kI h.1 d3 (by decide) h1 l1, (hk.1 31 h2).trans l2, fun r hr => ?_⟩
  rw [hk.2.1 30 rfl, kA h.1 d8.1 (by decide) (by simp) r rfl, kA h.1 d9.1 (by decide) (by simp) r rfl, kA h.1 d10.1 (by decide) (by simp) r rfl, kA h.1 d11 (by decide) (by simp) r rfl]
  exact l3 r hr
theorem ev_add6 (n : Nat × Nat) {M : Nat → Nat → Nat} {T : CS} {y : MS} {m : Nat} (hd : dft M T) (hl : lkd M m T y) (hm : m < 30) {v a c d d2 : Int32} (hru : ruOk v a c) (hdd : v = 0 → d2 = d) : ∃ T', fX6_add n T (M 13 1) (v + 1) a c d2 = some T' ∧ Ev T T' [144] [42, 43, 44, 45] ∧ offD M T T' ∧ lkd M (m + 1) T' (addR y m v a c d) := by
  have hd0 := hd
  obtain ⟨d1, d2', d3, d4, d5, d6, d7, d8, d9, d10, d11, d12⟩ := hd
  obtain ⟨l1, l2, l3⟩ := hl
  have em : (nI m).toNatClampNeg = m := nI_clamp (by omega)
  have hv : ¬ (nI m < 0 ∨ 30 ≤ m) := by
    have := vp_in_nI (n := m) (N := 30) (by omega) (by decide)
    unfold vp_in at this
    rw [em] at this
    exact this
  have h30 : ¬ (30 : Int32) ≤ nI m := nI_ge (a := m) (b := 30) hm (by decide)
  obtain ⟨T1, eT1⟩ : ∃ q, q = uA T 42 (M 14 1) m (v + 1) := ⟨_, rfl⟩
  obtain ⟨T2, eT2⟩ : ∃ q, q = uA T1 43 (M 15 1) m a := ⟨_, rfl⟩
  obtain ⟨T3, eT3⟩ : ∃ q, q = uA T2 44 (M 16 1) m c := ⟨_, rfl⟩
  obtain ⟨T4, eT4⟩ : ∃ q, q = uA T3 45 (M 17 1) m d2 := ⟨_, rfl⟩
  have v1 : Ev T T1 [] [42] := by rw [eT1]; exact Ev_uA _ _ _ _ _
  have v2 : Ev T1 T2 [] [43] := by rw [eT2]; exact Ev_uA _ _ _ _ _
  have v3 : Ev T2 T3 [] [44] := by rw [eT3]; exact Ev_uA _ _ _ _ _
  have v4 : Ev T3 T4 [] [45] := by rw [eT4]; exact Ev_uA _ _ _ _ _
  have w1 := dft_ev v1 hd0
  have w2 := dft_ev v2 w1
  have w3 := dft_ev v3 w2
  have w4 := dft_ev v4 w3
  have i1 : cI T1 144 (M 13 1) = nI m := kI v1.1 d3 (by decide) (by simp) l1
  have i2 : cI T2 144 (M 13 1) = nI m := kI v2.1 w1.2.2.1 (by decide) (by simp) i1
  have i3 : cI T3 144 (M 13 1) = nI m := kI v3.1 w2.2.2.1 (by decide) (by simp) i2
  have i4 : cI T4 144 (M 13 1) = nI m := kI v4.1 w3.2.2.1 (by decide) (by simp) i3
  have v5 := Ev_uI T4 144 (M 13 1) (nI (m + 1))
  refine ⟨uI T4 144 (M 13 1) (nI (m + 1)), ?_, Ev_mono (Ev_tr v1 (Ev_tr v2 (Ev_tr v3 (Ev_tr v4 v5)))) (by simp) (by simp), ⟨fun q _ hq => ?_, fun q _ hq => ?_, fun q _ hq => ?_, fun q _ hq => ?_, fun q _ hq => ?_⟩, ?_⟩
  · simp only [fX6_add, grd, bnd, onn, d3, l1, if_neg h30, d4, d8.1, d8.2, em, if_pos hv, if_true, ← eT1, w1.2.2.2.2.1, i1, w1.2.2.2.2.2.2.2.2.1.1, w1.2.2.2.2.2.2.2.2.1.2, ← eT2, w2.2.2.2.2.2.1, i2, w2.2.2.2.2.2.2.2.2.2.1.1, w2.2.2.2.2.2.2.2.2.2.1.2, ← eT3, w3.2.2.2.2.2.2.1, i3, w3.2.2.2.2.2.2.2.2.2.2.1, w3.2.2.2.2.2.2.2.2.2.2.2, ← eT4, i4, nI_inc1]
  · rw [cI_uI, set1_s, set1_n _ _ hq, eT4, cI_uA, eT3, cI_uA, eT2, cI_uA, eT1, cI_uA]
  · rw [cA_uI, eT4, cA_uA, set1_n _ _ (by decide), eT3, cA_uA, set1_n _ _ (by decide), eT2, cA_uA, set1_n _ _ (by decide), eT1, cA_uA, set1_s, set1_n _ _ hq]
  · rw [cA_uI, eT4, cA_uA, set1_n _ _ (by decide), eT3, cA_uA, set1_n _ _ (by decide), eT2, cA_uA, set1_s, set1_n _ _ hq, eT1, cA_uA, set1_n _ _ (by decide)]
  · rw [cA_uI, eT4, cA_uA, set1_n _ _ (by decide), eT3, cA_uA, set1_s, set1_n _ _ hq, eT2, cA_uA, set1_n _ _ (by decide), eT1, cA_uA, set1_n _ _ (by decide)]
  · rw [cA_uI, eT4, cA_uA, set1_s, set1_n _ _ hq, eT3, cA_uA, set1_n _ _ (by decide), eT2, cA_uA, set1_n _ _ (by decide), eT1, cA_uA, set1_n _ _ (by decide)]
  · have e30 : mA (addR y m v a c d) 30 = upd (upd (upd (upd (mA y 30) (4 * m) v) (4 * m + 1) a) (4 * m + 2) c) (4 * m + 3) d := rfl
    have a42 : ∀ r, cA (uI T4 144 (M 13 1) (nI (m + 1))) 42 (M 14 1) r = upd (cA T 42 (M 14 1)) m (v + 1) r := fun r => by
      rw [cA_uI, eT4, cA_uA, set1_n _ _ (by decide), eT3, cA_uA, set1_n _ _ (by decide), eT2, cA_uA, set1_n _ _ (by decide), eT1, cA_uA, set1_s, set1_s]
    have a43 : ∀ r, cA (uI T4 144 (M 13 1) (nI (m + 1))) 43 (M 15 1) r = upd (cA T 43 (M 15 1)) m a r := fun r => by
      rw [cA_uI, eT4, cA_uA, set1_n _ _ (by decide), eT3, cA_uA, set1_n _ _ (by decide), eT2, cA_uA, set1_s, set1_s, eT1, cA_uA, set1_n _ _ (by decide)]
    have a44 : ∀ r, cA (uI T4 144 (M 13 1) (nI (m + 1))) 44 (M 16 1) r = upd (cA T 44 (M 16 1)) m c r := fun r => by
      rw [cA_uI, eT4, cA_uA, set1_n _ _ (by decide), eT3, cA_uA, set1_s, set1_s, eT2, cA_uA, set1_n _ _ (by decide), eT1, cA_uA, set1_n _ _ (by decide)]
    have a45 : ∀ r, cA (uI T4 144 (M 13 1) (nI (m + 1))) 45 (M 17 1) r = upd (cA T 45 (M 17 1)) m d2 r := fun r => by
      rw [cA_uI, eT4, cA_uA, set1_s, set1_s, eT3, cA_uA, set1_n _ _ (by decide), eT2, cA_uA, set1_n _ _ (by decide), eT1, cA_uA, set1_n _ _ (by decide)]
    refine ⟨by rw [cI_uI, set1_s, set1_s], rfl, fun r hr => ?_⟩
    rw [a42, a43, a44, a45, e30]
    by_cases e : r = m
    · rw [e, pk_us, pk_us, pk_us, pk_us]
      rw [pk_un (show 4 * m ≠ 4 * m + 3 by omega), pk_un (show 4 * m ≠ 4 * m + 2 by omega), pk_un (show 4 * m ≠ 4 * m + 1 by omega), pk_us, pk_un (show 4 * m + 1 ≠ 4 * m + 3 by omega), pk_un (show 4 * m + 1 ≠ 4 * m + 2 by omega), pk_us, pk_un (show 4 * m + 2 ≠ 4 * m + 3 by omega), pk_us, pk_us]
      exact ⟨rfl, rfl, rfl, hdd, hru⟩
    · have q := l3 r (by omega)
      rw [pk_un e, pk_un e, pk_un e, pk_un e]
      rw [pk_un (show 4 * r ≠ 4 * m + 3 by omega), pk_un (show 4 * r ≠ 4 * m + 2 by omega), pk_un (show 4 * r ≠ 4 * m + 1 by omega), pk_un (show 4 * r ≠ 4 * m by omega), pk_un (show 4 * r + 1 ≠ 4 * m + 3 by omega), pk_un (show 4 * r + 1 ≠ 4 * m + 2 by omega), pk_un (show 4 * r + 1 ≠ 4 * m + 1 by omega), pk_un (show 4 * r + 1 ≠ 4 * m by omega), pk_un (show 4 * r + 2 ≠ 4 * m + 3 by omega), pk_un (show 4 * r + 2 ≠ 4 * m + 2 by omega), pk_un (show 4 * r + 2 ≠ 4 * m + 1 by omega), pk_un (show 4 * r + 2 ≠ 4 * m by omega), pk_un (show 4 * r + 3 ≠ 4 * m + 3 by omega), pk_un (show 4 * r + 3 ≠ 4 * m + 2 by omega), pk_un (show 4 * r + 3 ≠ 4 * m + 1 by omega), pk_un (show 4 * r + 3 ≠ 4 * m by omega)]
      exact q
