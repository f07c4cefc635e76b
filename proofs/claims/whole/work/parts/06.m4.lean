/-! taking from the lots -/
theorem i32_le {a b : Int32} : a ≤ b ↔ a.toInt ≤ b.toInt := Int32.le_iff_toInt_le
theorem i32_sub {a b : Int32} (h1 : 0 ≤ b) (h2 : b ≤ a) : (a - b).toInt = a.toInt - b.toInt := by
  rw [i32_le] at h1 h2
  have h0 : (0 : Int32).toInt = 0 := by decide
  have h3 := a.toInt_lt
  have h4 := a.le_toInt
  rw [Int32.toInt_sub]
  exact Int.bmod_eq_of_le (by omega) (by omega)
theorem i32_sub_pos {a b : Int32} (h1 : 0 ≤ b) (h2 : ¬ a ≤ b) : ¬ (a - b) ≤ 0 := by
  have h0 : (0 : Int32).toInt = 0 := by decide
  have h3 : b ≤ a := Int32.le_of_lt (Int32.not_le.mp h2)
  have h4 := i32_sub h1 h3
  rw [i32_le] at h2 ⊢
  omega
theorem i32_sub_self (a : Int32) : a - a ≤ 0 := by rw [Int32.sub_self]; exact Int32.le_refl 0
theorem nextN_spec (x : MS) (kd le : Int32) : ∀ k : Nat, nextN x kd le k = -1 ∨ ∃ i, i < k ∧ nextN x kd le k = nI i ∧ mA x 5 i = kd ∧ ¬ mA x 9 i ≤ 0 ∧ ¬ mA x 7 i < le := by
  intro k
  induction k with
  | zero => exact Or.inl rfl
  | succ k ih =>
    rw [nextN_s]
    split
    · rename_i h
      exact Or.inr ⟨k, by omega, rfl, h.1, h.2.1, h.2.2.1⟩
    · rcases ih with h | ⟨i, hi, h⟩
      · exact Or.inl h
      · exact Or.inr ⟨i, by omega, h⟩
/-- how many are above 0 -/
def cntP (f : Nat → Int32) (n : Nat) : Nat := itN (fun j a => if f j ≤ 0 then a else a + 1) 0 n
theorem cntP_s (f : Nat → Int32) (n : Nat) : cntP f (n + 1) = if f n ≤ 0 then cntP f n else cntP f n + 1 := rfl
theorem cntP_le (f : Nat → Int32) : ∀ n, cntP f n ≤ n
  | 0 => Nat.le_refl 0
  | n + 1 => by
    rw [cntP_s]
    have := cntP_le f n
    split <;> omega
theorem cntP_far (f : Nat → Int32) (j : Nat) (v : Int32) (n : Nat) (h : n ≤ j) : cntP (upd f j v) n = cntP f n := by
  induction n with
  | zero => exact (itN_0 _ _).trans (itN_0 _ _).symm
  | succ n ih =>
    have hne : n ≠ j := by omega
    have e : upd f j v n = f n := if_neg hne
    rw [cntP_s, cntP_s, ih (by omega), e]
theorem cntP_upd (f : Nat → Int32) (j : Nat) (v : Int32) (hf : ¬ f j ≤ 0) (n : Nat) (h : j < n) : cntP (upd f j v) n + (if v ≤ 0 then 1 else 0) = cntP f n ∧ 1 ≤ cntP f n := by
  induction n with
  | zero => omega
  | succ n ih =>
    rw [cntP_s, cntP_s]
    by_cases hj : j = n
    · subst hj
      rw [cntP_far f j v j (Nat.le_refl j)]
      simp only [upd, if_true, hf, if_false]
      split <;> omega
    · have ih := ih (by omega)
      simp only [upd, show n ≠ j from fun q => hj q.symm, if_false]
      split <;> omega
def lF (x : MS) (kd g : Int32) : Int32 := if g ≤ 0 then -1 else nextF x kd
theorem lF_spec {x : MS} {kd g : Int32} (h : ¬ lF x kd g < 0) : ∃ j, j < nN x 4 ∧ lF x kd g = nI j ∧ ¬ g ≤ 0 ∧ nextF x kd = nI j ∧ ¬ mA x 9 j ≤ 0 ∧ mA x 5 j = kd ∧ ¬ mA x 7 j < mI x 2 + spareN x kd (nN x 25) := by
  unfold lF at h ⊢
  by_cases hg : g ≤ 0
  · rw [if_pos hg] at h; exact absurd (by decide) h
  · rw [if_neg hg] at h ⊢
    rcases nextN_spec x kd (mI x 2 + spareN x kd (nN x 25)) (nN x 4) with q | ⟨i, hi, q1, q2, q3, q4⟩
    · exact absurd (by rw [nextF, q]; decide) h
    · exact ⟨i, hi, q1, hg, q1, q3, q2, q4⟩
def itsF (x : MS) (j : Nat) (g : Int32) : Int32 := if g ≤ mA x 9 j then g else mA x 9 j
def takeS (x : MS) (j : Nat) (its : Int32) : MS := sI (sA (sA (sA (sA x 9 (upd (mA x 9) j (mA x 9 j - its))) 10 (upd (mA x 10) j (mA x 10 j + its))) 38 (upd (mA x 38) (nN x 37) (nI j))) 39 (upd (mA x 39) (nN x 37) its)) 37 (nI (nN x 37 + 1))
def takeN (kd : Int32) : Nat → MS → Int32 → MS × Int32
  | 0, x, g => (x, g)
  | n + 1, x, g => if lF x kd g < 0 then (x, g) else takeN kd n (takeS x (lF x kd g).toNatClampNeg (itsF x (lF x kd g).toNatClampNeg g)) (g - itsF x (lF x kd g).toNatClampNeg g)
def takeF (x : MS) (kd g : Int32) : MS × Int32 := takeN kd 201 x g
def cntL (x : MS) : Nat := cntP (mA x 9) (nN x 4)
def muT (x : MS) (g : Int32) : Nat := if g ≤ 0 then 0 else cntL x
/-- what taking rests on -/
def okT (x : MS) (g : Int32) : Prop := okN x 4 200 ∧ okN x 25 30 ∧ mI x 37 = nI (nN x 37) ∧ (nN x 37 + (if g ≤ 0 then 0 else cntL x + 1) ≤ 24000) ∧ ∀ j, 0 ≤ mA x 9 j
theorem takeS_I (x : MS) (j : Nat) (its : Int32) (f : Nat) (h : f ≠ 37) : mI (takeS x j its) f = mI x f := by simp [takeS, mI_sI, mI_sA, h]
theorem takeS_N (x : MS) (j : Nat) (its : Int32) (f : Nat) (h : f ≠ 37) : nN (takeS x j its) f = nN x f := by rw [nN, nN, takeS_I x j its f h]
theorem takeS_ok (x : MS) (j : Nat) (its : Int32) {f b : Nat} (h : f ≠ 37) (hk : okN x f b) : okN (takeS x j its) f b := by
  unfold okN
  rw [takeS_I x j its f h, takeS_N x j its f h]
  exact hk
theorem takeS_9 (x : MS) (j : Nat) (its : Int32) : mA (takeS x j its) 9 = upd (mA x 9) j (mA x 9 j - its) := by simp [takeS, mA_sI, mA_sA]
theorem takeS_37 (x : MS) (j : Nat) (its : Int32) (h : nN x 37 < 24000) : mI (takeS x j its) 37 = nI (nN (takeS x j its) 37) ∧ nN (takeS x j its) 37 = nN x 37 + 1 := by
  have e : mI (takeS x j its) 37 = nI (nN x 37 + 1) := by simp [takeS, mI_sI]
  have e2 : nN (takeS x j its) 37 = nN x 37 + 1 := by rw [nN, e]; exact nI_clamp (by omega)
  exact ⟨by rw [e, e2], e2⟩
theorem take_step {x : MS} {kd g : Int32} {j : Nat} (h : okT x g) (hj : j < nN x 4) (hg : ¬ g ≤ 0) (hp : ¬ mA x 9 j ≤ 0) :
    muT (takeS x j (itsF x j g)) (g - itsF x j g) < muT x g ∧ okT (takeS x j (itsF x j g)) (g - itsF x j g) := by
  obtain ⟨h4, h25, h37, hb, hn⟩ := h
  rw [if_neg hg] at hb
  have h37' := takeS_37 x j (itsF x j g) (by omega)
  have hc := cntP_upd (mA x 9) j (mA x 9 j - itsF x j g) hp (nN x 4) hj
  have hcl : cntL (takeS x j (itsF x j g)) = cntP (upd (mA x 9) j (mA x 9 j - itsF x j g)) (nN x 4) := by rw [cntL, takeS_9, takeS_N _ _ _ _ (by decide)]
  have hcx : cntL x = cntP (mA x 9) (nN x 4) := rfl
  have hnn : ∀ i, 0 ≤ mA (takeS x j (itsF x j g)) 9 i := by
    intro i
    rw [takeS_9]
    by_cases hi : i = j
    · subst hi
      simp only [upd, if_true]
      unfold itsF
      have h0 : (0 : Int32).toInt = 0 := by decide
      have hq := hn i
      by_cases hgl : g ≤ mA x 9 i
      · rw [if_pos hgl]
        have := i32_sub (a := mA x 9 i) (b := g) (Int32.le_of_lt (Int32.not_le.mp hg)) hgl
        rw [i32_le] at hgl ⊢
        omega
      · rw [if_neg hgl, Int32.sub_self]; exact Int32.le_refl 0
    · simp only [upd, hi, if_false]; exact hn i
  by_cases hgl : g ≤ mA x 9 j
  · have hi : itsF x j g = g := if_pos hgl
    rw [hi] at h37' hc hcl hnn ⊢
    have hz : g - g ≤ 0 := i32_sub_self g
    refine ⟨?_, takeS_ok _ _ _ (by decide) h4, takeS_ok _ _ _ (by decide) h25, h37'.1, ?_, hnn⟩
    · rw [muT, muT, if_pos hz, if_neg hg]; omega
    · rw [if_pos hz]; omega
  · have hi : itsF x j g = mA x 9 j := if_neg hgl
    rw [hi] at h37' hc hcl hnn ⊢
    have hz : ¬ g - mA x 9 j ≤ 0 := i32_sub_pos (hn j) hgl
    rw [Int32.sub_self, if_pos (Int32.le_refl 0)] at hc
    rw [Int32.sub_self] at hcl
    refine ⟨?_, takeS_ok _ _ _ (by decide) h4, takeS_ok _ _ _ (by decide) h25, h37'.1, ?_, hnn⟩
    · rw [muT, muT, if_neg hz, if_neg hg]; omega
    · rw [if_neg hz]; omega
theorem takeN_step {x : MS} {kd g : Int32} {j n : Nat} (hl : lF x kd g = nI j) (hj : j < 2 ^ 31) : takeN kd (n + 1) x g = takeN kd n (takeS x j (itsF x j g)) (g - itsF x j g) := by
  rw [takeN, hl, if_neg (nI_pos hj), nI_clamp hj]
theorem takeN_exit {x : MS} {kd g : Int32} {n : Nat} (hl : lF x kd g < 0) : takeN kd (n + 1) x g = (x, g) := by rw [takeN, if_pos hl]
set_option maxHeartbeats 4000000 in
set_option maxRecDepth 100000 in
theorem c_take (l : Launch) (D : va_G) (cI cJ : ClassId) (ad : Nat → Nat) (x : MS) (a0 : Int32) (a1 : Int32) (hT : okT x a1) : Mi l yX12_take wsX12_take { frames := 2, cells := 0, slots := 0, locals := 47 } D cI cJ ad [.int a0, .int a1] x (fun r y => r = (takeF x a0 a1).2 ∧ y = (takeF x a0 a1).1) := by
  refine Mi_of (cc := cX12_take) (nL := 6) (ret := (some .int)) (by decide) rfl rfl (Nat.le_of_ble_eq_true rfl) ?_
  intro p e s m args below meth c A hx hb hr hlocks hml hts hown hA hK hP hD hS ls hl
  have hin : ∀ w ∈ wsX120, w ∈ wsX12_take := fun w h => List.mem_cons_of_mem _ (List.mem_append_right _ h)
  have hl : lv_has ls 6 [(0, .ref (ad 0)), (1, .int a0), (2, .int a1)] := hl
  refine lv_iload_n hx hb dX12_take_0 rfl (lv_at hl 2 rfl) ?_
  refine lv_topi (fun x1 ex1 => ?_)
  refine lv_istore_n (lv' := [(3, .int x1), (0, .ref (ad 0)), (1, .int a0), (2, .int a1)]) hx hb dX12_take_1 rfl hl (by decide) rfl (fun ls hl => ?_)
  have lp17 : ∀ (n : Nat) (z : MS) (g : Int32), (muT z g < n) → (takeN a0 n z g = takeF x a0 a1) → (okT z g) → ∀ (H : Heap) (locs : List Loc), va_P D vwCl (wsM cI cJ ad z) H → va_D A (wsM cI cJ ad z) → va_S A s.heap H locs → ∀ ls : Array Slot, lv_has ls 6 [(0, .ref (ad 0)), (1, .int a0), (2, .int a1), (3, .int g), (4, .int (lF z a0 g))] → W p l e { frames := 2, cells := 0, slots := 0, locals := 47 } s m args below meth c H locs 0 0 (MQ below (va_Qi (fun r y => r = (takeF x a0 a1).2 ∧ y = (takeF x a0 a1).1) (mAft D cI cJ ad A) A) args s 0 0 A) (F0 m 17 ls []) := by
    intro n
    induction n with
    | zero => intro z g hn ht hz; exact absurd hn (by omega)
    | succ n ih17 =>
      intro z g hn ht hz H locs hP hD hS ls hl
      refine lv_iload hx hb dX12_take_17 (lv_at hl 4 rfl) ?_
      refine lv_if_lt (tgt := 125) hx hb dX12_take_19 (by decide) (fun c19 => ?_) (fun c19 => ?_)
      · skip
        rw [takeN_exit c19] at ht
        refine lv_iload_n hx hb dX12_take_125 rfl (lv_at hl 3 rfl) ?_
        refine M_iret (v := g) hx hb hr hlocks hK hP hD hS dX12_take_126 ?_
        rw [← ht]; exact ⟨rfl, rfl⟩
      · skip
        obtain ⟨j, hj, hlj, hg, hnx, hps, hkd, hls⟩ := lF_spec c19
        have hj2 : j < 200 := by have := hz.1.2; omega
        obtain ⟨s1, s2⟩ := take_step (kd := a0) hz hj hg hps
        rw [takeN_step hlj (by omega)] at ht
        obtain ⟨z4, z25, z37, zb, zn⟩ := id hz
        rw [if_neg hg] at zb
        rw [hlj] at hl
        refine lv_aload_n hx hb dX12_take_22 rfl (lv_at hl 0 rfl) ?_
        refine M_get hx hb hts hin hown hK hP 9 (by decide) rfl (index := 25) (by decide +kernel) rfl dX12_take_23 ?_
        refine lv_iload hx hb dX12_take_26 (lv_at hl 4 rfl) ?_
        have h28 : vp_in ((nI j)) 200 := by exact vp_in_nI hj2 (by decide)
        refine va_iald hx hb hK hP 6 0 rfl rfl h28 dX12_take_28 ?_
        refine lv_topi (fun v28 ev28 => ?_)
        rw [nI_clamp (by omega)] at ev28
        refine lv_iload_n hx hb dX12_take_29 rfl (lv_at hl 3 rfl) ?_
        refine lv_icmp_ge (tgt := 43) hx hb dX12_take_30 (by decide) (fun c30 => ?_) (fun c30 => ?_)
        · skip
          simp only [ev28] at c30
          refine lv_iload_n hx hb dX12_take_43 rfl (lv_at hl 3 rfl) ?_
          refine lv_topi (fun x44 ex44 => ?_)
          refine lv_istore (lv' := [(5, .int x44), (0, .ref (ad 0)), (1, .int a0), (2, .int a1), (3, .int g), (4, .int (nI j))]) hx hb dX12_take_44 hl (by decide) rfl (fun ls hl => ?_)
          refine lv_aload_n hx hb dX12_take_46 rfl (lv_at hl 1 rfl) ?_
          refine M_get hx hb hts hin hown hK hP 9 (by decide) rfl (index := 25) (by decide +kernel) rfl dX12_take_47 ?_
          refine lv_iload hx hb dX12_take_50 (lv_at hl 5 rfl) ?_
          refine lv_dup2_11 hx hb dX12_take_52 rfl rfl ?_
          have h53 : vp_in ((nI j)) 200 := by exact vp_in_nI hj2 (by decide)
          refine va_iald hx hb hK hP 6 0 rfl rfl h53 dX12_take_53 ?_
          refine lv_topi (fun v53 ev53 => ?_)
          rw [nI_clamp (by omega)] at ev53
          refine lv_iload hx hb dX12_take_54 (lv_at hl 0 rfl) ?_
          refine lv_isub hx hb dX12_take_56 ?_
          have h57 : vp_in ((nI j)) 200 := by exact vp_in_nI hj2 (by decide)
          refine M_iast hx hb hK hP hD hS 6 rfl h57 (pA_9 cI cJ ad z _) dX12_take_57 (fun y57 H locs ey57 hP hD hS => ?_)
          rw [nI_clamp (by omega)] at ey57
          refine lv_aload_n hx hb dX12_take_58 rfl (lv_at hl 1 rfl) ?_
          refine M_get hx hb hts hin hown hK hP 10 (by decide) rfl (index := 28) (by decide +kernel) rfl dX12_take_59 ?_
          refine lv_iload hx hb dX12_take_62 (lv_at hl 5 rfl) ?_
          refine lv_dup2_11 hx hb dX12_take_64 rfl rfl ?_
          have h65 : vp_in ((nI j)) 200 := by exact vp_in_nI hj2 (by decide)
          refine va_iald hx hb hK hP 7 0 rfl rfl h65 dX12_take_65 ?_
          refine lv_topi (fun v65 ev65 => ?_)
          rw [nI_clamp (by omega)] at ev65
          refine lv_iload hx hb dX12_take_66 (lv_at hl 0 rfl) ?_
          refine lv_iadd hx hb dX12_take_68 ?_
          have h69 : vp_in ((nI j)) 200 := by exact vp_in_nI hj2 (by decide)
          refine M_iast hx hb hK hP hD hS 7 rfl h69 (pA_10 cI cJ ad y57 _) dX12_take_69 (fun y69 H locs ey69 hP hD hS => ?_)
          rw [nI_clamp (by omega)] at ey69
          refine lv_iload_n hx hb dX12_take_70 rfl (lv_at hl 4 rfl) ?_
          refine lv_iload hx hb dX12_take_71 (lv_at hl 0 rfl) ?_
          refine lv_isub hx hb dX12_take_73 ?_
          refine lv_topi (fun x74 ex74 => ?_)
          refine lv_istore_n (lv' := [(3, .int x74), (5, .int x44), (0, .ref (ad 0)), (1, .int a0), (2, .int a1), (4, .int (nI j))]) hx hb dX12_take_74 rfl hl (by decide) rfl (fun ls hl => ?_)
          refine lv_aload_n hx hb dX12_take_75 rfl (lv_at hl 2 rfl) ?_
          refine M_get hx hb hts hin hown hK hP 38 (by decide) rfl (index := 92) (by decide +kernel) rfl dX12_take_76 ?_
          refine lv_aload_n hx hb dX12_take_79 rfl (lv_at hl 2 rfl) ?_
          refine M_get hx hb hts hin hown hK hP 37 (by decide) rfl (index := 229) (by decide +kernel) rfl dX12_take_80 ?_
          refine lv_topi (fun v80 ev80 => ?_)
          refine lv_iload hx hb dX12_take_83 (lv_at hl 5 rfl) ?_
          have h85 : vp_in v80 24000 := by simp only [ex1, ev28, ex44, ev53, ey57, ev65, ey69, ex74, ev80, mI_sI, mI_sA, mI_sL, mI_sB, mL_sI, mL_sA, mL_sL, mL_sB, mA_sI, mA_sA, mA_sL, mA_sB, mB_sI, mB_sA, mB_sL, mB_sB, z37]; exact vp_in_nI (by omega) (by decide)
          refine M_iast hx hb hK hP hD hS 28 rfl h85 (pA_38 cI cJ ad y69 _) dX12_take_85 (fun y85 H locs ey85 hP hD hS => ?_)
          refine lv_aload_n hx hb dX12_take_86 rfl (lv_at hl 2 rfl) ?_
          refine M_get hx hb hts hin hown hK hP 39 (by decide) rfl (index := 95) (by decide +kernel) rfl dX12_take_87 ?_
          refine lv_aload_n hx hb dX12_take_90 rfl (lv_at hl 2 rfl) ?_
          refine M_get hx hb hts hin hown hK hP 37 (by decide) rfl (index := 229) (by decide +kernel) rfl dX12_take_91 ?_
          refine lv_topi (fun v91 ev91 => ?_)
          refine lv_iload hx hb dX12_take_94 (lv_at hl 1 rfl) ?_
          have h96 : vp_in v91 24000 := by simp only [ex1, ev28, ex44, ev53, ey57, ev65, ey69, ex74, ev80, ey85, ev91, mI_sI, mI_sA, mI_sL, mI_sB, mL_sI, mL_sA, mL_sL, mL_sB, mA_sI, mA_sA, mA_sL, mA_sB, mB_sI, mB_sA, mB_sL, mB_sB, z37]; exact vp_in_nI (by omega) (by decide)
          refine M_iast hx hb hK hP hD hS 29 rfl h96 (pA_39 cI cJ ad y85 _) dX12_take_96 (fun y96 H locs ey96 hP hD hS => ?_)
          refine lv_aload_n hx hb dX12_take_97 rfl (lv_at hl 2 rfl) ?_
          refine lv_dup hx hb dX12_take_98 rfl ?_
          refine M_get hx hb hts hin hown hK hP 37 (by decide) rfl (index := 229) (by decide +kernel) rfl dX12_take_99 ?_
          refine lv_topi (fun v99 ev99 => ?_)
          refine lv_iconst (v := 1) hx hb dX12_take_102 (by decide) ?_
          refine lv_iadd hx hb dX12_take_103 ?_
          refine M_put hx hb hts hin hown hK hP hD hS 37 (by decide) rfl rfl (index := 229) (by decide +kernel) (ty := .int) (by decide +kernel) rfl rfl (pI_37 cI cJ ad y96 _) dX12_take_104 (fun y104 H locs ey104 hP hD hS => ?_)
          refine lv_iload_n hx hb dX12_take_107 rfl (lv_at hl 0 rfl) ?_
          refine lv_if_le (tgt := 119) hx hb dX12_take_108 (by decide) (fun c108 => ?_) (fun c108 => ?_)
          · skip
            simp only [ex74, ex44] at c108
            refine lv_iconst (v := -1) hx hb dX12_take_119 (by decide) ?_
            refine lv_topi (fun x120 ex120 => ?_)
            refine lv_istore (lv' := [(4, .int x120), (3, .int x74), (5, .int x44), (0, .ref (ad 0)), (1, .int a0), (2, .int a1)]) hx hb dX12_take_120 hl (by decide) rfl (fun ls hl => ?_)
            refine lv_goto (tgt := 17) hx hb dX12_take_122 (by decide) ?_
            have q3 : x74 = (g - itsF z j g) := by simp only [ex1, ev28, ex44, ev53, ey57, ev65, ey69, ex74, ev80, ey85, ev91, ey96, ev99, ey104, ex120, itsF, c19, c30, c108, not_true_eq_false, not_false_eq_true, and_true, true_and, and_false, false_and, and_self, if_true, if_false, ite_true, ite_false, ↓reduceIte, Int32.add_zero, Bool.not_eq_false, Bool.and_true, Bool.true_and, Bool.and_false, Bool.false_and, Bool.false_eq_true]
            have q4 : x120 = (lF (takeS z j (itsF z j g)) a0 (g - itsF z j g)) := by rw [ex120, lF, ← q3]; first | (rw [if_pos (by simp only [ex1, ev28, ex44, ev53, ey57, ev65, ey69, ex74, ev80, ey85, ev91, ey96, ev99, ey104, ex120]; exact c108)]; done) | (rw [if_neg (by simp only [ex1, ev28, ex44, ev53, ey57, ev65, ey69, ex74, ev80, ey85, ev91, ey96, ev99, ey104, ex120]; exact c108), hw113, qy])
            rw [q3, q4] at hl
            have qx : y104 = (takeS z j (itsF z j g)) := by simp [ex1, ev28, ex44, ev53, ey57, ev65, ey69, ex74, ev80, ey85, ev91, ey96, ev99, ey104, ex120, takeS, itsF, c19, c30, c108, mI_sI, mI_sA, mI_sL, mI_sB, mL_sI, mL_sA, mL_sL, mL_sB, mA_sI, mA_sA, mA_sL, mA_sB, mB_sI, mB_sA, mB_sL, mB_sB, z37, nI_1, nI_clamp (show nN z 37 < 2 ^ 31 by omega)]
            rw [qx] at hP hD
            exact ih17 (takeS z j (itsF z j g)) (g - itsF z j g) (by omega) (ht) (s2) _ _ hP hD hS ls (lv_sub hl [3, 4, 5, 1, 0] rfl)
          · skip
            simp only [ex74, ex44] at c108
            refine lv_aload_n hx hb dX12_take_111 rfl (lv_at hl 2 rfl) ?_
            refine lv_iload_n hx hb dX12_take_112 rfl (lv_at hl 3 rfl) ?_
            have qy : y104 = (takeS z j (itsF z j g)) := by simp [ex1, ev28, ex44, ev53, ey57, ev65, ey69, ex74, ev80, ey85, ev91, ey96, ev99, ey104, takeS, itsF, c19, c30, c108, mI_sI, mI_sA, mI_sL, mI_sB, mL_sI, mL_sA, mL_sL, mL_sB, mA_sI, mA_sA, mA_sL, mA_sB, mB_sI, mB_sA, mB_sL, mB_sB, z37, nI_1, nI_clamp (show nN z 37 < 2 ^ 31 by omega)]
            refine M_callr (av := [.int a0]) (rest := []) ⟨hx, hb, hml, hown, hts⟩ hA hK hP hD hS (c_nextOf l D cI cJ ad y104 (a0) (by rw [qy]; exact s2.1) (by rw [qy]; exact s2.2.1)) (cwV 1 hts gX12_take_X12_nextOf rfl rfl rfl (by decide +kernel) ⟨Nat.le_of_ble_eq_true rfl, Nat.le_of_ble_eq_true rfl⟩) rfl hl.1 rfl (Nat.le_of_ble_eq_true rfl) dX12_take_113 ⟨Nat.le_of_ble_eq_true rfl, Nat.le_of_ble_eq_true rfl⟩ (fun r113 H locs hw113 hP hD hS => ?_)
            refine lv_goto (tgt := 120) hx hb dX12_take_116 (by decide) ?_
            refine lv_topi (fun x120 ex120 => ?_)
            refine lv_istore (lv' := [(4, .int x120), (3, .int x74), (5, .int x44), (0, .ref (ad 0)), (1, .int a0), (2, .int a1)]) hx hb dX12_take_120 hl (by decide) rfl (fun ls hl => ?_)
            refine lv_goto (tgt := 17) hx hb dX12_take_122 (by decide) ?_
            have q3 : x74 = (g - itsF z j g) := by simp only [ex1, ev28, ex44, ev53, ey57, ev65, ey69, ex74, ev80, ey85, ev91, ey96, ev99, ey104, hw113, ex120, itsF, c19, c30, c108, not_true_eq_false, not_false_eq_true, and_true, true_and, and_false, false_and, and_self, if_true, if_false, ite_true, ite_false, ↓reduceIte, Int32.add_zero, Bool.not_eq_false, Bool.and_true, Bool.true_and, Bool.and_false, Bool.false_and, Bool.false_eq_true]
            have q4 : x120 = (lF (takeS z j (itsF z j g)) a0 (g - itsF z j g)) := by rw [ex120, lF, ← q3]; first | (rw [if_pos (by simp only [ex1, ev28, ex44, ev53, ey57, ev65, ey69, ex74, ev80, ey85, ev91, ey96, ev99, ey104, hw113, ex120]; exact c108)]; done) | (rw [if_neg (by simp only [ex1, ev28, ex44, ev53, ey57, ev65, ey69, ex74, ev80, ey85, ev91, ey96, ev99, ey104, hw113, ex120]; exact c108), hw113, qy])
            rw [q3, q4] at hl
            have qx : y104 = (takeS z j (itsF z j g)) := by simp [ex1, ev28, ex44, ev53, ey57, ev65, ey69, ex74, ev80, ey85, ev91, ey96, ev99, ey104, hw113, ex120, takeS, itsF, c19, c30, c108, mI_sI, mI_sA, mI_sL, mI_sB, mL_sI, mL_sA, mL_sL, mL_sB, mA_sI, mA_sA, mA_sL, mA_sB, mB_sI, mB_sA, mB_sL, mB_sB, z37, nI_1, nI_clamp (show nN z 37 < 2 ^ 31 by omega)]
            rw [qx] at hP hD
            exact ih17 (takeS z j (itsF z j g)) (g - itsF z j g) (by omega) (ht) (s2) _ _ hP hD hS ls (lv_sub hl [3, 4, 5, 1, 0] rfl)
        · skip
          simp only [ev28] at c30
          refine lv_aload_n hx hb dX12_take_33 rfl (lv_at hl 0 rfl) ?_
          refine M_get hx hb hts hin hown hK hP 9 (by decide) rfl (index := 25) (by decide +kernel) rfl dX12_take_34 ?_
          refine lv_iload hx hb dX12_take_37 (lv_at hl 4 rfl) ?_
          have h39 : vp_in ((nI j)) 200 := by exact vp_in_nI hj2 (by decide)
          refine va_iald hx hb hK hP 6 0 rfl rfl h39 dX12_take_39 ?_
          refine lv_topi (fun v39 ev39 => ?_)
          rw [nI_clamp (by omega)] at ev39
          refine lv_goto (tgt := 44) hx hb dX12_take_40 (by decide) ?_
          refine lv_topi (fun x44 ex44 => ?_)
          refine lv_istore (lv' := [(5, .int x44), (0, .ref (ad 0)), (1, .int a0), (2, .int a1), (3, .int g), (4, .int (nI j))]) hx hb dX12_take_44 hl (by decide) rfl (fun ls hl => ?_)
          refine lv_aload_n hx hb dX12_take_46 rfl (lv_at hl 1 rfl) ?_
          refine M_get hx hb hts hin hown hK hP 9 (by decide) rfl (index := 25) (by decide +kernel) rfl dX12_take_47 ?_
          refine lv_iload hx hb dX12_take_50 (lv_at hl 5 rfl) ?_
          refine lv_dup2_11 hx hb dX12_take_52 rfl rfl ?_
          have h53 : vp_in ((nI j)) 200 := by exact vp_in_nI hj2 (by decide)
          refine va_iald hx hb hK hP 6 0 rfl rfl h53 dX12_take_53 ?_
          refine lv_topi (fun v53 ev53 => ?_)
          rw [nI_clamp (by omega)] at ev53
          refine lv_iload hx hb dX12_take_54 (lv_at hl 0 rfl) ?_
          refine lv_isub hx hb dX12_take_56 ?_
          have h57 : vp_in ((nI j)) 200 := by exact vp_in_nI hj2 (by decide)
          refine M_iast hx hb hK hP hD hS 6 rfl h57 (pA_9 cI cJ ad z _) dX12_take_57 (fun y57 H locs ey57 hP hD hS => ?_)
          rw [nI_clamp (by omega)] at ey57
          refine lv_aload_n hx hb dX12_take_58 rfl (lv_at hl 1 rfl) ?_
          refine M_get hx hb hts hin hown hK hP 10 (by decide) rfl (index := 28) (by decide +kernel) rfl dX12_take_59 ?_
          refine lv_iload hx hb dX12_take_62 (lv_at hl 5 rfl) ?_
          refine lv_dup2_11 hx hb dX12_take_64 rfl rfl ?_
          have h65 : vp_in ((nI j)) 200 := by exact vp_in_nI hj2 (by decide)
          refine va_iald hx hb hK hP 7 0 rfl rfl h65 dX12_take_65 ?_
          refine lv_topi (fun v65 ev65 => ?_)
          rw [nI_clamp (by omega)] at ev65
          refine lv_iload hx hb dX12_take_66 (lv_at hl 0 rfl) ?_
          refine lv_iadd hx hb dX12_take_68 ?_
          have h69 : vp_in ((nI j)) 200 := by exact vp_in_nI hj2 (by decide)
          refine M_iast hx hb hK hP hD hS 7 rfl h69 (pA_10 cI cJ ad y57 _) dX12_take_69 (fun y69 H locs ey69 hP hD hS => ?_)
          rw [nI_clamp (by omega)] at ey69
          refine lv_iload_n hx hb dX12_take_70 rfl (lv_at hl 4 rfl) ?_
          refine lv_iload hx hb dX12_take_71 (lv_at hl 0 rfl) ?_
          refine lv_isub hx hb dX12_take_73 ?_
          refine lv_topi (fun x74 ex74 => ?_)
          refine lv_istore_n (lv' := [(3, .int x74), (5, .int x44), (0, .ref (ad 0)), (1, .int a0), (2, .int a1), (4, .int (nI j))]) hx hb dX12_take_74 rfl hl (by decide) rfl (fun ls hl => ?_)
          refine lv_aload_n hx hb dX12_take_75 rfl (lv_at hl 2 rfl) ?_
          refine M_get hx hb hts hin hown hK hP 38 (by decide) rfl (index := 92) (by decide +kernel) rfl dX12_take_76 ?_
          refine lv_aload_n hx hb dX12_take_79 rfl (lv_at hl 2 rfl) ?_
          refine M_get hx hb hts hin hown hK hP 37 (by decide) rfl (index := 229) (by decide +kernel) rfl dX12_take_80 ?_
          refine lv_topi (fun v80 ev80 => ?_)
          refine lv_iload hx hb dX12_take_83 (lv_at hl 5 rfl) ?_
          have h85 : vp_in v80 24000 := by simp only [ex1, ev28, ev39, ex44, ev53, ey57, ev65, ey69, ex74, ev80, mI_sI, mI_sA, mI_sL, mI_sB, mL_sI, mL_sA, mL_sL, mL_sB, mA_sI, mA_sA, mA_sL, mA_sB, mB_sI, mB_sA, mB_sL, mB_sB, z37]; exact vp_in_nI (by omega) (by decide)
          refine M_iast hx hb hK hP hD hS 28 rfl h85 (pA_38 cI cJ ad y69 _) dX12_take_85 (fun y85 H locs ey85 hP hD hS => ?_)
          refine lv_aload_n hx hb dX12_take_86 rfl (lv_at hl 2 rfl) ?_
          refine M_get hx hb hts hin hown hK hP 39 (by decide) rfl (index := 95) (by decide +kernel) rfl dX12_take_87 ?_
          refine lv_aload_n hx hb dX12_take_90 rfl (lv_at hl 2 rfl) ?_
          refine M_get hx hb hts hin hown hK hP 37 (by decide) rfl (index := 229) (by decide +kernel) rfl dX12_take_91 ?_
          refine lv_topi (fun v91 ev91 => ?_)
          refine lv_iload hx hb dX12_take_94 (lv_at hl 1 rfl) ?_
          have h96 : vp_in v91 24000 := by simp only [ex1, ev28, ev39, ex44, ev53, ey57, ev65, ey69, ex74, ev80, ey85, ev91, mI_sI, mI_sA, mI_sL, mI_sB, mL_sI, mL_sA, mL_sL, mL_sB, mA_sI, mA_sA, mA_sL, mA_sB, mB_sI, mB_sA, mB_sL, mB_sB, z37]; exact vp_in_nI (by omega) (by decide)
          refine M_iast hx hb hK hP hD hS 29 rfl h96 (pA_39 cI cJ ad y85 _) dX12_take_96 (fun y96 H locs ey96 hP hD hS => ?_)
          refine lv_aload_n hx hb dX12_take_97 rfl (lv_at hl 2 rfl) ?_
          refine lv_dup hx hb dX12_take_98 rfl ?_
          refine M_get hx hb hts hin hown hK hP 37 (by decide) rfl (index := 229) (by decide +kernel) rfl dX12_take_99 ?_
          refine lv_topi (fun v99 ev99 => ?_)
          refine lv_iconst (v := 1) hx hb dX12_take_102 (by decide) ?_
          refine lv_iadd hx hb dX12_take_103 ?_
          refine M_put hx hb hts hin hown hK hP hD hS 37 (by decide) rfl rfl (index := 229) (by decide +kernel) (ty := .int) (by decide +kernel) rfl rfl (pI_37 cI cJ ad y96 _) dX12_take_104 (fun y104 H locs ey104 hP hD hS => ?_)
          refine lv_iload_n hx hb dX12_take_107 rfl (lv_at hl 0 rfl) ?_
          refine lv_if_le (tgt := 119) hx hb dX12_take_108 (by decide) (fun c108 => ?_) (fun c108 => ?_)
          · skip
            simp only [ex74, ex44, ev39] at c108
            refine lv_iconst (v := -1) hx hb dX12_take_119 (by decide) ?_
            refine lv_topi (fun x120 ex120 => ?_)
            refine lv_istore (lv' := [(4, .int x120), (3, .int x74), (5, .int x44), (0, .ref (ad 0)), (1, .int a0), (2, .int a1)]) hx hb dX12_take_120 hl (by decide) rfl (fun ls hl => ?_)
            refine lv_goto (tgt := 17) hx hb dX12_take_122 (by decide) ?_
            have q3 : x74 = (g - itsF z j g) := by simp only [ex1, ev28, ev39, ex44, ev53, ey57, ev65, ey69, ex74, ev80, ey85, ev91, ey96, ev99, ey104, ex120, itsF, c19, c30, c108, not_true_eq_false, not_false_eq_true, and_true, true_and, and_false, false_and, and_self, if_true, if_false, ite_true, ite_false, ↓reduceIte, Int32.add_zero, Bool.not_eq_false, Bool.and_true, Bool.true_and, Bool.and_false, Bool.false_and, Bool.false_eq_true]
            have q4 : x120 = (lF (takeS z j (itsF z j g)) a0 (g - itsF z j g)) := by rw [ex120, lF, ← q3]; first | (rw [if_pos (by simp only [ex1, ev28, ev39, ex44, ev53, ey57, ev65, ey69, ex74, ev80, ey85, ev91, ey96, ev99, ey104, ex120]; exact c108)]; done) | (rw [if_neg (by simp only [ex1, ev28, ev39, ex44, ev53, ey57, ev65, ey69, ex74, ev80, ey85, ev91, ey96, ev99, ey104, ex120]; exact c108), hw113, qy])
            rw [q3, q4] at hl
            have qx : y104 = (takeS z j (itsF z j g)) := by simp [ex1, ev28, ev39, ex44, ev53, ey57, ev65, ey69, ex74, ev80, ey85, ev91, ey96, ev99, ey104, ex120, takeS, itsF, c19, c30, c108, mI_sI, mI_sA, mI_sL, mI_sB, mL_sI, mL_sA, mL_sL, mL_sB, mA_sI, mA_sA, mA_sL, mA_sB, mB_sI, mB_sA, mB_sL, mB_sB, z37, nI_1, nI_clamp (show nN z 37 < 2 ^ 31 by omega)]
            rw [qx] at hP hD
            exact ih17 (takeS z j (itsF z j g)) (g - itsF z j g) (by omega) (ht) (s2) _ _ hP hD hS ls (lv_sub hl [3, 4, 5, 1, 0] rfl)
          · skip
            simp only [ex74, ex44, ev39] at c108
            refine lv_aload_n hx hb dX12_take_111 rfl (lv_at hl 2 rfl) ?_
            refine lv_iload_n hx hb dX12_take_112 rfl (lv_at hl 3 rfl) ?_
            have qy : y104 = (takeS z j (itsF z j g)) := by simp [ex1, ev28, ev39, ex44, ev53, ey57, ev65, ey69, ex74, ev80, ey85, ev91, ey96, ev99, ey104, takeS, itsF, c19, c30, c108, mI_sI, mI_sA, mI_sL, mI_sB, mL_sI, mL_sA, mL_sL, mL_sB, mA_sI, mA_sA, mA_sL, mA_sB, mB_sI, mB_sA, mB_sL, mB_sB, z37, nI_1, nI_clamp (show nN z 37 < 2 ^ 31 by omega)]
            refine M_callr (av := [.int a0]) (rest := []) ⟨hx, hb, hml, hown, hts⟩ hA hK hP hD hS (c_nextOf l D cI cJ ad y104 (a0) (by rw [qy]; exact s2.1) (by rw [qy]; exact s2.2.1)) (cwV 1 hts gX12_take_X12_nextOf rfl rfl rfl (by decide +kernel) ⟨Nat.le_of_ble_eq_true rfl, Nat.le_of_ble_eq_true rfl⟩) rfl hl.1 rfl (Nat.le_of_ble_eq_true rfl) dX12_take_113 ⟨Nat.le_of_ble_eq_true rfl, Nat.le_of_ble_eq_true rfl⟩ (fun r113 H locs hw113 hP hD hS => ?_)
            refine lv_goto (tgt := 120) hx hb dX12_take_116 (by decide) ?_
            refine lv_topi (fun x120 ex120 => ?_)
            refine lv_istore (lv' := [(4, .int x120), (3, .int x74), (5, .int x44), (0, .ref (ad 0)), (1, .int a0), (2, .int a1)]) hx hb dX12_take_120 hl (by decide) rfl (fun ls hl => ?_)
            refine lv_goto (tgt := 17) hx hb dX12_take_122 (by decide) ?_
            have q3 : x74 = (g - itsF z j g) := by simp only [ex1, ev28, ev39, ex44, ev53, ey57, ev65, ey69, ex74, ev80, ey85, ev91, ey96, ev99, ey104, hw113, ex120, itsF, c19, c30, c108, not_true_eq_false, not_false_eq_true, and_true, true_and, and_false, false_and, and_self, if_true, if_false, ite_true, ite_false, ↓reduceIte, Int32.add_zero, Bool.not_eq_false, Bool.and_true, Bool.true_and, Bool.and_false, Bool.false_and, Bool.false_eq_true]
            have q4 : x120 = (lF (takeS z j (itsF z j g)) a0 (g - itsF z j g)) := by rw [ex120, lF, ← q3]; first | (rw [if_pos (by simp only [ex1, ev28, ev39, ex44, ev53, ey57, ev65, ey69, ex74, ev80, ey85, ev91, ey96, ev99, ey104, hw113, ex120]; exact c108)]; done) | (rw [if_neg (by simp only [ex1, ev28, ev39, ex44, ev53, ey57, ev65, ey69, ex74, ev80, ey85, ev91, ey96, ev99, ey104, hw113, ex120]; exact c108), hw113, qy])
            rw [q3, q4] at hl
            have qx : y104 = (takeS z j (itsF z j g)) := by simp [ex1, ev28, ev39, ex44, ev53, ey57, ev65, ey69, ex74, ev80, ey85, ev91, ey96, ev99, ey104, hw113, ex120, takeS, itsF, c19, c30, c108, mI_sI, mI_sA, mI_sL, mI_sB, mL_sI, mL_sA, mL_sL, mL_sB, mA_sI, mA_sA, mA_sL, mA_sB, mB_sI, mB_sA, mB_sL, mB_sB, z37, nI_1, nI_clamp (show nN z 37 < 2 ^ 31 by omega)]
            rw [qx] at hP hD
            exact ih17 (takeS z j (itsF z j g)) (g - itsF z j g) (by omega) (ht) (s2) _ _ hP hD hS ls (lv_sub hl [3, 4, 5, 1, 0] rfl)
  refine lv_iload_n hx hb dX12_take_2 rfl (lv_at hl 0 rfl) ?_
  refine lv_if_le (tgt := 14) hx hb dX12_take_3 (by decide) (fun c3 => ?_) (fun c3 => ?_)
  · skip
    refine lv_iconst (v := -1) hx hb dX12_take_14 (by decide) ?_
    refine lv_topi (fun x15 ex15 => ?_)
    refine lv_istore (lv' := [(4, .int x15), (3, .int x1), (0, .ref (ad 0)), (1, .int a0), (2, .int a1)]) hx hb dX12_take_15 hl (by decide) rfl (fun ls hl => ?_)
    have q3 : x1 = a1 := by rw [ex1]
    have q4 : x15 = (lF x a0 a1) := by rw [ex15, lF]; first | (rw [if_pos (by rw [ex1] at c3; exact c3)]; done) | (rw [if_neg (by rw [ex1] at c3; exact c3)]; exact hw8)
    rw [q3, q4] at hl
    exact lp17 201 x a1 (by unfold muT; have h4 := hT.1.2; have := cntP_le (mA x 9) (nN x 4); unfold cntL; split <;> omega) (rfl) (hT) _ _ hP hD hS ls (lv_sub hl [2, 3, 4, 1, 0] rfl)
  · skip
    refine lv_aload_n hx hb dX12_take_6 rfl (lv_at hl 1 rfl) ?_
    refine lv_iload_n hx hb dX12_take_7 rfl (lv_at hl 2 rfl) ?_
    refine M_callr (av := [.int a0]) (rest := []) ⟨hx, hb, hml, hown, hts⟩ hA hK hP hD hS (c_nextOf l D cI cJ ad x (a0) hT.1 hT.2.1) (cwV 1 hts gX12_take_X12_nextOf rfl rfl rfl (by decide +kernel) ⟨Nat.le_of_ble_eq_true rfl, Nat.le_of_ble_eq_true rfl⟩) rfl hl.1 rfl (Nat.le_of_ble_eq_true rfl) dX12_take_8 ⟨Nat.le_of_ble_eq_true rfl, Nat.le_of_ble_eq_true rfl⟩ (fun r8 H locs hw8 hP hD hS => ?_)
    refine lv_goto (tgt := 15) hx hb dX12_take_11 (by decide) ?_
    refine lv_topi (fun x15 ex15 => ?_)
    refine lv_istore (lv' := [(4, .int x15), (3, .int x1), (0, .ref (ad 0)), (1, .int a0), (2, .int a1)]) hx hb dX12_take_15 hl (by decide) rfl (fun ls hl => ?_)
    have q3 : x1 = a1 := by rw [ex1]
    have q4 : x15 = (lF x a0 a1) := by rw [ex15, lF]; first | (rw [if_pos (by rw [ex1] at c3; exact c3)]; done) | (rw [if_neg (by rw [ex1] at c3; exact c3)]; exact hw8)
    rw [q3, q4] at hl
    exact lp17 201 x a1 (by unfold muT; have h4 := hT.1.2; have := cntP_le (mA x 9) (nN x 4); unfold cntL; split <;> omega) (rfl) (hT) _ _ hP hD hS ls (lv_sub hl [2, 3, 4, 1, 0] rfl)
