def stopF (x : MS) (i : Int32) : Int32 := if 0 ≤ mI x 56 then (if i = -1 then mI x 56 else if ixB (mI x 56) i then mA x 55 i.toNatClampNeg else -1) else -1
def fourN (x : MS) (v : Int32) (k : Nat) : MS := itN (fun j z => sI (sA z 57 (upd (mA z 57) (nN x 58 + j) ((v >>> ((24 - 8 * nI j) &&& 31)) &&& 255))) 58 (nI (nN x 58 + j + 1))) x k
theorem fourN_s (x : MS) (v : Int32) (k : Nat) : fourN x v (k + 1) = sI (sA (fourN x v k) 57 (upd (mA (fourN x v k) 57) (nN x 58 + k) ((v >>> ((24 - 8 * nI k) &&& 31)) &&& 255))) 58 (nI (nN x 58 + k + 1)) := rfl
theorem fourN_58 {x : MS} (v : Int32) (h : mI x 58 = nI (nN x 58)) : ∀ k, mI (fourN x v k) 58 = nI (nN x 58 + k)
  | 0 => h
  | k + 1 => rfl
theorem fourN_ok {x : MS} {v : Int32} {b : Nat} (h : okN x 58 b) (hb : b + 4 < 2 ^ 31) : okN (fourN x v 4) 58 (b + 4) ∧ nN (fourN x v 4) 58 = nN x 58 + 4 := by
  have h2 := h.2
  have e : mI (fourN x v 4) 58 = nI (nN x 58 + 4) := fourN_58 v h.1 4
  have e2 : nN (fourN x v 4) 58 = nN x 58 + 4 := by rw [nN, e]; exact nI_clamp (by omega)
  exact ⟨⟨by rw [e, e2], by omega⟩, e2⟩
def feedX (x : MS) (a b c d e : Int32) : MS := fourN (fourN (fourN (fourN (fourN x a 4) b 4) c 4) d 4) e 4
def feedF (x : MS) (a b c d e : Int32) : Int32 × MS := if mI x 58 + 20 ≤ 400 then (mI (feedX x a b c d e) 58, feedX x a b c d e) else (-1, x)
def endF (x : MS) (n : Int32) : Int32 × MS := if n < 0 then (-1, x) else if n ≤ mI x 58 then (n, sI x 58 n) else (-1, x)
theorem isB_1 {a b h : Int32} (c : a < b) : 0 = bI (isB a b h) := by
  have := Int32.not_le.mpr c
  simp [isB, bI, this]
theorem isB_2 {a b h : Int32} (c : h < a) : 0 = bI (isB a b h) := by
  have := Int32.not_le.mpr c
  simp [isB, bI, this]
theorem isB_3 {a b h : Int32} (c : ¬ a < b) (c2 : ¬ h < a) : 1 = bI (isB a b h) := by
  have h1 := Int32.not_lt.mp c
  have h2 := Int32.not_lt.mp c2
  simp [isB, bI, h1, h2]
def weighX (x : MS) (n : Nat) (l g k : Int32) : MS := sI (sA (sA (sA x 66 (upd (mA x 66) n l)) 67 (upd (mA x 67) n g)) 68 (upd (mA x 68) n k)) 65 (nI (n + 1))
def weighF (x : MS) (l g k : Int32) : Int32 × MS := if isB g 0 1000000 && isB k 0 100000 then (if ixB (mI x 4) l then (if nN x 65 = 100 then (-5, toldF x (-5)) else (nI (nN x 65 + 1), toldF (weighX x (nN x 65) l g k) 0)) else (-2, toldF x (-2))) else (-1, toldF x (-1))
def wN (x : MS) (l : Nat) (kn : Int32) (k : Nat) : Int32 := itN (fun w a => if mA x 66 w = nI l ∧ ¬ kn < mA x 68 w then mA x 67 w else a) (mA x 6 l) k
theorem wN_s (x : MS) (l : Nat) (kn : Int32) (k : Nat) : wN x l kn (k + 1) = if mA x 66 k = nI l ∧ ¬ kn < mA x 68 k then mA x 67 k else wN x l kn k := rfl
def givN (x : MS) (gi kn : Int32) (k : Nat) : Int64 := itN (fun l a => a + if mA x 8 l = gi then (wN x l kn (nN x 65)).toInt64 else 0) 0 k
theorem givN_s (x : MS) (gi kn : Int32) (k : Nat) : givN x gi kn (k + 1) = givN x gi kn k + if mA x 8 k = gi then (wN x k kn (nN x 65)).toInt64 else 0 := rfl
def givenF (x : MS) (gi kn : Int32) : Int64 := if isB gi 0 19 && isB kn 0 100000 then givN x gi kn (nN x 4) else -1
def pick (x : MS) (w : Int32) (l : Nat) : Int32 := if w = 8 then mA x 6 l else if w = 9 then mA x 9 l else if w = 10 then mA x 10 l else if w = 11 then mA x 11 l else mA x 12 l
def sumN (x : MS) (w kd : Int32) (k : Nat) : Int64 := itN (fun l a => a + if kd < 0 ∨ mA x 5 l = kd then (pick x w l).toInt64 else 0) 0 k
theorem sumN_s (x : MS) (w kd : Int32) (k : Nat) : sumN x w kd (k + 1) = sumN x w kd k + if kd < 0 ∨ mA x 5 k = kd then (pick x w k).toInt64 else 0 := rfl
def countF (x : MS) (w : Int32) : Int64 := if isB w 20 29 then sumN x 9 (w - 20) (nN x 4) else if w = 0 then (mI x 2).toInt64 else if w = 1 then (mI x 4).toInt64 else if w = 2 then (mI x 13).toInt64 else if w = 3 then (mI x 16).toInt64 else if w = 4 then (mI x 20).toInt64 else if w = 5 then (mI x 32).toInt64 else if w = 6 then (mI x 25).toInt64 else if w = 7 then (mI x 65).toInt64 else if w = 8 ∨ w = 9 ∨ w = 10 ∨ w = 11 ∨ w = 12 then sumN x w (-1) (nN x 4) else if w = 13 then mL x 40 else if w = 14 then (mI x 58).toInt64 else -1
/-- lines of parcels: where each begins, what they hold -/
def nA (x : MS) (f i : Nat) : Nat := (mA x f i).toNatClampNeg
def lnOk (x : MS) : Prop := nN x 37 ≤ 24000 ∧ (∀ p, p ≤ nN x 32 → mA x 35 p = nI (nA x 35 p) ∧ nA x 35 p ≤ nN x 37) ∧ (∀ p, p < nN x 32 → nA x 35 p ≤ nA x 35 (p + 1)) ∧ ∀ k, k < nN x 37 → vp_in (mA x 38 k) 200
def linN (x : MS) (gi : Int32) (a : Nat) (z : Int64) (n : Nat) : Int64 := itN (fun j acc => acc + if mA x 8 (nA x 38 (a + j)) = gi then (mA x 39 (a + j)).toInt64 else 0) z n
theorem linN_s (x : MS) (gi : Int32) (a : Nat) (z : Int64) (n : Nat) : linN x gi a z (n + 1) = linN x gi a z n + if mA x 8 (mA x 38 (a + n)).toNatClampNeg = gi then (mA x 39 (a + n)).toInt64 else 0 := rfl
def ledN (x : MS) (gi f : Int32) (k : Nat) : Int64 := itN (fun p acc => if mA x 33 p = f then linN x gi (nA x 35 p) acc (nA x 35 (p + 1) - nA x 35 p) else acc) 0 k
theorem ledN_s (x : MS) (gi f : Int32) (k : Nat) : ledN x gi f (k + 1) = if mA x 33 k = f then linN x gi (nA x 35 k) (ledN x gi f k) (nA x 35 (k + 1) - nA x 35 k) else ledN x gi f k := rfl
def ledF (x : MS) (gi f : Int32) : Int64 := if isB gi 0 19 && ixB (mI x 16) f then ledN x gi f (nN x 32) else -1
theorem nI_inc1 (k : Nat) : nI k + 1 = nI (k + 1) := nI_1 k
theorem four_dec {k : Nat} (h : k < 4) : (24 : Int32) - 8 * nI k + -8 = 24 - 8 * nI (k + 1) := by
  have : k = 0 ∨ k = 1 ∨ k = 2 ∨ k = 3 := by omega
  rcases this with rfl | rfl | rfl | rfl <;> decide
theorem led_exit {x : MS} {gi f : Int32} {k j : Nat} (h0 : ¬ mA x 33 k = f → j = 0) (hj : j = nA x 35 (k + 1) - nA x 35 k) : linN x gi (nA x 35 k) (ledN x gi f k) j = ledN x gi f (k + 1) := by
  rw [ledN_s]
  by_cases hf : mA x 33 k = f
  · rw [if_pos hf, hj]
  · rw [if_neg hf, h0 hf]; rfl
theorem led_exit2 {x : MS} {gi f : Int32} {k j : Nat} (hf : ¬ mA x 33 k = f) (hj : j = 0) : linN x gi (nA x 35 k) (ledN x gi f k) j = ledN x gi f (k + 1) := by
  rw [ledN_s, if_neg hf, hj]; rfl
set_option maxHeartbeats 4000000 in
set_option maxRecDepth 100000 in
theorem c_stop (l : Launch) (D : va_G) (cI cJ : ClassId) (ad : Nat → Nat) (x : MS) (a0 : Int32) (h0 : mI x 0 = 0) (hs : mI x 56 < 0 ∨ okN x 56 16) : Mi l yX12_stop wsX12_stop { frames := 1, cells := 0, slots := 0, locals := 25 } D cI cJ ad [.int a0] x (fun r y => y = x ∧ r = stopF x a0) := by
  refine Mi_of (cc := cX12_stop) (nL := 2) (ret := (some .int)) (by decide) rfl rfl (Nat.le_of_ble_eq_true rfl) ?_
  intro p e s m args below meth c A hx hb hr hlocks hml hts hown hA hK hP hD hS ls hl
  have hin : ∀ w ∈ wsX120, w ∈ wsX12_stop := fun w h => List.mem_cons_of_mem _ (List.mem_append_right _ h)
  have hl : lv_has ls 2 [(0, .ref (ad 0)), (1, .int a0)] := hl
  refine lv_aload_n hx hb dX12_stop_0 rfl (lv_at hl 0 rfl) ?_
  refine lv_iconst (v := 0) hx hb dX12_stop_1 (by decide) ?_
  refine M_put hx hb hts hin hown hK hP hD hS 0 (by decide) rfl rfl (index := 156) (by decide +kernel) (ty := .int) (by decide +kernel) rfl rfl (pI_0 cI cJ ad x _) dX12_stop_2 (fun y2 H locs ey2 hP hD hS => ?_)
  rw [ey2.trans (sI_0 h0)] at hP hD
  refine lv_aload_n hx hb dX12_stop_5 rfl (lv_at hl 0 rfl) ?_
  refine M_get hx hb hts hin hown hK hP 56 (by decide) rfl (index := 137) (by decide +kernel) rfl dX12_stop_6 ?_
  refine lv_topi (fun v6 ev6 => ?_)
  refine lv_if_ge (tgt := 14) hx hb dX12_stop_9 (by decide) (fun c9 => ?_) (fun c9 => ?_)
  · skip
    simp only [ev6] at c9
    refine lv_iload_n hx hb dX12_stop_14 rfl (lv_at hl 1 rfl) ?_
    refine lv_iconst (v := -1) hx hb dX12_stop_15 (by decide) ?_
    refine lv_icmp_ne (tgt := 26) hx hb dX12_stop_16 (by decide) (fun c16 => ?_) (fun c16 => ?_)
    · skip
      refine lv_iload_n hx hb dX12_stop_26 rfl (lv_at hl 1 rfl) ?_
      refine lv_i2l hx hb dX12_stop_27 rfl ?_
      refine lv_lconst (v := 0) hx hb dX12_stop_28 (by decide) ?_
      refine lv_aload_n hx hb dX12_stop_29 rfl (lv_at hl 0 rfl) ?_
      refine M_get hx hb hts hin hown hK hP 56 (by decide) rfl (index := 137) (by decide +kernel) rfl dX12_stop_30 ?_
      refine lv_topi (fun v30 ev30 => ?_)
      refine lv_i2l hx hb dX12_stop_33 rfl ?_
      refine lv_lconst (v := 1) hx hb dX12_stop_34 (by decide) ?_
      refine lv_lsub hx hb dX12_stop_35 ?_
      refine S_calli (av := [.long a0.toInt64, .long (0 : Int64), .long (v30.toInt64 - (1 : Int64))]) (rest := []) ⟨hx, hb, hml, hown, hts⟩ (c_in l (a0.toInt64) ((0 : Int64)) ((v30.toInt64 - (1 : Int64))) ) (va_cwS 3 hts gX12_stop_X12_in rfl rfl rfl (by decide +kernel) ⟨Nat.le_of_ble_eq_true rfl, Nat.le_of_ble_eq_true rfl⟩) rfl hl.1 rfl (Nat.le_of_ble_eq_true rfl) dX12_stop_36 ⟨Nat.le_of_ble_eq_true rfl, Nat.le_of_ble_eq_true rfl⟩ (fun r36 hw36 => ?_)
      have hw36 : r36 = bI (ixB (mI x 56) a0) := by rw [hw36, ev30]; rfl
      refine lv_if_eq (tgt := 51) hx hb dX12_stop_39 (by decide) (fun c39 => ?_) (fun c39 => ?_)
      · skip
        simp only [hw36, ev30, bI_0, bI_1, Bool.not_eq_false] at c39
        refine lv_iconst (v := -1) hx hb dX12_stop_51 (by decide) ?_
        refine M_iret (v := (-1 : Int32)) hx hb hr hlocks hK hP hD hS dX12_stop_52 ?_
        simp [ev6, ev30, hw36, stopF, c9, c16, c39]
      · skip
        simp only [hw36, ev30, bI_0, bI_1, Bool.not_eq_false] at c39
        refine lv_aload_n hx hb dX12_stop_42 rfl (lv_at hl 0 rfl) ?_
        refine M_get hx hb hts hin hown hK hP 55 (by decide) rfl (index := 134) (by decide +kernel) rfl dX12_stop_43 ?_
        refine lv_iload_n hx hb dX12_stop_46 rfl (lv_at hl 1 rfl) ?_
        have h47 : vp_in a0 16 := by
          rcases hs with h | h
          exact absurd c9 (Int32.not_le.mpr h)
          exact ixB_le h c39 (by decide)
        refine va_iald hx hb hK hP 42 0 rfl rfl h47 dX12_stop_47 ?_
        refine lv_topi (fun v47 ev47 => ?_)
        refine lv_goto (tgt := 52) hx hb dX12_stop_48 (by decide) ?_
        refine M_iret (v := v47) hx hb hr hlocks hK hP hD hS dX12_stop_52 ?_
        simp [ev6, ev30, hw36, ev47, stopF, c9, c16, c39]
    · skip
      refine lv_aload_n hx hb dX12_stop_19 rfl (lv_at hl 0 rfl) ?_
      refine M_get hx hb hts hin hown hK hP 56 (by decide) rfl (index := 137) (by decide +kernel) rfl dX12_stop_20 ?_
      refine lv_topi (fun v20 ev20 => ?_)
      refine lv_goto (tgt := 52) hx hb dX12_stop_23 (by decide) ?_
      refine M_iret (v := v20) hx hb hr hlocks hK hP hD hS dX12_stop_52 ?_
      simp [ev6, ev20, stopF, c9, c16]
  · skip
    simp only [ev6] at c9
    refine lv_iconst (v := -1) hx hb dX12_stop_12 (by decide) ?_
    refine M_iret (v := (-1 : Int32)) hx hb hr hlocks hK hP hD hS dX12_stop_13 ?_
    simp [ev6, stopF, c9]

set_option maxHeartbeats 4000000 in
set_option maxRecDepth 100000 in
theorem c_four (l : Launch) (D : va_G) (cI cJ : ClassId) (ad : Nat → Nat) (x : MS) (a0 : Int32) (h58 : okN x 58 396) : Mv l yX12_four wsX12_four { frames := 0, cells := 0, slots := 0, locals := 0 } D cI cJ ad [.int a0] x (fun y => y = fourN x a0 4) := by
  have h1 := h58.1
  have h2 := h58.2
  refine Mv_of (cc := cX12_four) (nL := 3) (ret := none) (by decide) rfl rfl (Nat.le_of_ble_eq_true rfl) ?_
  intro p e s m args below meth c A hx hb hr hlocks hml hts hown hA hK hP hD hS ls hl
  have hin : ∀ w ∈ wsX120, w ∈ wsX12_four := fun w h => List.mem_cons_of_mem _ (List.mem_append_right _ h)
  have hl : lv_has ls 3 [(0, .ref (ad 0)), (1, .int a0)] := hl
  refine lv_bipush (v := 24) hx hb dX12_four_0 (by decide) ?_
  refine lv_topi (fun x2 ex2 => ?_)
  refine lv_istore_n (lv' := [(2, .int x2), (0, .ref (ad 0)), (1, .int a0)]) hx hb dX12_four_2 rfl hl (by decide) rfl (fun ls hl => ?_)
  have lp3 : ∀ (n : Nat) (k : Nat), (4 < k + n) → (k ≤ 4) → ∀ (H : Heap) (locs : List Loc), va_P D vwCl (wsM cI cJ ad (fourN x a0 k)) H → va_D A (wsM cI cJ ad (fourN x a0 k)) → va_S A s.heap H locs → ∀ ls : Array Slot, lv_has ls 3 [(2, .int (24 - 8 * nI k)), (0, .ref (ad 0)), (1, .int a0)] → W p l e { frames := 0, cells := 0, slots := 0, locals := 0 } s m args below meth c H locs 0 0 (MQ below (va_Qv (fun y => y = fourN x a0 4) (mAft D cI cJ ad A) A) args s 0 0 A) (F0 m 3 ls []) := by
    intro n
    induction n with
    | zero => intro k hn hk; exact absurd hn (by omega)
    | succ n ih3 =>
      intro k hn hk H locs hP hD hS ls hl
      refine lv_iload_n hx hb dX12_four_3 rfl (lv_at hl 0 rfl) ?_
      refine lv_if_lt (tgt := 39) hx hb dX12_four_4 (by decide) (fun c4 => ?_) (fun c4 => ?_)
      · skip
        have hkN : k = 4 := by
          have : k = 0 ∨ k = 1 ∨ k = 2 ∨ k = 3 ∨ k = 4 := by omega
          rcases this with rfl | rfl | rfl | rfl | rfl <;> first | rfl | exact absurd c4 (by decide)
        refine M_vret hx hb hr hlocks hK hP hD hS dX12_four_39 ?_
        rw [hkN]
      · skip
        have hkN : k < 4 := by
          have : k = 0 ∨ k = 1 ∨ k = 2 ∨ k = 3 ∨ k = 4 := by omega
          rcases this with rfl | rfl | rfl | rfl | rfl <;> first | decide | exact absurd (by decide) c4
        refine lv_aload_n hx hb dX12_four_7 rfl (lv_at hl 1 rfl) ?_
        refine M_get hx hb hts hin hown hK hP 57 (by decide) rfl (index := 141) (by decide +kernel) rfl dX12_four_8 ?_
        refine lv_aload_n hx hb dX12_four_11 rfl (lv_at hl 1 rfl) ?_
        refine M_get hx hb hts hin hown hK hP 58 (by decide) rfl (index := 291) (by decide +kernel) rfl dX12_four_12 ?_
        refine lv_topi (fun v12 ev12 => ?_)
        refine lv_iload_n hx hb dX12_four_15 rfl (lv_at hl 2 rfl) ?_
        refine lv_iload_n hx hb dX12_four_16 rfl (lv_at hl 0 rfl) ?_
        refine lv_ishr hx hb dX12_four_17 ?_
        refine lv_sipush (v := 255) hx hb dX12_four_18 (by decide) ?_
        refine lv_iand hx hb dX12_four_21 ?_
        have h22 : vp_in v12 400 := by rw [ev12, fourN_58 a0 h1 k]; exact vp_in_nI (by omega) (by decide)
        refine M_iast hx hb hK hP hD hS 43 rfl h22 (pA_57 cI cJ ad (fourN x a0 k) _) dX12_four_22 (fun y22 H locs ey22 hP hD hS => ?_)
        refine lv_aload_n hx hb dX12_four_23 rfl (lv_at hl 1 rfl) ?_
        refine lv_dup hx hb dX12_four_24 rfl ?_
        refine M_get hx hb hts hin hown hK hP 58 (by decide) rfl (index := 291) (by decide +kernel) rfl dX12_four_25 ?_
        refine lv_topi (fun v25 ev25 => ?_)
        refine lv_iconst (v := 1) hx hb dX12_four_28 (by decide) ?_
        refine lv_iadd hx hb dX12_four_29 ?_
        refine M_put hx hb hts hin hown hK hP hD hS 58 (by decide) rfl rfl (index := 291) (by decide +kernel) (ty := .int) (by decide +kernel) rfl rfl (pI_58 cI cJ ad y22 _) dX12_four_30 (fun y30 H locs ey30 hP hD hS => ?_)
        obtain ⟨x33, ex33⟩ : ∃ y : Int32, y = (24 - 8 * nI k) + -8 := ⟨_, rfl⟩
        refine lv_iinc (v := x33) (lv' := [(2, .int x33), (0, .ref (ad 0)), (1, .int a0)]) hx hb dX12_four_33 hl (k := 0) rfl (by rw [ex33]; rfl) (by decide) rfl (fun ls hl => ?_)
        refine lv_goto (tgt := 3) hx hb dX12_four_36 (by decide) ?_
        have q2 : x33 = (24 - 8 * nI (k + 1)) := by rw [ex33]; exact four_dec hkN
        rw [q2] at hl
        have qx : y30 = (fourN x a0 (k + 1)) := by rw [ey30, ey22, ev25, fourN_s]; simp only [ey22, mI_sA, ev12, fourN_58 a0 h1 k, nI_1, nI_clamp (show nN x 58 + k < 2 ^ 31 by omega)]
        rw [qx] at hP hD
        exact ih3 (k + 1) (by omega) (by omega) _ _ hP hD hS ls (lv_sub hl [0, 1, 2] rfl)
  have q2 : x2 = (24 - 8 * nI 0) := by rw [ex2]; decide
  rw [q2] at hl
  have qx : x = (fourN x a0 0) := by rfl
  rw [qx] at hP hD
  exact lp3 5 0 (by omega) (by omega) _ _ hP hD hS ls (lv_sub hl [0, 1, 2] rfl)

set_option maxHeartbeats 4000000 in
set_option maxRecDepth 100000 in
theorem c_feed (l : Launch) (D : va_G) (cI cJ : ClassId) (ad : Nat → Nat) (x : MS) (a0 : Int32) (a1 : Int32) (a2 : Int32) (a3 : Int32) (a4 : Int32) (h0 : mI x 0 = 0) (h58 : okN x 58 400) : Mi l yX12_feed wsX12_feed { frames := 1, cells := 0, slots := 0, locals := 22 } D cI cJ ad [.int a0, .int a1, .int a2, .int a3, .int a4] x (fun r y => r = (feedF x a0 a1 a2 a3 a4).1 ∧ y = (feedF x a0 a1 a2 a3 a4).2) := by
  have h1 := h58.1
  have h2 := h58.2
  refine Mi_of (cc := cX12_feed) (nL := 6) (ret := (some .int)) (by decide) rfl rfl (Nat.le_of_ble_eq_true rfl) ?_
  intro p e s m args below meth c A hx hb hr hlocks hml hts hown hA hK hP hD hS ls hl
  have hin : ∀ w ∈ wsX120, w ∈ wsX12_feed := fun w h => List.mem_cons_of_mem _ (List.mem_append_right _ h)
  have hl : lv_has ls 6 [(0, .ref (ad 0)), (1, .int a0), (2, .int a1), (3, .int a2), (4, .int a3), (5, .int a4)] := hl
  refine lv_aload_n hx hb dX12_feed_0 rfl (lv_at hl 0 rfl) ?_
  refine lv_iconst (v := 0) hx hb dX12_feed_1 (by decide) ?_
  refine M_put hx hb hts hin hown hK hP hD hS 0 (by decide) rfl rfl (index := 156) (by decide +kernel) (ty := .int) (by decide +kernel) rfl rfl (pI_0 cI cJ ad x _) dX12_feed_2 (fun y2 H locs ey2 hP hD hS => ?_)
  rw [ey2.trans (sI_0 h0)] at hP hD
  refine lv_aload_n hx hb dX12_feed_5 rfl (lv_at hl 0 rfl) ?_
  refine M_get hx hb hts hin hown hK hP 58 (by decide) rfl (index := 291) (by decide +kernel) rfl dX12_feed_6 ?_
  refine lv_topi (fun v6 ev6 => ?_)
  refine lv_bipush (v := 20) hx hb dX12_feed_9 (by decide) ?_
  refine lv_iadd hx hb dX12_feed_11 ?_
  refine lv_sipush (v := 400) hx hb dX12_feed_12 (by decide) ?_
  refine lv_icmp_le (tgt := 20) hx hb dX12_feed_15 (by decide) (fun c15 => ?_) (fun c15 => ?_)
  · skip
    simp only [ev6] at c15
    have hN : nN x 58 + 20 ≤ 400 := by rw [h1, show (20 : Int32) = nI 20 from rfl, nI_add, show (400 : Int32) = nI 400 from rfl] at c15; exact (nI_leI (by omega) (by omega)).mp c15
    have k0 : okN x 58 380 := ⟨h1, by omega⟩
    obtain ⟨k1, n1⟩ := fourN_ok (v := a0) k0 (by decide)
    obtain ⟨k2, n2⟩ := fourN_ok (v := a1) k1 (by decide)
    obtain ⟨k3, n3⟩ := fourN_ok (v := a2) k2 (by decide)
    obtain ⟨k4, n4⟩ := fourN_ok (v := a3) k3 (by decide)
    have k0 : okN x 58 396 := ⟨h1, by omega⟩
    have k1 := (⟨k1.1, by omega⟩ : okN (fourN x a0 4) 58 396)
    have k2 := (⟨k2.1, by omega⟩ : okN (fourN (fourN x a0 4) a1 4) 58 396)
    have k3 := (⟨k3.1, by omega⟩ : okN (fourN (fourN (fourN x a0 4) a1 4) a2 4) 58 396)
    have k4 := (⟨k4.1, by omega⟩ : okN (fourN (fourN (fourN (fourN x a0 4) a1 4) a2 4) a3 4) 58 396)
    refine lv_aload_n hx hb dX12_feed_20 rfl (lv_at hl 0 rfl) ?_
    refine lv_iload_n hx hb dX12_feed_21 rfl (lv_at hl 1 rfl) ?_
    refine M_callv (av := [.int a0]) (rest := []) ⟨hx, hb, hml, hown, hts⟩ hA hK hP hD hS (c_four l D cI cJ ad x (a0) k0) (cwV 1 hts gX12_feed_X12_four rfl rfl rfl (by decide +kernel) ⟨Nat.le_of_ble_eq_true rfl, Nat.le_of_ble_eq_true rfl⟩) rfl hl.1 rfl (Nat.le_of_ble_eq_true rfl) dX12_feed_22 ⟨Nat.le_of_ble_eq_true rfl, Nat.le_of_ble_eq_true rfl⟩ (fun y22 H locs hw22 hP hD hS => ?_)
    refine lv_aload_n hx hb dX12_feed_25 rfl (lv_at hl 0 rfl) ?_
    refine lv_iload_n hx hb dX12_feed_26 rfl (lv_at hl 2 rfl) ?_
    refine M_callv (av := [.int a1]) (rest := []) ⟨hx, hb, hml, hown, hts⟩ hA hK hP hD hS (c_four l D cI cJ ad y22 (a1) (by rw [hw22]; exact k1)) (cwV 1 hts gX12_feed_X12_four rfl rfl rfl (by decide +kernel) ⟨Nat.le_of_ble_eq_true rfl, Nat.le_of_ble_eq_true rfl⟩) rfl hl.1 rfl (Nat.le_of_ble_eq_true rfl) dX12_feed_27 ⟨Nat.le_of_ble_eq_true rfl, Nat.le_of_ble_eq_true rfl⟩ (fun y27 H locs hw27 hP hD hS => ?_)
    refine lv_aload_n hx hb dX12_feed_30 rfl (lv_at hl 0 rfl) ?_
    refine lv_iload_n hx hb dX12_feed_31 rfl (lv_at hl 3 rfl) ?_
    refine M_callv (av := [.int a2]) (rest := []) ⟨hx, hb, hml, hown, hts⟩ hA hK hP hD hS (c_four l D cI cJ ad y27 (a2) (by rw [hw27, hw22]; exact k2)) (cwV 1 hts gX12_feed_X12_four rfl rfl rfl (by decide +kernel) ⟨Nat.le_of_ble_eq_true rfl, Nat.le_of_ble_eq_true rfl⟩) rfl hl.1 rfl (Nat.le_of_ble_eq_true rfl) dX12_feed_32 ⟨Nat.le_of_ble_eq_true rfl, Nat.le_of_ble_eq_true rfl⟩ (fun y32 H locs hw32 hP hD hS => ?_)
    refine lv_aload_n hx hb dX12_feed_35 rfl (lv_at hl 0 rfl) ?_
    refine lv_iload hx hb dX12_feed_36 (lv_at hl 4 rfl) ?_
    refine M_callv (av := [.int a3]) (rest := []) ⟨hx, hb, hml, hown, hts⟩ hA hK hP hD hS (c_four l D cI cJ ad y32 (a3) (by rw [hw32, hw27, hw22]; exact k3)) (cwV 1 hts gX12_feed_X12_four rfl rfl rfl (by decide +kernel) ⟨Nat.le_of_ble_eq_true rfl, Nat.le_of_ble_eq_true rfl⟩) rfl hl.1 rfl (Nat.le_of_ble_eq_true rfl) dX12_feed_38 ⟨Nat.le_of_ble_eq_true rfl, Nat.le_of_ble_eq_true rfl⟩ (fun y38 H locs hw38 hP hD hS => ?_)
    refine lv_aload_n hx hb dX12_feed_41 rfl (lv_at hl 0 rfl) ?_
    refine lv_iload hx hb dX12_feed_42 (lv_at hl 5 rfl) ?_
    refine M_callv (av := [.int a4]) (rest := []) ⟨hx, hb, hml, hown, hts⟩ hA hK hP hD hS (c_four l D cI cJ ad y38 (a4) (by rw [hw38, hw32, hw27, hw22]; exact k4)) (cwV 1 hts gX12_feed_X12_four rfl rfl rfl (by decide +kernel) ⟨Nat.le_of_ble_eq_true rfl, Nat.le_of_ble_eq_true rfl⟩) rfl hl.1 rfl (Nat.le_of_ble_eq_true rfl) dX12_feed_44 ⟨Nat.le_of_ble_eq_true rfl, Nat.le_of_ble_eq_true rfl⟩ (fun y44 H locs hw44 hP hD hS => ?_)
    refine lv_aload_n hx hb dX12_feed_47 rfl (lv_at hl 0 rfl) ?_
    refine M_get hx hb hts hin hown hK hP 58 (by decide) rfl (index := 291) (by decide +kernel) rfl dX12_feed_48 ?_
    refine lv_topi (fun v48 ev48 => ?_)
    refine M_iret (v := v48) hx hb hr hlocks hK hP hD hS dX12_feed_51 ?_
    simp only [ev6, hw22, hw27, hw32, hw38, hw44, ev48, feedF, feedX, c15, not_true_eq_false, not_false_eq_true, and_true, true_and, and_false, false_and, and_self, if_true, if_false, ite_true, ite_false, ↓reduceIte, Int32.add_zero, Bool.not_eq_false, Bool.and_true, Bool.true_and, Bool.and_false, Bool.false_and, Bool.false_eq_true]
  · skip
    simp only [ev6] at c15
    refine lv_iconst (v := -1) hx hb dX12_feed_18 (by decide) ?_
    refine M_iret (v := (-1 : Int32)) hx hb hr hlocks hK hP hD hS dX12_feed_19 ?_
    simp only [ev6, feedF, feedX, c15, not_true_eq_false, not_false_eq_true, and_true, true_and, and_false, false_and, and_self, if_true, if_false, ite_true, ite_false, ↓reduceIte, Int32.add_zero, Bool.not_eq_false, Bool.and_true, Bool.true_and, Bool.and_false, Bool.false_and, Bool.false_eq_true]

set_option maxHeartbeats 4000000 in
set_option maxRecDepth 100000 in
theorem c_end (l : Launch) (D : va_G) (cI cJ : ClassId) (ad : Nat → Nat) (x : MS) (a0 : Int32) (h0 : mI x 0 = 0)  : Mi l yX12_end wsX12_end { frames := 0, cells := 0, slots := 0, locals := 0 } D cI cJ ad [.int a0] x (fun r y => r = (endF x a0).1 ∧ y = (endF x a0).2) := by
  refine Mi_of (cc := cX12_end) (nL := 2) (ret := (some .int)) (by decide) rfl rfl (Nat.le_of_ble_eq_true rfl) ?_
  intro p e s m args below meth c A hx hb hr hlocks hml hts hown hA hK hP hD hS ls hl
  have hin : ∀ w ∈ wsX120, w ∈ wsX12_end := fun w h => List.mem_cons_of_mem _ (List.mem_append_right _ h)
  have hl : lv_has ls 2 [(0, .ref (ad 0)), (1, .int a0)] := hl
  refine lv_aload_n hx hb dX12_end_0 rfl (lv_at hl 0 rfl) ?_
  refine lv_iconst (v := 0) hx hb dX12_end_1 (by decide) ?_
  refine M_put hx hb hts hin hown hK hP hD hS 0 (by decide) rfl rfl (index := 156) (by decide +kernel) (ty := .int) (by decide +kernel) rfl rfl (pI_0 cI cJ ad x _) dX12_end_2 (fun y2 H locs ey2 hP hD hS => ?_)
  rw [ey2.trans (sI_0 h0)] at hP hD
  refine lv_iload_n hx hb dX12_end_5 rfl (lv_at hl 1 rfl) ?_
  refine lv_if_lt (tgt := 17) hx hb dX12_end_6 (by decide) (fun c6 => ?_) (fun c6 => ?_)
  · skip
    refine lv_iconst (v := -1) hx hb dX12_end_17 (by decide) ?_
    refine M_iret (v := (-1 : Int32)) hx hb hr hlocks hK hP hD hS dX12_end_18 ?_
    simp only [and_true, endF, c6, not_true_eq_false, not_false_eq_true, and_true, true_and, and_false, false_and, and_self, if_true, if_false, ite_true, ite_false, ↓reduceIte, Int32.add_zero, Bool.not_eq_false, Bool.and_true, Bool.true_and, Bool.and_false, Bool.false_and, Bool.false_eq_true]
  · skip
    refine lv_iload_n hx hb dX12_end_9 rfl (lv_at hl 1 rfl) ?_
    refine lv_aload_n hx hb dX12_end_10 rfl (lv_at hl 0 rfl) ?_
    refine M_get hx hb hts hin hown hK hP 58 (by decide) rfl (index := 291) (by decide +kernel) rfl dX12_end_11 ?_
    refine lv_topi (fun v11 ev11 => ?_)
    refine lv_icmp_le (tgt := 19) hx hb dX12_end_14 (by decide) (fun c14 => ?_) (fun c14 => ?_)
    · skip
      simp only [ev11] at c14
      refine lv_aload_n hx hb dX12_end_19 rfl (lv_at hl 0 rfl) ?_
      refine lv_iload_n hx hb dX12_end_20 rfl (lv_at hl 1 rfl) ?_
      refine M_put hx hb hts hin hown hK hP hD hS 58 (by decide) rfl rfl (index := 291) (by decide +kernel) (ty := .int) (by decide +kernel) rfl rfl (pI_58 cI cJ ad x _) dX12_end_21 (fun y21 H locs ey21 hP hD hS => ?_)
      refine lv_iload_n hx hb dX12_end_24 rfl (lv_at hl 1 rfl) ?_
      refine M_iret (v := a0) hx hb hr hlocks hK hP hD hS dX12_end_25 ?_
      simp only [ev11, ey21, endF, c6, c14, not_true_eq_false, not_false_eq_true, and_true, true_and, and_false, false_and, and_self, if_true, if_false, ite_true, ite_false, ↓reduceIte, Int32.add_zero, Bool.not_eq_false, Bool.and_true, Bool.true_and, Bool.and_false, Bool.false_and, Bool.false_eq_true]
    · skip
      simp only [ev11] at c14
      refine lv_iconst (v := -1) hx hb dX12_end_17 (by decide) ?_
      refine M_iret (v := (-1 : Int32)) hx hb hr hlocks hK hP hD hS dX12_end_18 ?_
      simp only [ev11, endF, c6, c14, not_true_eq_false, not_false_eq_true, and_true, true_and, and_false, false_and, and_self, if_true, if_false, ite_true, ite_false, ↓reduceIte, Int32.add_zero, Bool.not_eq_false, Bool.and_true, Bool.true_and, Bool.and_false, Bool.false_and, Bool.false_eq_true]

set_option maxHeartbeats 4000000 in
set_option maxRecDepth 100000 in
theorem c_isSmall (l : Launch) (k : Int32)  : Si l yX12_isSmall wsX12_isSmall { frames := 0, cells := 0, slots := 0, locals := 0 } [.int k] (fun r => r = bI (isB k 97 122)) := by
  refine Si_of (cc := cX12_isSmall) (nL := 1) (ret := (some .boolean)) (by decide) rfl rfl (Nat.le_of_ble_eq_true rfl) ?_
  intro p e s m args below meth c hx hb hr hlocks hml hts hown ls hl
  have hl : lv_has ls 1 [(0, .int k)] := hl
  refine lv_iload_n hx hb dX12_isSmall_0 rfl (lv_at hl 0 rfl) ?_
  refine lv_bipush (v := 97) hx hb dX12_isSmall_1 (by decide) ?_
  refine lv_icmp_lt (tgt := 16) hx hb dX12_isSmall_3 (by decide) (fun c3 => ?_) (fun c3 => ?_)
  · skip
    refine lv_iconst (v := 0) hx hb dX12_isSmall_16 (by decide) ?_
    refine S_iret (v := (0 : Int32)) hx hb hr hlocks dX12_isSmall_17 ?_ ?_
    · first | rfl | (simp [narrow]; done)
    · first | exact isB_1 c3 | exact isB_2 c9 | exact isB_3 c3 c9
  · skip
    refine lv_iload_n hx hb dX12_isSmall_6 rfl (lv_at hl 0 rfl) ?_
    refine lv_bipush (v := 122) hx hb dX12_isSmall_7 (by decide) ?_
    refine lv_icmp_gt (tgt := 16) hx hb dX12_isSmall_9 (by decide) (fun c9 => ?_) (fun c9 => ?_)
    · skip
      refine lv_iconst (v := 0) hx hb dX12_isSmall_16 (by decide) ?_
      refine S_iret (v := (0 : Int32)) hx hb hr hlocks dX12_isSmall_17 ?_ ?_
      · first | rfl | (simp [narrow]; done)
      · first | exact isB_1 c3 | exact isB_2 c9 | exact isB_3 c3 c9
    · skip
      refine lv_iconst (v := 1) hx hb dX12_isSmall_12 (by decide) ?_
      refine lv_goto (tgt := 17) hx hb dX12_isSmall_13 (by decide) ?_
      refine S_iret (v := (1 : Int32)) hx hb hr hlocks dX12_isSmall_17 ?_ ?_
      · first | rfl | (simp [narrow]; done)
      · first | exact isB_1 c3 | exact isB_2 c9 | exact isB_3 c3 c9

set_option maxHeartbeats 4000000 in
set_option maxRecDepth 100000 in
theorem c_isDigit (l : Launch) (k : Int32)  : Si l yX12_isDigit wsX12_isDigit { frames := 0, cells := 0, slots := 0, locals := 0 } [.int k] (fun r => r = bI (isB k 48 57)) := by
  refine Si_of (cc := cX12_isDigit) (nL := 1) (ret := (some .boolean)) (by decide) rfl rfl (Nat.le_of_ble_eq_true rfl) ?_
  intro p e s m args below meth c hx hb hr hlocks hml hts hown ls hl
  have hl : lv_has ls 1 [(0, .int k)] := hl
  refine lv_iload_n hx hb dX12_isDigit_0 rfl (lv_at hl 0 rfl) ?_
  refine lv_bipush (v := 48) hx hb dX12_isDigit_1 (by decide) ?_
  refine lv_icmp_lt (tgt := 16) hx hb dX12_isDigit_3 (by decide) (fun c3 => ?_) (fun c3 => ?_)
  · skip
    refine lv_iconst (v := 0) hx hb dX12_isDigit_16 (by decide) ?_
    refine S_iret (v := (0 : Int32)) hx hb hr hlocks dX12_isDigit_17 ?_ ?_
    · first | rfl | (simp [narrow]; done)
    · first | exact isB_1 c3 | exact isB_2 c9 | exact isB_3 c3 c9
  · skip
    refine lv_iload_n hx hb dX12_isDigit_6 rfl (lv_at hl 0 rfl) ?_
    refine lv_bipush (v := 57) hx hb dX12_isDigit_7 (by decide) ?_
    refine lv_icmp_gt (tgt := 16) hx hb dX12_isDigit_9 (by decide) (fun c9 => ?_) (fun c9 => ?_)
    · skip
      refine lv_iconst (v := 0) hx hb dX12_isDigit_16 (by decide) ?_
      refine S_iret (v := (0 : Int32)) hx hb hr hlocks dX12_isDigit_17 ?_ ?_
      · first | rfl | (simp [narrow]; done)
      · first | exact isB_1 c3 | exact isB_2 c9 | exact isB_3 c3 c9
    · skip
      refine lv_iconst (v := 1) hx hb dX12_isDigit_12 (by decide) ?_
      refine lv_goto (tgt := 17) hx hb dX12_isDigit_13 (by decide) ?_
      refine S_iret (v := (1 : Int32)) hx hb hr hlocks dX12_isDigit_17 ?_ ?_
      · first | rfl | (simp [narrow]; done)
      · first | exact isB_1 c3 | exact isB_2 c9 | exact isB_3 c3 c9

set_option maxHeartbeats 4000000 in
set_option maxRecDepth 100000 in
theorem c_fault (l : Launch) (D : va_G) (cI cJ : ClassId) (ad : Nat → Nat) (x : MS)  (h0 : mI x 0 = 0)  : Mi l yX12_fault wsX12_fault { frames := 0, cells := 0, slots := 0, locals := 0 } D cI cJ ad [] x (fun r y => y = x ∧ r = mI x 63) := by
  refine Mi_of (cc := cX12_fault) (nL := 1) (ret := (some .int)) (by decide) rfl rfl (Nat.le_of_ble_eq_true rfl) ?_
  intro p e s m args below meth c A hx hb hr hlocks hml hts hown hA hK hP hD hS ls hl
  have hin : ∀ w ∈ wsX120, w ∈ wsX12_fault := fun w h => List.mem_cons_of_mem _ (List.mem_append_right _ h)
  have hl : lv_has ls 1 [(0, .ref (ad 0))] := hl
  refine lv_aload_n hx hb dX12_fault_0 rfl (lv_at hl 0 rfl) ?_
  refine lv_iconst (v := 0) hx hb dX12_fault_1 (by decide) ?_
  refine M_put hx hb hts hin hown hK hP hD hS 0 (by decide) rfl rfl (index := 156) (by decide +kernel) (ty := .int) (by decide +kernel) rfl rfl (pI_0 cI cJ ad x _) dX12_fault_2 (fun y2 H locs ey2 hP hD hS => ?_)
  rw [ey2.trans (sI_0 h0)] at hP hD
  refine lv_aload_n hx hb dX12_fault_5 rfl (lv_at hl 0 rfl) ?_
  refine M_get hx hb hts hin hown hK hP 63 (by decide) rfl (index := 144) (by decide +kernel) rfl dX12_fault_6 ?_
  refine lv_topi (fun v6 ev6 => ?_)
  refine M_iret (v := v6) hx hb hr hlocks hK hP hD hS dX12_fault_9 ?_
  exact ⟨rfl, ev6⟩

set_option maxHeartbeats 4000000 in
set_option maxRecDepth 100000 in
theorem c_status (l : Launch) (D : va_G) (cI cJ : ClassId) (ad : Nat → Nat) (x : MS)  (h0 : mI x 0 = 0)  : Mi l yX12_status wsX12_status { frames := 0, cells := 0, slots := 0, locals := 0 } D cI cJ ad [] x (fun r y => y = x ∧ r = mI x 1) := by
  refine Mi_of (cc := cX12_status) (nL := 1) (ret := (some .int)) (by decide) rfl rfl (Nat.le_of_ble_eq_true rfl) ?_
  intro p e s m args below meth c A hx hb hr hlocks hml hts hown hA hK hP hD hS ls hl
  have hin : ∀ w ∈ wsX120, w ∈ wsX12_status := fun w h => List.mem_cons_of_mem _ (List.mem_append_right _ h)
  have hl : lv_has ls 1 [(0, .ref (ad 0))] := hl
  refine lv_aload_n hx hb dX12_status_0 rfl (lv_at hl 0 rfl) ?_
  refine lv_iconst (v := 0) hx hb dX12_status_1 (by decide) ?_
  refine M_put hx hb hts hin hown hK hP hD hS 0 (by decide) rfl rfl (index := 156) (by decide +kernel) (ty := .int) (by decide +kernel) rfl rfl (pI_0 cI cJ ad x _) dX12_status_2 (fun y2 H locs ey2 hP hD hS => ?_)
  rw [ey2.trans (sI_0 h0)] at hP hD
  refine lv_aload_n hx hb dX12_status_5 rfl (lv_at hl 0 rfl) ?_
  refine M_get hx hb hts hin hown hK hP 1 (by decide) rfl (index := 159) (by decide +kernel) rfl dX12_status_6 ?_
  refine lv_topi (fun v6 ev6 => ?_)
  refine M_iret (v := v6) hx hb hr hlocks hK hP hD hS dX12_status_9 ?_
  exact ⟨rfl, ev6⟩

set_option maxHeartbeats 4000000 in
set_option maxRecDepth 100000 in
theorem c_weigh (l : Launch) (D : va_G) (cI cJ : ClassId) (ad : Nat → Nat) (x : MS) (a0 : Int32) (a1 : Int32) (a2 : Int32) (h0 : mI x 0 = 0) (h4 : okN x 4 200) (h65 : okN x 65 100) : Mi l yX12_weigh wsX12_weigh { frames := 2, cells := 0, slots := 0, locals := 46 } D cI cJ ad [.int a0, .int a1, .int a2] x (fun r y => r = (weighF x a0 a1 a2).1 ∧ y = (weighF x a0 a1 a2).2) := by
  have h1 := h65.1
  have h2 := h65.2
  refine Mi_of (cc := cX12_weigh) (nL := 4) (ret := (some .int)) (by decide) rfl rfl (Nat.le_of_ble_eq_true rfl) ?_
  intro p e s m args below meth c A hx hb hr hlocks hml hts hown hA hK hP hD hS ls hl
  have hin : ∀ w ∈ wsX120, w ∈ wsX12_weigh := fun w h => List.mem_cons_of_mem _ (List.mem_append_right _ h)
  have hl : lv_has ls 4 [(0, .ref (ad 0)), (1, .int a0), (2, .int a1), (3, .int a2)] := hl
  refine lv_aload_n hx hb dX12_weigh_0 rfl (lv_at hl 0 rfl) ?_
  refine lv_iconst (v := 0) hx hb dX12_weigh_1 (by decide) ?_
  refine M_put hx hb hts hin hown hK hP hD hS 0 (by decide) rfl rfl (index := 156) (by decide +kernel) (ty := .int) (by decide +kernel) rfl rfl (pI_0 cI cJ ad x _) dX12_weigh_2 (fun y2 H locs ey2 hP hD hS => ?_)
  rw [ey2.trans (sI_0 h0)] at hP hD
  refine lv_iload_n hx hb dX12_weigh_5 rfl (lv_at hl 2 rfl) ?_
  refine lv_i2l hx hb dX12_weigh_6 rfl ?_
  refine lv_lconst (v := 0) hx hb dX12_weigh_7 (by decide) ?_
  refine lv_ldc2 (v := 1000000) hx hb hown (hts (.constantLong RX12 187 (1000000)) (by decide +kernel)) dX12_weigh_8 ?_
  refine S_calli (av := [.long a1.toInt64, .long (0 : Int64), .long (1000000 : Int64)]) (rest := []) ⟨hx, hb, hml, hown, hts⟩ (c_in l (a1.toInt64) ((0 : Int64)) ((1000000 : Int64)) ) (va_cwS 3 hts gX12_weigh_X12_in rfl rfl rfl (by decide +kernel) ⟨Nat.le_of_ble_eq_true rfl, Nat.le_of_ble_eq_true rfl⟩) rfl hl.1 rfl (Nat.le_of_ble_eq_true rfl) dX12_weigh_11 ⟨Nat.le_of_ble_eq_true rfl, Nat.le_of_ble_eq_true rfl⟩ (fun r11 hw11 => ?_)
  rw [show inL a1.toInt64 (0) 1000000 = isB a1 0 1000000 from inL_i a1 0 1000000] at hw11
  refine lv_if_eq (tgt := 29) hx hb dX12_weigh_14 (by decide) (fun c14 => ?_) (fun c14 => ?_)
  · skip
    simp only [hw11, bI_0, bI_1, Bool.not_eq_false] at c14
    refine lv_aload_n hx hb dX12_weigh_29 rfl (lv_at hl 0 rfl) ?_
    refine lv_iconst (v := -1) hx hb dX12_weigh_30 (by decide) ?_
    refine M_calli (av := [.int (-1 : Int32)]) (rest := []) ⟨hx, hb, hml, hown, hts⟩ hA hK hP hD hS (c_told l D cI cJ ad x ((-1 : Int32)) ) (cwV 1 hts gX12_weigh_X12_told rfl rfl rfl (by decide +kernel) ⟨Nat.le_of_ble_eq_true rfl, Nat.le_of_ble_eq_true rfl⟩) rfl hl.1 rfl (Nat.le_of_ble_eq_true rfl) dX12_weigh_31 ⟨Nat.le_of_ble_eq_true rfl, Nat.le_of_ble_eq_true rfl⟩ (fun r31 y31 H locs hw31 hP hD hS => ?_)
    obtain ⟨er31, ey31⟩ := hw31
    refine M_iret (v := r31) hx hb hr hlocks hK hP hD hS dX12_weigh_34 ?_
    simp only [hw11, er31, ey31, weighF, c14, not_true_eq_false, not_false_eq_true, and_true, true_and, and_false, false_and, and_self, if_true, if_false, ite_true, ite_false, ↓reduceIte, Int32.add_zero, Bool.not_eq_false, Bool.and_true, Bool.true_and, Bool.and_false, Bool.false_and, Bool.false_eq_true]
  · skip
    simp only [hw11, bI_0, bI_1, Bool.not_eq_false] at c14
    refine lv_iload_n hx hb dX12_weigh_17 rfl (lv_at hl 3 rfl) ?_
    refine lv_i2l hx hb dX12_weigh_18 rfl ?_
    refine lv_lconst (v := 0) hx hb dX12_weigh_19 (by decide) ?_
    refine lv_ldc2 (v := 100000) hx hb hown (hts (.constantLong RX12 349 (100000)) (by decide +kernel)) dX12_weigh_20 ?_
    refine S_calli (av := [.long a2.toInt64, .long (0 : Int64), .long (100000 : Int64)]) (rest := []) ⟨hx, hb, hml, hown, hts⟩ (c_in l (a2.toInt64) ((0 : Int64)) ((100000 : Int64)) ) (va_cwS 3 hts gX12_weigh_X12_in rfl rfl rfl (by decide +kernel) ⟨Nat.le_of_ble_eq_true rfl, Nat.le_of_ble_eq_true rfl⟩) rfl hl.1 rfl (Nat.le_of_ble_eq_true rfl) dX12_weigh_23 ⟨Nat.le_of_ble_eq_true rfl, Nat.le_of_ble_eq_true rfl⟩ (fun r23 hw23 => ?_)
    rw [show inL a2.toInt64 (0) 100000 = isB a2 0 100000 from inL_i a2 0 100000] at hw23
    refine lv_if_ne (tgt := 35) hx hb dX12_weigh_26 (by decide) (fun c26 => ?_) (fun c26 => ?_)
    · skip
      simp only [hw23, bI_0, bI_1, Bool.not_eq_false] at c26
      refine lv_aload_n hx hb dX12_weigh_35 rfl (lv_at hl 0 rfl) ?_
      refine lv_iload_n hx hb dX12_weigh_36 rfl (lv_at hl 1 rfl) ?_
      refine M_callr (av := [.int a0]) (rest := []) ⟨hx, hb, hml, hown, hts⟩ hA hK hP hD hS (c_isLot l D cI cJ ad x (a0) ) (cwV 1 hts gX12_weigh_X12_isLot rfl rfl rfl (by decide +kernel) ⟨Nat.le_of_ble_eq_true rfl, Nat.le_of_ble_eq_true rfl⟩) rfl hl.1 rfl (Nat.le_of_ble_eq_true rfl) dX12_weigh_37 ⟨Nat.le_of_ble_eq_true rfl, Nat.le_of_ble_eq_true rfl⟩ (fun r37 H locs hw37 hP hD hS => ?_)
      refine lv_if_ne (tgt := 50) hx hb dX12_weigh_40 (by decide) (fun c40 => ?_) (fun c40 => ?_)
      · skip
        simp only [hw37, bI_0, bI_1, Bool.not_eq_false] at c40
        refine lv_aload_n hx hb dX12_weigh_50 rfl (lv_at hl 0 rfl) ?_
        refine M_get hx hb hts hin hown hK hP 65 (by decide) rfl (index := 356) (by decide +kernel) rfl dX12_weigh_51 ?_
        refine lv_topi (fun v51 ev51 => ?_)
        refine lv_bipush (v := 100) hx hb dX12_weigh_54 (by decide) ?_
        refine lv_icmp_ne (tgt := 66) hx hb dX12_weigh_56 (by decide) (fun c56 => ?_) (fun c56 => ?_)
        · skip
          simp only [ev51] at c56
          have hN : nN x 65 < 100 := by rw [h1] at c56; exact nIne h2 (by decide) rfl c56
          refine lv_aload_n hx hb dX12_weigh_66 rfl (lv_at hl 0 rfl) ?_
          refine M_get hx hb hts hin hown hK hP 66 (by decide) rfl (index := 147) (by decide +kernel) rfl dX12_weigh_67 ?_
          refine lv_aload_n hx hb dX12_weigh_70 rfl (lv_at hl 0 rfl) ?_
          refine M_get hx hb hts hin hown hK hP 65 (by decide) rfl (index := 356) (by decide +kernel) rfl dX12_weigh_71 ?_
          refine lv_topi (fun v71 ev71 => ?_)
          refine lv_iload_n hx hb dX12_weigh_74 rfl (lv_at hl 1 rfl) ?_
          have h75 : vp_in v71 100 := by simp only [hw11, hw23, hw37, ev51, ev71, mI_sA, h1]; exact vp_in_nI hN (by decide)
          refine M_iast hx hb hK hP hD hS 44 rfl h75 (pA_66 cI cJ ad x _) dX12_weigh_75 (fun y75 H locs ey75 hP hD hS => ?_)
          refine lv_aload_n hx hb dX12_weigh_76 rfl (lv_at hl 0 rfl) ?_
          refine M_get hx hb hts hin hown hK hP 67 (by decide) rfl (index := 150) (by decide +kernel) rfl dX12_weigh_77 ?_
          refine lv_aload_n hx hb dX12_weigh_80 rfl (lv_at hl 0 rfl) ?_
          refine M_get hx hb hts hin hown hK hP 65 (by decide) rfl (index := 356) (by decide +kernel) rfl dX12_weigh_81 ?_
          refine lv_topi (fun v81 ev81 => ?_)
          refine lv_iload_n hx hb dX12_weigh_84 rfl (lv_at hl 2 rfl) ?_
          have h85 : vp_in v81 100 := by simp only [hw11, hw23, hw37, ev51, ev71, ey75, ev81, mI_sA, h1]; exact vp_in_nI hN (by decide)
          refine M_iast hx hb hK hP hD hS 45 rfl h85 (pA_67 cI cJ ad y75 _) dX12_weigh_85 (fun y85 H locs ey85 hP hD hS => ?_)
          refine lv_aload_n hx hb dX12_weigh_86 rfl (lv_at hl 0 rfl) ?_
          refine M_get hx hb hts hin hown hK hP 68 (by decide) rfl (index := 153) (by decide +kernel) rfl dX12_weigh_87 ?_
          refine lv_aload_n hx hb dX12_weigh_90 rfl (lv_at hl 0 rfl) ?_
          refine M_get hx hb hts hin hown hK hP 65 (by decide) rfl (index := 356) (by decide +kernel) rfl dX12_weigh_91 ?_
          refine lv_topi (fun v91 ev91 => ?_)
          refine lv_iload_n hx hb dX12_weigh_94 rfl (lv_at hl 3 rfl) ?_
          have h95 : vp_in v91 100 := by simp only [hw11, hw23, hw37, ev51, ev71, ey75, ev81, ey85, ev91, mI_sA, h1]; exact vp_in_nI hN (by decide)
          refine M_iast hx hb hK hP hD hS 46 rfl h95 (pA_68 cI cJ ad y85 _) dX12_weigh_95 (fun y95 H locs ey95 hP hD hS => ?_)
          refine lv_aload_n hx hb dX12_weigh_96 rfl (lv_at hl 0 rfl) ?_
          refine lv_dup hx hb dX12_weigh_97 rfl ?_
          refine M_get hx hb hts hin hown hK hP 65 (by decide) rfl (index := 356) (by decide +kernel) rfl dX12_weigh_98 ?_
          refine lv_topi (fun v98 ev98 => ?_)
          refine lv_iconst (v := 1) hx hb dX12_weigh_101 (by decide) ?_
          refine lv_iadd hx hb dX12_weigh_102 ?_
          refine M_put hx hb hts hin hown hK hP hD hS 65 (by decide) rfl rfl (index := 356) (by decide +kernel) (ty := .int) (by decide +kernel) rfl rfl (pI_65 cI cJ ad y95 _) dX12_weigh_103 (fun y103 H locs ey103 hP hD hS => ?_)
          refine lv_aload_n hx hb dX12_weigh_106 rfl (lv_at hl 0 rfl) ?_
          refine lv_aload_n hx hb dX12_weigh_107 rfl (lv_at hl 0 rfl) ?_
          refine M_get hx hb hts hin hown hK hP 65 (by decide) rfl (index := 356) (by decide +kernel) rfl dX12_weigh_108 ?_
          refine lv_topi (fun v108 ev108 => ?_)
          refine M_calli (av := [.int v108]) (rest := []) ⟨hx, hb, hml, hown, hts⟩ hA hK hP hD hS (c_told l D cI cJ ad y103 (v108) ) (cwV 1 hts gX12_weigh_X12_told rfl rfl rfl (by decide +kernel) ⟨Nat.le_of_ble_eq_true rfl, Nat.le_of_ble_eq_true rfl⟩) rfl hl.1 rfl (Nat.le_of_ble_eq_true rfl) dX12_weigh_111 ⟨Nat.le_of_ble_eq_true rfl, Nat.le_of_ble_eq_true rfl⟩ (fun r111 y111 H locs hw111 hP hD hS => ?_)
          obtain ⟨er111, ey111⟩ := hw111
          refine M_iret (v := r111) hx hb hr hlocks hK hP hD hS dX12_weigh_114 ?_
          have hcl : (nI (nN x 65)).toNatClampNeg = nN x 65 := nI_clamp (by omega)
          have e1 : r111 = nI (nN x 65 + 1) := by simp [hw11, hw23, hw37, ev51, ev71, ey75, ev81, ey85, ev91, ey95, ev98, ey103, ev108, er111, ey111, mI_sA, mI_sI, h1, nI_1]
          rw [← er111, e1, toldF_nI _ (by omega)] at ey111
          rw [ey111, e1]
          simp [weighF, weighX, hw11, hw23, hw37, ev51, ev71, ey75, ev81, ey85, ev91, ey95, ev98, ey103, ev108, er111, ey111, mI_sI, mI_sA, mI_sL, mI_sB, mL_sI, mL_sA, mL_sL, mL_sB, mA_sI, mA_sA, mA_sL, mA_sB, mB_sI, mB_sA, mB_sL, mB_sB, h1, hcl, nI_1, c14, c26, c40, c56, Nat.ne_of_lt hN]
        · skip
          simp only [ev51] at c56
          have hN : nN x 65 = 100 := by rw [h1] at c56; exact (nI_eq (by omega) (by omega)).mp c56
          refine lv_aload_n hx hb dX12_weigh_59 rfl (lv_at hl 0 rfl) ?_
          refine lv_bipush (v := -5) hx hb dX12_weigh_60 (by decide) ?_
          refine M_calli (av := [.int (-5 : Int32)]) (rest := []) ⟨hx, hb, hml, hown, hts⟩ hA hK hP hD hS (c_told l D cI cJ ad x ((-5 : Int32)) ) (cwV 1 hts gX12_weigh_X12_told rfl rfl rfl (by decide +kernel) ⟨Nat.le_of_ble_eq_true rfl, Nat.le_of_ble_eq_true rfl⟩) rfl hl.1 rfl (Nat.le_of_ble_eq_true rfl) dX12_weigh_62 ⟨Nat.le_of_ble_eq_true rfl, Nat.le_of_ble_eq_true rfl⟩ (fun r62 y62 H locs hw62 hP hD hS => ?_)
          obtain ⟨er62, ey62⟩ := hw62
          refine M_iret (v := r62) hx hb hr hlocks hK hP hD hS dX12_weigh_65 ?_
          simp only [hw11, hw23, hw37, ev51, er62, ey62, weighF, c14, c26, c40, c56, not_true_eq_false, not_false_eq_true, and_true, true_and, and_false, false_and, and_self, if_true, if_false, ite_true, ite_false, ↓reduceIte, Int32.add_zero, Bool.not_eq_false, Bool.and_true, Bool.true_and, Bool.and_false, Bool.false_and, Bool.false_eq_true, hN]
      · skip
        simp only [hw37, bI_0, bI_1, Bool.not_eq_false] at c40
        refine lv_aload_n hx hb dX12_weigh_43 rfl (lv_at hl 0 rfl) ?_
        refine lv_bipush (v := -2) hx hb dX12_weigh_44 (by decide) ?_
        refine M_calli (av := [.int (-2 : Int32)]) (rest := []) ⟨hx, hb, hml, hown, hts⟩ hA hK hP hD hS (c_told l D cI cJ ad x ((-2 : Int32)) ) (cwV 1 hts gX12_weigh_X12_told rfl rfl rfl (by decide +kernel) ⟨Nat.le_of_ble_eq_true rfl, Nat.le_of_ble_eq_true rfl⟩) rfl hl.1 rfl (Nat.le_of_ble_eq_true rfl) dX12_weigh_46 ⟨Nat.le_of_ble_eq_true rfl, Nat.le_of_ble_eq_true rfl⟩ (fun r46 y46 H locs hw46 hP hD hS => ?_)
        obtain ⟨er46, ey46⟩ := hw46
        refine M_iret (v := r46) hx hb hr hlocks hK hP hD hS dX12_weigh_49 ?_
        simp only [hw11, hw23, hw37, er46, ey46, weighF, c14, c26, c40, not_true_eq_false, not_false_eq_true, and_true, true_and, and_false, false_and, and_self, if_true, if_false, ite_true, ite_false, ↓reduceIte, Int32.add_zero, Bool.not_eq_false, Bool.and_true, Bool.true_and, Bool.and_false, Bool.false_and, Bool.false_eq_true]
    · skip
      simp only [hw23, bI_0, bI_1, Bool.not_eq_false] at c26
      refine lv_aload_n hx hb dX12_weigh_29 rfl (lv_at hl 0 rfl) ?_
      refine lv_iconst (v := -1) hx hb dX12_weigh_30 (by decide) ?_
      refine M_calli (av := [.int (-1 : Int32)]) (rest := []) ⟨hx, hb, hml, hown, hts⟩ hA hK hP hD hS (c_told l D cI cJ ad x ((-1 : Int32)) ) (cwV 1 hts gX12_weigh_X12_told rfl rfl rfl (by decide +kernel) ⟨Nat.le_of_ble_eq_true rfl, Nat.le_of_ble_eq_true rfl⟩) rfl hl.1 rfl (Nat.le_of_ble_eq_true rfl) dX12_weigh_31 ⟨Nat.le_of_ble_eq_true rfl, Nat.le_of_ble_eq_true rfl⟩ (fun r31 y31 H locs hw31 hP hD hS => ?_)
      obtain ⟨er31, ey31⟩ := hw31
      refine M_iret (v := r31) hx hb hr hlocks hK hP hD hS dX12_weigh_34 ?_
      simp only [hw11, hw23, er31, ey31, weighF, c14, c26, not_true_eq_false, not_false_eq_true, and_true, true_and, and_false, false_and, and_self, if_true, if_false, ite_true, ite_false, ↓reduceIte, Int32.add_zero, Bool.not_eq_false, Bool.and_true, Bool.true_and, Bool.and_false, Bool.false_and, Bool.false_eq_true]

set_option maxHeartbeats 4000000 in
set_option maxRecDepth 100000 in
theorem c_given (l : Launch) (D : va_G) (cI cJ : ClassId) (ad : Nat → Nat) (x : MS) (a0 : Int32) (a1 : Int32) (h0 : mI x 0 = 0) (h4 : okN x 4 200) (h65 : okN x 65 100) : Ml l yX12_given wsX12_given { frames := 1, cells := 0, slots := 0, locals := 25 } D cI cJ ad [.int a0, .int a1] x (fun r y => y = x ∧ r = givenF x a0 a1) := by
  have hN := h4.1
  have hN2 := h4.2
  have hM := h65.1
  have hM2 := h65.2
  refine Ml_of (cc := cX12_given) (nL := 8) (ret := (some .long)) (by decide) rfl rfl (Nat.le_of_ble_eq_true rfl) ?_
  intro p e s m args below meth c A hx hb hr hlocks hml hts hown hA hK hP hD hS ls hl
  have hin : ∀ w ∈ wsX120, w ∈ wsX12_given := fun w h => List.mem_cons_of_mem _ (List.mem_append_right _ h)
  have hl : lv_has ls 8 [(0, .ref (ad 0)), (1, .int a0), (2, .int a1)] := hl
  refine lv_aload_n hx hb dX12_given_0 rfl (lv_at hl 0 rfl) ?_
  refine lv_iconst (v := 0) hx hb dX12_given_1 (by decide) ?_
  refine M_put hx hb hts hin hown hK hP hD hS 0 (by decide) rfl rfl (index := 156) (by decide +kernel) (ty := .int) (by decide +kernel) rfl rfl (pI_0 cI cJ ad x _) dX12_given_2 (fun y2 H locs ey2 hP hD hS => ?_)
  rw [ey2.trans (sI_0 h0)] at hP hD
  refine lv_iload_n hx hb dX12_given_5 rfl (lv_at hl 1 rfl) ?_
  refine lv_i2l hx hb dX12_given_6 rfl ?_
  refine lv_lconst (v := 0) hx hb dX12_given_7 (by decide) ?_
  refine lv_ldc2 (v := 19) hx hb hown (hts (.constantLong RX12 194 (19)) (by decide +kernel)) dX12_given_8 ?_
  refine S_calli (av := [.long a0.toInt64, .long (0 : Int64), .long (19 : Int64)]) (rest := []) ⟨hx, hb, hml, hown, hts⟩ (c_in l (a0.toInt64) ((0 : Int64)) ((19 : Int64)) ) (va_cwS 3 hts gX12_given_X12_in rfl rfl rfl (by decide +kernel) ⟨Nat.le_of_ble_eq_true rfl, Nat.le_of_ble_eq_true rfl⟩) rfl hl.1 rfl (Nat.le_of_ble_eq_true rfl) dX12_given_11 ⟨Nat.le_of_ble_eq_true rfl, Nat.le_of_ble_eq_true rfl⟩ (fun r11 hw11 => ?_)
  rw [show inL a0.toInt64 (0) 19 = isB a0 0 19 from inL_i a0 0 19] at hw11
  refine lv_if_eq (tgt := 29) hx hb dX12_given_14 (by decide) (fun c14 => ?_) (fun c14 => ?_)
  · skip
    simp only [hw11, bI_0, bI_1, Bool.not_eq_false] at c14
    refine lv_ldc2 (v := -1) hx hb hown (hts (.constantLong RX12 319 (-1)) (by decide +kernel)) dX12_given_29 ?_
    refine M_lret (v := (-1 : Int64)) hx hb hr hlocks hK hP hD hS dX12_given_32 ?_
    simp only [hw11, givenF, c14, not_true_eq_false, not_false_eq_true, and_true, true_and, and_false, false_and, and_self, if_true, if_false, ite_true, ite_false, ↓reduceIte, Int32.add_zero, Bool.not_eq_false, Bool.and_true, Bool.true_and, Bool.and_false, Bool.false_and, Bool.false_eq_true]
  · skip
    simp only [hw11, bI_0, bI_1, Bool.not_eq_false] at c14
    refine lv_iload_n hx hb dX12_given_17 rfl (lv_at hl 2 rfl) ?_
    refine lv_i2l hx hb dX12_given_18 rfl ?_
    refine lv_lconst (v := 0) hx hb dX12_given_19 (by decide) ?_
    refine lv_ldc2 (v := 100000) hx hb hown (hts (.constantLong RX12 349 (100000)) (by decide +kernel)) dX12_given_20 ?_
    refine S_calli (av := [.long a1.toInt64, .long (0 : Int64), .long (100000 : Int64)]) (rest := []) ⟨hx, hb, hml, hown, hts⟩ (c_in l (a1.toInt64) ((0 : Int64)) ((100000 : Int64)) ) (va_cwS 3 hts gX12_given_X12_in rfl rfl rfl (by decide +kernel) ⟨Nat.le_of_ble_eq_true rfl, Nat.le_of_ble_eq_true rfl⟩) rfl hl.1 rfl (Nat.le_of_ble_eq_true rfl) dX12_given_23 ⟨Nat.le_of_ble_eq_true rfl, Nat.le_of_ble_eq_true rfl⟩ (fun r23 hw23 => ?_)
    rw [show inL a1.toInt64 (0) 100000 = isB a1 0 100000 from inL_i a1 0 100000] at hw23
    refine lv_if_ne (tgt := 33) hx hb dX12_given_26 (by decide) (fun c26 => ?_) (fun c26 => ?_)
    · skip
      simp only [hw23, bI_0, bI_1, Bool.not_eq_false] at c26
      refine lv_lconst (v := 0) hx hb dX12_given_33 (by decide) ?_
      refine lv_topl (fun x34 ex34 => ?_)
      refine lv_lstore_n (lv' := [(3, .long x34), (0, .ref (ad 0)), (1, .int a0), (2, .int a1)]) hx hb dX12_given_34 rfl hl (by decide) rfl (fun ls hl => ?_)
      refine lv_iconst (v := 0) hx hb dX12_given_35 (by decide) ?_
      refine lv_topi (fun x36 ex36 => ?_)
      refine lv_istore (lv' := [(5, .int x36), (3, .long x34), (0, .ref (ad 0)), (1, .int a0), (2, .int a1)]) hx hb dX12_given_36 hl (by decide) rfl (fun ls hl => ?_)
      have lp38 : ∀ (n : Nat) (k : Nat), (nN x 4 < k + n) → (k ≤ nN x 4) → ∀ (H : Heap) (locs : List Loc), va_P D vwCl (wsM cI cJ ad x) H → va_D A (wsM cI cJ ad x) → va_S A s.heap H locs → ∀ ls : Array Slot, lv_has ls 8 [(5, .int (nI k)), (3, .long (givN x a0 a1 k)), (0, .ref (ad 0)), (1, .int a0), (2, .int a1)] → W p l e { frames := 1, cells := 0, slots := 0, locals := 25 } s m args below meth c H locs 0 0 (MQ below (va_Ql (fun r y => y = x ∧ r = givenF x a0 a1) (mAft D cI cJ ad A) A) args s 0 0 A) (F0 m 38 ls []) := by
        intro n
        induction n with
        | zero => intro k hn hk; exact absurd hn (by omega)
        | succ n ih38 =>
          intro k hn hk H locs hP hD hS ls hl
          refine lv_iload hx hb dX12_given_38 (lv_at hl 0 rfl) ?_
          refine lv_aload_n hx hb dX12_given_40 rfl (lv_at hl 2 rfl) ?_
          refine M_get hx hb hts hin hown hK hP 4 (by decide) rfl (index := 168) (by decide +kernel) rfl dX12_given_41 ?_
          refine lv_topi (fun v41 ev41 => ?_)
          refine lv_icmp_ge (tgt := 138) hx hb dX12_given_44 (by decide) (fun c44 => ?_) (fun c44 => ?_)
          · skip
            simp only [ev41] at c44
            have hkN : k = nN x 4 := by rw [hN] at c44; have := (nI_leI (by omega) (by omega)).mp c44; omega
            refine lv_lload_n hx hb dX12_given_138 rfl (lv_at hl 1 rfl) ?_
            refine M_lret (v := (givN x a0 a1 k)) hx hb hr hlocks hK hP hD hS dX12_given_139 ?_
            simp only [hkN, givenF, c14, c26, not_true_eq_false, not_false_eq_true, and_true, true_and, and_false, false_and, and_self, if_true, if_false, ite_true, ite_false, ↓reduceIte, Int32.add_zero, Bool.not_eq_false, Bool.and_true, Bool.true_and, Bool.and_false, Bool.false_and, Bool.false_eq_true]
          · skip
            simp only [ev41] at c44
            have hkN : k < nN x 4 := by
              rw [hN] at c44
              rcases Nat.lt_or_ge k (nN x 4) with q | q
              · exact q
              · exact absurd (nI_le q (by omega)) c44
            refine lv_aload_n hx hb dX12_given_47 rfl (lv_at hl 2 rfl) ?_
            refine M_get hx hb hts hin hown hK hP 6 (by decide) rfl (index := 16) (by decide +kernel) rfl dX12_given_48 ?_
            refine lv_iload hx hb dX12_given_51 (lv_at hl 0 rfl) ?_
            have h53 : vp_in ((nI k)) 200 := by exact vp_in_nI (by omega) (by decide)
            refine va_iald hx hb hK hP 3 0 rfl rfl h53 dX12_given_53 ?_
            refine lv_topi (fun v53 ev53 => ?_)
            rw [nI_clamp (by omega)] at ev53
            refine lv_topi (fun x54 ex54 => ?_)
            refine lv_istore (lv' := [(6, .int x54), (5, .int (nI k)), (3, .long (givN x a0 a1 k)), (0, .ref (ad 0)), (1, .int a0), (2, .int a1)]) hx hb dX12_given_54 hl (by decide) rfl (fun ls hl => ?_)
            refine lv_iconst (v := 0) hx hb dX12_given_56 (by decide) ?_
            refine lv_topi (fun x57 ex57 => ?_)
            refine lv_istore (lv' := [(7, .int x57), (6, .int x54), (5, .int (nI k)), (3, .long (givN x a0 a1 k)), (0, .ref (ad 0)), (1, .int a0), (2, .int a1)]) hx hb dX12_given_57 hl (by decide) rfl (fun ls hl => ?_)
            have lp59 : ∀ (n : Nat) (w : Nat), (nN x 65 < w + n) → (w ≤ nN x 65) → ∀ (H : Heap) (locs : List Loc), va_P D vwCl (wsM cI cJ ad x) H → va_D A (wsM cI cJ ad x) → va_S A s.heap H locs → ∀ ls : Array Slot, lv_has ls 8 [(7, .int (nI w)), (6, .int (wN x k a1 w)), (5, .int (nI k)), (3, .long (givN x a0 a1 k)), (0, .ref (ad 0)), (1, .int a0), (2, .int a1)] → W p l e { frames := 1, cells := 0, slots := 0, locals := 25 } s m args below meth c H locs 0 0 (MQ below (va_Ql (fun r y => y = x ∧ r = givenF x a0 a1) (mAft D cI cJ ad A) A) args s 0 0 A) (F0 m 59 ls []) := by
              intro n
              induction n with
              | zero => intro w hn2 hk2; exact absurd hn2 (by omega)
              | succ n ih59 =>
                intro w hn2 hk2 H locs hP hD hS ls hl
                refine lv_iload hx hb dX12_given_59 (lv_at hl 0 rfl) ?_
                refine lv_aload_n hx hb dX12_given_61 rfl (lv_at hl 4 rfl) ?_
                refine M_get hx hb hts hin hown hK hP 65 (by decide) rfl (index := 356) (by decide +kernel) rfl dX12_given_62 ?_
                refine lv_topi (fun v62 ev62 => ?_)
                refine lv_icmp_ge (tgt := 111) hx hb dX12_given_65 (by decide) (fun c65 => ?_) (fun c65 => ?_)
                · skip
                  simp only [ev62] at c65
                  have hkN : w = nN x 65 := by rw [hM] at c65; have := (nI_leI (by omega) (by omega)).mp c65; omega
                  refine lv_lload_n hx hb dX12_given_111 rfl (lv_at hl 3 rfl) ?_
                  refine lv_aload_n hx hb dX12_given_112 rfl (lv_at hl 4 rfl) ?_
                  refine M_get hx hb hts hin hown hK hP 8 (by decide) rfl (index := 22) (by decide +kernel) rfl dX12_given_113 ?_
                  refine lv_iload hx hb dX12_given_116 (lv_at hl 2 rfl) ?_
                  have h118 : vp_in ((nI k)) 200 := by exact vp_in_nI (by omega) (by decide)
                  refine va_iald hx hb hK hP 5 0 rfl rfl h118 dX12_given_118 ?_
                  refine lv_topi (fun v118 ev118 => ?_)
                  rw [nI_clamp (by omega)] at ev118
                  refine lv_iload_n hx hb dX12_given_119 rfl (lv_at hl 5 rfl) ?_
                  refine lv_icmp_ne (tgt := 129) hx hb dX12_given_120 (by decide) (fun c120 => ?_) (fun c120 => ?_)
                  · skip
                    simp only [ev118] at c120
                    refine lv_lconst (v := 0) hx hb dX12_given_129 (by decide) ?_
                    refine lv_ladd hx hb dX12_given_130 ?_
                    refine lv_topl (fun x131 ex131 => ?_)
                    refine lv_lstore_n (lv' := [(3, .long x131), (7, .int (nI w)), (6, .int (wN x k a1 w)), (5, .int (nI k)), (0, .ref (ad 0)), (1, .int a0), (2, .int a1)]) hx hb dX12_given_131 rfl hl (by decide) rfl (fun ls hl => ?_)
                    obtain ⟨x132, ex132⟩ : ∃ y : Int32, y = (nI k) + 1 := ⟨_, rfl⟩
                    refine lv_iinc (v := x132) (lv' := [(5, .int x132), (3, .long x131), (7, .int (nI w)), (6, .int (wN x k a1 w)), (0, .ref (ad 0)), (1, .int a0), (2, .int a1)]) hx hb dX12_given_132 hl (k := 3) rfl (by rw [ex132]; rfl) (by decide) rfl (fun ls hl => ?_)
                    refine lv_goto (tgt := 38) hx hb dX12_given_135 (by decide) ?_
                    have q5 : x132 = (nI (k + 1)) := by rw [ex132]; exact nI_1 k
                    have q3 : x131 = (givN x a0 a1 (k + 1)) := by simp only [hw11, hw23, ex34, ex36, ev41, ev53, ex54, ex57, ev62, ev118, ex131, ex132, givN_s, hkN, c65, c120, not_true_eq_false, not_false_eq_true, and_true, true_and, and_false, false_and, and_self, if_true, if_false, ite_true, ite_false, ↓reduceIte, Int32.add_zero, Bool.not_eq_false, Bool.and_true, Bool.true_and, Bool.and_false, Bool.false_and, Bool.false_eq_true, Int64.add_zero]
                    rw [q5, q3] at hl
                    exact ih38 (k + 1) (by omega) (by omega) _ _ hP hD hS ls (lv_sub hl [0, 1, 4, 5, 6] rfl)
                  · skip
                    simp only [ev118] at c120
                    refine lv_iload hx hb dX12_given_123 (lv_at hl 1 rfl) ?_
                    refine lv_i2l hx hb dX12_given_125 rfl ?_
                    refine lv_goto (tgt := 130) hx hb dX12_given_126 (by decide) ?_
                    refine lv_ladd hx hb dX12_given_130 ?_
                    refine lv_topl (fun x131 ex131 => ?_)
                    refine lv_lstore_n (lv' := [(3, .long x131), (7, .int (nI w)), (6, .int (wN x k a1 w)), (5, .int (nI k)), (0, .ref (ad 0)), (1, .int a0), (2, .int a1)]) hx hb dX12_given_131 rfl hl (by decide) rfl (fun ls hl => ?_)
                    obtain ⟨x132, ex132⟩ : ∃ y : Int32, y = (nI k) + 1 := ⟨_, rfl⟩
                    refine lv_iinc (v := x132) (lv' := [(5, .int x132), (3, .long x131), (7, .int (nI w)), (6, .int (wN x k a1 w)), (0, .ref (ad 0)), (1, .int a0), (2, .int a1)]) hx hb dX12_given_132 hl (k := 3) rfl (by rw [ex132]; rfl) (by decide) rfl (fun ls hl => ?_)
                    refine lv_goto (tgt := 38) hx hb dX12_given_135 (by decide) ?_
                    have q5 : x132 = (nI (k + 1)) := by rw [ex132]; exact nI_1 k
                    have q3 : x131 = (givN x a0 a1 (k + 1)) := by simp only [hw11, hw23, ex34, ex36, ev41, ev53, ex54, ex57, ev62, ev118, ex131, ex132, givN_s, hkN, c65, c120, not_true_eq_false, not_false_eq_true, and_true, true_and, and_false, false_and, and_self, if_true, if_false, ite_true, ite_false, ↓reduceIte, Int32.add_zero, Bool.not_eq_false, Bool.and_true, Bool.true_and, Bool.and_false, Bool.false_and, Bool.false_eq_true, Int64.add_zero]
                    rw [q5, q3] at hl
                    exact ih38 (k + 1) (by omega) (by omega) _ _ hP hD hS ls (lv_sub hl [0, 1, 4, 5, 6] rfl)
                · skip
                  simp only [ev62] at c65
                  have hkN : w < nN x 65 := by
                    rw [hM] at c65
                    rcases Nat.lt_or_ge w (nN x 65) with q | q
                    · exact q
                    · exact absurd (nI_le q (by omega)) c65
                  refine lv_aload_n hx hb dX12_given_68 rfl (lv_at hl 4 rfl) ?_
                  refine M_get hx hb hts hin hown hK hP 66 (by decide) rfl (index := 147) (by decide +kernel) rfl dX12_given_69 ?_
                  refine lv_iload hx hb dX12_given_72 (lv_at hl 0 rfl) ?_
                  have h74 : vp_in ((nI w)) 100 := by exact vp_in_nI (by omega) (by decide)
                  refine va_iald hx hb hK hP 44 0 rfl rfl h74 dX12_given_74 ?_
                  refine lv_topi (fun v74 ev74 => ?_)
                  rw [nI_clamp (by omega)] at ev74
                  refine lv_iload hx hb dX12_given_75 (lv_at hl 2 rfl) ?_
                  refine lv_icmp_ne (tgt := 101) hx hb dX12_given_77 (by decide) (fun c77 => ?_) (fun c77 => ?_)
                  · skip
                    simp only [ev74] at c77
                    refine lv_iload hx hb dX12_given_101 (lv_at hl 1 rfl) ?_
                    refine lv_topi (fun x103 ex103 => ?_)
                    refine lv_istore (lv' := [(6, .int x103), (7, .int (nI w)), (5, .int (nI k)), (3, .long (givN x a0 a1 k)), (0, .ref (ad 0)), (1, .int a0), (2, .int a1)]) hx hb dX12_given_103 hl (by decide) rfl (fun ls hl => ?_)
                    obtain ⟨x105, ex105⟩ : ∃ y : Int32, y = (nI w) + 1 := ⟨_, rfl⟩
                    refine lv_iinc (v := x105) (lv' := [(7, .int x105), (6, .int x103), (5, .int (nI k)), (3, .long (givN x a0 a1 k)), (0, .ref (ad 0)), (1, .int a0), (2, .int a1)]) hx hb dX12_given_105 hl (k := 1) rfl (by rw [ex105]; rfl) (by decide) rfl (fun ls hl => ?_)
                    refine lv_goto (tgt := 59) hx hb dX12_given_108 (by decide) ?_
                    have q7 : x105 = (nI (w + 1)) := by rw [ex105]; exact nI_1 w
                    have q6 : x103 = (wN x k a1 (w + 1)) := by simp only [hw11, hw23, ex34, ex36, ev41, ev53, ex54, ex57, ev62, ev74, ex103, ex105, wN_s, c65, c77, not_true_eq_false, not_false_eq_true, and_true, true_and, and_false, false_and, and_self, if_true, if_false, ite_true, ite_false, ↓reduceIte, Int32.add_zero, Bool.not_eq_false, Bool.and_true, Bool.true_and, Bool.and_false, Bool.false_and, Bool.false_eq_true]
                    rw [q7, q6] at hl
                    exact ih59 (w + 1) (by omega) (by omega) _ _ hP hD hS ls (lv_sub hl [0, 1, 2, 3, 4, 5, 6] rfl)
                  · skip
                    simp only [ev74] at c77
                    refine lv_aload_n hx hb dX12_given_80 rfl (lv_at hl 4 rfl) ?_
                    refine M_get hx hb hts hin hown hK hP 68 (by decide) rfl (index := 153) (by decide +kernel) rfl dX12_given_81 ?_
                    refine lv_iload hx hb dX12_given_84 (lv_at hl 0 rfl) ?_
                    have h86 : vp_in ((nI w)) 100 := by exact vp_in_nI (by omega) (by decide)
                    refine va_iald hx hb hK hP 46 0 rfl rfl h86 dX12_given_86 ?_
                    refine lv_topi (fun v86 ev86 => ?_)
                    rw [nI_clamp (by omega)] at ev86
                    refine lv_iload_n hx hb dX12_given_87 rfl (lv_at hl 6 rfl) ?_
                    refine lv_icmp_gt (tgt := 101) hx hb dX12_given_88 (by decide) (fun c88 => ?_) (fun c88 => ?_)
                    · skip
                      simp only [ev86] at c88
                      refine lv_iload hx hb dX12_given_101 (lv_at hl 1 rfl) ?_
                      refine lv_topi (fun x103 ex103 => ?_)
                      refine lv_istore (lv' := [(6, .int x103), (7, .int (nI w)), (5, .int (nI k)), (3, .long (givN x a0 a1 k)), (0, .ref (ad 0)), (1, .int a0), (2, .int a1)]) hx hb dX12_given_103 hl (by decide) rfl (fun ls hl => ?_)
                      obtain ⟨x105, ex105⟩ : ∃ y : Int32, y = (nI w) + 1 := ⟨_, rfl⟩
                      refine lv_iinc (v := x105) (lv' := [(7, .int x105), (6, .int x103), (5, .int (nI k)), (3, .long (givN x a0 a1 k)), (0, .ref (ad 0)), (1, .int a0), (2, .int a1)]) hx hb dX12_given_105 hl (k := 1) rfl (by rw [ex105]; rfl) (by decide) rfl (fun ls hl => ?_)
                      refine lv_goto (tgt := 59) hx hb dX12_given_108 (by decide) ?_
                      have q7 : x105 = (nI (w + 1)) := by rw [ex105]; exact nI_1 w
                      have q6 : x103 = (wN x k a1 (w + 1)) := by simp only [hw11, hw23, ex34, ex36, ev41, ev53, ex54, ex57, ev62, ev74, ev86, ex103, ex105, wN_s, c65, c77, c88, not_true_eq_false, not_false_eq_true, and_true, true_and, and_false, false_and, and_self, if_true, if_false, ite_true, ite_false, ↓reduceIte, Int32.add_zero, Bool.not_eq_false, Bool.and_true, Bool.true_and, Bool.and_false, Bool.false_and, Bool.false_eq_true]
                      rw [q7, q6] at hl
                      exact ih59 (w + 1) (by omega) (by omega) _ _ hP hD hS ls (lv_sub hl [0, 1, 2, 3, 4, 5, 6] rfl)
                    · skip
                      simp only [ev86] at c88
                      refine lv_aload_n hx hb dX12_given_91 rfl (lv_at hl 4 rfl) ?_
                      refine M_get hx hb hts hin hown hK hP 67 (by decide) rfl (index := 150) (by decide +kernel) rfl dX12_given_92 ?_
                      refine lv_iload hx hb dX12_given_95 (lv_at hl 0 rfl) ?_
                      have h97 : vp_in ((nI w)) 100 := by exact vp_in_nI (by omega) (by decide)
                      refine va_iald hx hb hK hP 45 0 rfl rfl h97 dX12_given_97 ?_
                      refine lv_topi (fun v97 ev97 => ?_)
                      rw [nI_clamp (by omega)] at ev97
                      refine lv_goto (tgt := 103) hx hb dX12_given_98 (by decide) ?_
                      refine lv_topi (fun x103 ex103 => ?_)
                      refine lv_istore (lv' := [(6, .int x103), (7, .int (nI w)), (5, .int (nI k)), (3, .long (givN x a0 a1 k)), (0, .ref (ad 0)), (1, .int a0), (2, .int a1)]) hx hb dX12_given_103 hl (by decide) rfl (fun ls hl => ?_)
                      obtain ⟨x105, ex105⟩ : ∃ y : Int32, y = (nI w) + 1 := ⟨_, rfl⟩
                      refine lv_iinc (v := x105) (lv' := [(7, .int x105), (6, .int x103), (5, .int (nI k)), (3, .long (givN x a0 a1 k)), (0, .ref (ad 0)), (1, .int a0), (2, .int a1)]) hx hb dX12_given_105 hl (k := 1) rfl (by rw [ex105]; rfl) (by decide) rfl (fun ls hl => ?_)
                      refine lv_goto (tgt := 59) hx hb dX12_given_108 (by decide) ?_
                      have q7 : x105 = (nI (w + 1)) := by rw [ex105]; exact nI_1 w
                      have q6 : x103 = (wN x k a1 (w + 1)) := by simp only [hw11, hw23, ex34, ex36, ev41, ev53, ex54, ex57, ev62, ev74, ev86, ev97, ex103, ex105, wN_s, c65, c77, c88, not_true_eq_false, not_false_eq_true, and_true, true_and, and_false, false_and, and_self, if_true, if_false, ite_true, ite_false, ↓reduceIte, Int32.add_zero, Bool.not_eq_false, Bool.and_true, Bool.true_and, Bool.and_false, Bool.false_and, Bool.false_eq_true]
                      rw [q7, q6] at hl
                      exact ih59 (w + 1) (by omega) (by omega) _ _ hP hD hS ls (lv_sub hl [0, 1, 2, 3, 4, 5, 6] rfl)
            have q7 : x57 = (nI 0) := by rw [ex57]; exact nI_0.symm
            have q6 : x54 = (wN x k a1 0) := by rw [ex54, ev53]; rfl
            rw [q7, q6] at hl
            exact lp59 (nN x 65 + 1) 0 (by omega) (by omega) _ _ hP hD hS ls (lv_sub hl [0, 1, 2, 3, 4, 5, 6] rfl)
      have q5 : x36 = (nI 0) := by rw [ex36]; exact nI_0.symm
      have q3 : x34 = (givN x a0 a1 0) := by rw [ex34]; rfl
      rw [q5, q3] at hl
      exact lp38 (nN x 4 + 1) 0 (by omega) (by omega) _ _ hP hD hS ls (lv_sub hl [0, 1, 2, 3, 4] rfl)
    · skip
      simp only [hw23, bI_0, bI_1, Bool.not_eq_false] at c26
      refine lv_ldc2 (v := -1) hx hb hown (hts (.constantLong RX12 319 (-1)) (by decide +kernel)) dX12_given_29 ?_
      refine M_lret (v := (-1 : Int64)) hx hb hr hlocks hK hP hD hS dX12_given_32 ?_
      simp only [hw11, hw23, givenF, c14, c26, not_true_eq_false, not_false_eq_true, and_true, true_and, and_false, false_and, and_self, if_true, if_false, ite_true, ite_false, ↓reduceIte, Int32.add_zero, Bool.not_eq_false, Bool.and_true, Bool.true_and, Bool.and_false, Bool.false_and, Bool.false_eq_true]

set_option maxHeartbeats 4000000 in
set_option maxRecDepth 100000 in
theorem c_sumOf (l : Launch) (D : va_G) (cI cJ : ClassId) (ad : Nat → Nat) (x : MS) (a0 : Int32) (a1 : Int32) (h4 : okN x 4 200) : Ml l yX12_sumOf wsX12_sumOf { frames := 0, cells := 0, slots := 0, locals := 0 } D cI cJ ad [.int a0, .int a1] x (fun r y => y = x ∧ r = sumN x a0 a1 (nN x 4)) := by
  have hN := h4.1
  have hN2 := h4.2
  refine Ml_of (cc := cX12_sumOf) (nL := 7) (ret := (some .long)) (by decide) rfl rfl (Nat.le_of_ble_eq_true rfl) ?_
  intro p e s m args below meth c A hx hb hr hlocks hml hts hown hA hK hP hD hS ls hl
  have hin : ∀ w ∈ wsX120, w ∈ wsX12_sumOf := fun w h => List.mem_cons_of_mem _ (List.mem_append_right _ h)
  have hl : lv_has ls 7 [(0, .ref (ad 0)), (1, .int a0), (2, .int a1)] := hl
  refine lv_lconst (v := 0) hx hb dX12_sumOf_0 (by decide) ?_
  refine lv_topl (fun x1 ex1 => ?_)
  refine lv_lstore_n (lv' := [(3, .long x1), (0, .ref (ad 0)), (1, .int a0), (2, .int a1)]) hx hb dX12_sumOf_1 rfl hl (by decide) rfl (fun ls hl => ?_)
  refine lv_iconst (v := 0) hx hb dX12_sumOf_2 (by decide) ?_
  refine lv_topi (fun x3 ex3 => ?_)
  refine lv_istore (lv' := [(5, .int x3), (3, .long x1), (0, .ref (ad 0)), (1, .int a0), (2, .int a1)]) hx hb dX12_sumOf_3 hl (by decide) rfl (fun ls hl => ?_)
  have lp5 : ∀ (n : Nat) (k : Nat), (nN x 4 < k + n) → (k ≤ nN x 4) → ∀ (H : Heap) (locs : List Loc), va_P D vwCl (wsM cI cJ ad x) H → va_D A (wsM cI cJ ad x) → va_S A s.heap H locs → ∀ ls : Array Slot, lv_has ls 7 [(5, .int (nI k)), (3, .long (sumN x a0 a1 k)), (0, .ref (ad 0)), (1, .int a0), (2, .int a1)] → W p l e { frames := 0, cells := 0, slots := 0, locals := 0 } s m args below meth c H locs 0 0 (MQ below (va_Ql (fun r y => y = x ∧ r = sumN x a0 a1 (nN x 4)) (mAft D cI cJ ad A) A) args s 0 0 A) (F0 m 5 ls []) := by
    intro n
    induction n with
    | zero => intro k hn hk; exact absurd hn (by omega)
    | succ n ih5 =>
      intro k hn hk H locs hP hD hS ls hl
      refine lv_iload hx hb dX12_sumOf_5 (lv_at hl 0 rfl) ?_
      refine lv_aload_n hx hb dX12_sumOf_7 rfl (lv_at hl 2 rfl) ?_
      refine M_get hx hb hts hin hown hK hP 4 (by decide) rfl (index := 168) (by decide +kernel) rfl dX12_sumOf_8 ?_
      refine lv_topi (fun v8 ev8 => ?_)
      refine lv_icmp_ge (tgt := 118) hx hb dX12_sumOf_11 (by decide) (fun c11 => ?_) (fun c11 => ?_)
      · skip
        simp only [ev8] at c11
        have hkN : k = nN x 4 := by rw [hN] at c11; have := (nI_leI (by omega) (by omega)).mp c11; omega
        refine lv_lload_n hx hb dX12_sumOf_118 rfl (lv_at hl 1 rfl) ?_
        refine M_lret (v := (sumN x a0 a1 k)) hx hb hr hlocks hK hP hD hS dX12_sumOf_119 ?_
        simp only [hkN, not_true_eq_false, not_false_eq_true, and_true, true_and, and_false, false_and, and_self, if_true, if_false, ite_true, ite_false, ↓reduceIte, Int32.add_zero, Bool.not_eq_false, Bool.and_true, Bool.true_and, Bool.and_false, Bool.false_and, Bool.false_eq_true]
      · skip
        simp only [ev8] at c11
        have hkN : k < nN x 4 := by
          rw [hN] at c11
          rcases Nat.lt_or_ge k (nN x 4) with q | q
          · exact q
          · exact absurd (nI_le q (by omega)) c11
        refine lv_iload_n hx hb dX12_sumOf_14 rfl (lv_at hl 3 rfl) ?_
        refine lv_bipush (v := 8) hx hb dX12_sumOf_15 (by decide) ?_
        refine lv_icmp_ne (tgt := 30) hx hb dX12_sumOf_17 (by decide) (fun c17 => ?_) (fun c17 => ?_)
        · skip
          refine lv_iload_n hx hb dX12_sumOf_30 rfl (lv_at hl 3 rfl) ?_
          refine lv_bipush (v := 9) hx hb dX12_sumOf_31 (by decide) ?_
          refine lv_icmp_ne (tgt := 46) hx hb dX12_sumOf_33 (by decide) (fun c33 => ?_) (fun c33 => ?_)
          · skip
            refine lv_iload_n hx hb dX12_sumOf_46 rfl (lv_at hl 3 rfl) ?_
            refine lv_bipush (v := 10) hx hb dX12_sumOf_47 (by decide) ?_
            refine lv_icmp_ne (tgt := 62) hx hb dX12_sumOf_49 (by decide) (fun c49 => ?_) (fun c49 => ?_)
            · skip
              refine lv_iload_n hx hb dX12_sumOf_62 rfl (lv_at hl 3 rfl) ?_
              refine lv_bipush (v := 11) hx hb dX12_sumOf_63 (by decide) ?_
              refine lv_icmp_ne (tgt := 78) hx hb dX12_sumOf_65 (by decide) (fun c65 => ?_) (fun c65 => ?_)
              · skip
                refine lv_aload_n hx hb dX12_sumOf_78 rfl (lv_at hl 2 rfl) ?_
                refine M_get hx hb hts hin hown hK hP 12 (by decide) rfl (index := 34) (by decide +kernel) rfl dX12_sumOf_79 ?_
                refine lv_iload hx hb dX12_sumOf_82 (lv_at hl 0 rfl) ?_
                have h84 : vp_in ((nI k)) 200 := by exact vp_in_nI (by omega) (by decide)
                refine va_iald hx hb hK hP 9 0 rfl rfl h84 dX12_sumOf_84 ?_
                refine lv_topi (fun v84 ev84 => ?_)
                rw [nI_clamp (by omega)] at ev84
                refine lv_topi (fun x85 ex85 => ?_)
                refine lv_istore (lv' := [(6, .int x85), (5, .int (nI k)), (3, .long (sumN x a0 a1 k)), (0, .ref (ad 0)), (1, .int a0), (2, .int a1)]) hx hb dX12_sumOf_85 hl (by decide) rfl (fun ls hl => ?_)
                refine lv_lload_n hx hb dX12_sumOf_87 rfl (lv_at hl 2 rfl) ?_
                refine lv_iload_n hx hb dX12_sumOf_88 rfl (lv_at hl 5 rfl) ?_
                refine lv_if_lt (tgt := 103) hx hb dX12_sumOf_89 (by decide) (fun c89 => ?_) (fun c89 => ?_)
                · skip
                  refine lv_iload hx hb dX12_sumOf_103 (lv_at hl 0 rfl) ?_
                  refine lv_i2l hx hb dX12_sumOf_105 rfl ?_
                  refine lv_goto (tgt := 110) hx hb dX12_sumOf_106 (by decide) ?_
                  refine lv_ladd hx hb dX12_sumOf_110 ?_
                  refine lv_topl (fun x111 ex111 => ?_)
                  refine lv_lstore_n (lv' := [(3, .long x111), (6, .int x85), (5, .int (nI k)), (0, .ref (ad 0)), (1, .int a0), (2, .int a1)]) hx hb dX12_sumOf_111 rfl hl (by decide) rfl (fun ls hl => ?_)
                  obtain ⟨x112, ex112⟩ : ∃ y : Int32, y = (nI k) + 1 := ⟨_, rfl⟩
                  refine lv_iinc (v := x112) (lv' := [(5, .int x112), (3, .long x111), (6, .int x85), (0, .ref (ad 0)), (1, .int a0), (2, .int a1)]) hx hb dX12_sumOf_112 hl (k := 2) rfl (by rw [ex112]; rfl) (by decide) rfl (fun ls hl => ?_)
                  refine lv_goto (tgt := 5) hx hb dX12_sumOf_115 (by decide) ?_
                  have q5 : x112 = (nI (k + 1)) := by rw [ex112]; exact nI_1 k
                  have q3 : x111 = (sumN x a0 a1 (k + 1)) := by simp only [ex1, ex3, ev8, ev84, ex85, ex111, ex112, sumN_s, pick]; simp [c11, c17, c33, c49, c65, c89]
                  rw [q5, q3] at hl
                  exact ih5 (k + 1) (by omega) (by omega) _ _ hP hD hS ls (lv_sub hl [0, 1, 3, 4, 5] rfl)
                · skip
                  refine lv_aload_n hx hb dX12_sumOf_92 rfl (lv_at hl 3 rfl) ?_
                  refine M_get hx hb hts hin hown hK hP 5 (by decide) rfl (index := 13) (by decide +kernel) rfl dX12_sumOf_93 ?_
                  refine lv_iload hx hb dX12_sumOf_96 (lv_at hl 1 rfl) ?_
                  have h98 : vp_in ((nI k)) 200 := by exact vp_in_nI (by omega) (by decide)
                  refine va_iald hx hb hK hP 2 0 rfl rfl h98 dX12_sumOf_98 ?_
                  refine lv_topi (fun v98 ev98 => ?_)
                  rw [nI_clamp (by omega)] at ev98
                  refine lv_iload_n hx hb dX12_sumOf_99 rfl (lv_at hl 5 rfl) ?_
                  refine lv_icmp_ne (tgt := 109) hx hb dX12_sumOf_100 (by decide) (fun c100 => ?_) (fun c100 => ?_)
                  · skip
                    simp only [ev98] at c100
                    refine lv_lconst (v := 0) hx hb dX12_sumOf_109 (by decide) ?_
                    refine lv_ladd hx hb dX12_sumOf_110 ?_
                    refine lv_topl (fun x111 ex111 => ?_)
                    refine lv_lstore_n (lv' := [(3, .long x111), (6, .int x85), (5, .int (nI k)), (0, .ref (ad 0)), (1, .int a0), (2, .int a1)]) hx hb dX12_sumOf_111 rfl hl (by decide) rfl (fun ls hl => ?_)
                    obtain ⟨x112, ex112⟩ : ∃ y : Int32, y = (nI k) + 1 := ⟨_, rfl⟩
                    refine lv_iinc (v := x112) (lv' := [(5, .int x112), (3, .long x111), (6, .int x85), (0, .ref (ad 0)), (1, .int a0), (2, .int a1)]) hx hb dX12_sumOf_112 hl (k := 2) rfl (by rw [ex112]; rfl) (by decide) rfl (fun ls hl => ?_)
                    refine lv_goto (tgt := 5) hx hb dX12_sumOf_115 (by decide) ?_
                    have q5 : x112 = (nI (k + 1)) := by rw [ex112]; exact nI_1 k
                    have q3 : x111 = (sumN x a0 a1 (k + 1)) := by simp only [ex1, ex3, ev8, ev84, ex85, ev98, ex111, ex112, sumN_s, pick]; simp [c11, c17, c33, c49, c65, c89, c100]
                    rw [q5, q3] at hl
                    exact ih5 (k + 1) (by omega) (by omega) _ _ hP hD hS ls (lv_sub hl [0, 1, 3, 4, 5] rfl)
                  · skip
                    simp only [ev98] at c100
                    refine lv_iload hx hb dX12_sumOf_103 (lv_at hl 0 rfl) ?_
                    refine lv_i2l hx hb dX12_sumOf_105 rfl ?_
                    refine lv_goto (tgt := 110) hx hb dX12_sumOf_106 (by decide) ?_
                    refine lv_ladd hx hb dX12_sumOf_110 ?_
                    refine lv_topl (fun x111 ex111 => ?_)
                    refine lv_lstore_n (lv' := [(3, .long x111), (6, .int x85), (5, .int (nI k)), (0, .ref (ad 0)), (1, .int a0), (2, .int a1)]) hx hb dX12_sumOf_111 rfl hl (by decide) rfl (fun ls hl => ?_)
                    obtain ⟨x112, ex112⟩ : ∃ y : Int32, y = (nI k) + 1 := ⟨_, rfl⟩
                    refine lv_iinc (v := x112) (lv' := [(5, .int x112), (3, .long x111), (6, .int x85), (0, .ref (ad 0)), (1, .int a0), (2, .int a1)]) hx hb dX12_sumOf_112 hl (k := 2) rfl (by rw [ex112]; rfl) (by decide) rfl (fun ls hl => ?_)
                    refine lv_goto (tgt := 5) hx hb dX12_sumOf_115 (by decide) ?_
                    have q5 : x112 = (nI (k + 1)) := by rw [ex112]; exact nI_1 k
                    have q3 : x111 = (sumN x a0 a1 (k + 1)) := by simp only [ex1, ex3, ev8, ev84, ex85, ev98, ex111, ex112, sumN_s, pick]; simp [c11, c17, c33, c49, c65, c89, c100]
                    rw [q5, q3] at hl
                    exact ih5 (k + 1) (by omega) (by omega) _ _ hP hD hS ls (lv_sub hl [0, 1, 3, 4, 5] rfl)
              · skip
                refine lv_aload_n hx hb dX12_sumOf_68 rfl (lv_at hl 2 rfl) ?_
                refine M_get hx hb hts hin hown hK hP 11 (by decide) rfl (index := 31) (by decide +kernel) rfl dX12_sumOf_69 ?_
                refine lv_iload hx hb dX12_sumOf_72 (lv_at hl 0 rfl) ?_
                have h74 : vp_in ((nI k)) 200 := by exact vp_in_nI (by omega) (by decide)
                refine va_iald hx hb hK hP 8 0 rfl rfl h74 dX12_sumOf_74 ?_
                refine lv_topi (fun v74 ev74 => ?_)
                rw [nI_clamp (by omega)] at ev74
                refine lv_goto (tgt := 85) hx hb dX12_sumOf_75 (by decide) ?_
                refine lv_topi (fun x85 ex85 => ?_)
                refine lv_istore (lv' := [(6, .int x85), (5, .int (nI k)), (3, .long (sumN x a0 a1 k)), (0, .ref (ad 0)), (1, .int a0), (2, .int a1)]) hx hb dX12_sumOf_85 hl (by decide) rfl (fun ls hl => ?_)
                refine lv_lload_n hx hb dX12_sumOf_87 rfl (lv_at hl 2 rfl) ?_
                refine lv_iload_n hx hb dX12_sumOf_88 rfl (lv_at hl 5 rfl) ?_
                refine lv_if_lt (tgt := 103) hx hb dX12_sumOf_89 (by decide) (fun c89 => ?_) (fun c89 => ?_)
                · skip
                  refine lv_iload hx hb dX12_sumOf_103 (lv_at hl 0 rfl) ?_
                  refine lv_i2l hx hb dX12_sumOf_105 rfl ?_
                  refine lv_goto (tgt := 110) hx hb dX12_sumOf_106 (by decide) ?_
                  refine lv_ladd hx hb dX12_sumOf_110 ?_
                  refine lv_topl (fun x111 ex111 => ?_)
                  refine lv_lstore_n (lv' := [(3, .long x111), (6, .int x85), (5, .int (nI k)), (0, .ref (ad 0)), (1, .int a0), (2, .int a1)]) hx hb dX12_sumOf_111 rfl hl (by decide) rfl (fun ls hl => ?_)
                  obtain ⟨x112, ex112⟩ : ∃ y : Int32, y = (nI k) + 1 := ⟨_, rfl⟩
                  refine lv_iinc (v := x112) (lv' := [(5, .int x112), (3, .long x111), (6, .int x85), (0, .ref (ad 0)), (1, .int a0), (2, .int a1)]) hx hb dX12_sumOf_112 hl (k := 2) rfl (by rw [ex112]; rfl) (by decide) rfl (fun ls hl => ?_)
                  refine lv_goto (tgt := 5) hx hb dX12_sumOf_115 (by decide) ?_
                  have q5 : x112 = (nI (k + 1)) := by rw [ex112]; exact nI_1 k
                  have q3 : x111 = (sumN x a0 a1 (k + 1)) := by simp only [ex1, ex3, ev8, ev74, ex85, ex111, ex112, sumN_s, pick]; simp [c11, c17, c33, c49, c65, c89]
                  rw [q5, q3] at hl
                  exact ih5 (k + 1) (by omega) (by omega) _ _ hP hD hS ls (lv_sub hl [0, 1, 3, 4, 5] rfl)
                · skip
                  refine lv_aload_n hx hb dX12_sumOf_92 rfl (lv_at hl 3 rfl) ?_
                  refine M_get hx hb hts hin hown hK hP 5 (by decide) rfl (index := 13) (by decide +kernel) rfl dX12_sumOf_93 ?_
                  refine lv_iload hx hb dX12_sumOf_96 (lv_at hl 1 rfl) ?_
                  have h98 : vp_in ((nI k)) 200 := by exact vp_in_nI (by omega) (by decide)
                  refine va_iald hx hb hK hP 2 0 rfl rfl h98 dX12_sumOf_98 ?_
                  refine lv_topi (fun v98 ev98 => ?_)
                  rw [nI_clamp (by omega)] at ev98
                  refine lv_iload_n hx hb dX12_sumOf_99 rfl (lv_at hl 5 rfl) ?_
                  refine lv_icmp_ne (tgt := 109) hx hb dX12_sumOf_100 (by decide) (fun c100 => ?_) (fun c100 => ?_)
                  · skip
                    simp only [ev98] at c100
                    refine lv_lconst (v := 0) hx hb dX12_sumOf_109 (by decide) ?_
                    refine lv_ladd hx hb dX12_sumOf_110 ?_
                    refine lv_topl (fun x111 ex111 => ?_)
                    refine lv_lstore_n (lv' := [(3, .long x111), (6, .int x85), (5, .int (nI k)), (0, .ref (ad 0)), (1, .int a0), (2, .int a1)]) hx hb dX12_sumOf_111 rfl hl (by decide) rfl (fun ls hl => ?_)
                    obtain ⟨x112, ex112⟩ : ∃ y : Int32, y = (nI k) + 1 := ⟨_, rfl⟩
                    refine lv_iinc (v := x112) (lv' := [(5, .int x112), (3, .long x111), (6, .int x85), (0, .ref (ad 0)), (1, .int a0), (2, .int a1)]) hx hb dX12_sumOf_112 hl (k := 2) rfl (by rw [ex112]; rfl) (by decide) rfl (fun ls hl => ?_)
                    refine lv_goto (tgt := 5) hx hb dX12_sumOf_115 (by decide) ?_
                    have q5 : x112 = (nI (k + 1)) := by rw [ex112]; exact nI_1 k
                    have q3 : x111 = (sumN x a0 a1 (k + 1)) := by simp only [ex1, ex3, ev8, ev74, ex85, ev98, ex111, ex112, sumN_s, pick]; simp [c11, c17, c33, c49, c65, c89, c100]
                    rw [q5, q3] at hl
                    exact ih5 (k + 1) (by omega) (by omega) _ _ hP hD hS ls (lv_sub hl [0, 1, 3, 4, 5] rfl)
                  · skip
                    simp only [ev98] at c100
                    refine lv_iload hx hb dX12_sumOf_103 (lv_at hl 0 rfl) ?_
                    refine lv_i2l hx hb dX12_sumOf_105 rfl ?_
                    refine lv_goto (tgt := 110) hx hb dX12_sumOf_106 (by decide) ?_
                    refine lv_ladd hx hb dX12_sumOf_110 ?_
                    refine lv_topl (fun x111 ex111 => ?_)
                    refine lv_lstore_n (lv' := [(3, .long x111), (6, .int x85), (5, .int (nI k)), (0, .ref (ad 0)), (1, .int a0), (2, .int a1)]) hx hb dX12_sumOf_111 rfl hl (by decide) rfl (fun ls hl => ?_)
                    obtain ⟨x112, ex112⟩ : ∃ y : Int32, y = (nI k) + 1 := ⟨_, rfl⟩
                    refine lv_iinc (v := x112) (lv' := [(5, .int x112), (3, .long x111), (6, .int x85), (0, .ref (ad 0)), (1, .int a0), (2, .int a1)]) hx hb dX12_sumOf_112 hl (k := 2) rfl (by rw [ex112]; rfl) (by decide) rfl (fun ls hl => ?_)
                    refine lv_goto (tgt := 5) hx hb dX12_sumOf_115 (by decide) ?_
                    have q5 : x112 = (nI (k + 1)) := by rw [ex112]; exact nI_1 k
                    have q3 : x111 = (sumN x a0 a1 (k + 1)) := by simp only [ex1, ex3, ev8, ev74, ex85, ev98, ex111, ex112, sumN_s, pick]; simp [c11, c17, c33, c49, c65, c89, c100]
                    rw [q5, q3] at hl
                    exact ih5 (k + 1) (by omega) (by omega) _ _ hP hD hS ls (lv_sub hl [0, 1, 3, 4, 5] rfl)
            · skip
              refine lv_aload_n hx hb dX12_sumOf_52 rfl (lv_at hl 2 rfl) ?_
              refine M_get hx hb hts hin hown hK hP 10 (by decide) rfl (index := 28) (by decide +kernel) rfl dX12_sumOf_53 ?_
              refine lv_iload hx hb dX12_sumOf_56 (lv_at hl 0 rfl) ?_
              have h58 : vp_in ((nI k)) 200 := by exact vp_in_nI (by omega) (by decide)
              refine va_iald hx hb hK hP 7 0 rfl rfl h58 dX12_sumOf_58 ?_
              refine lv_topi (fun v58 ev58 => ?_)
              rw [nI_clamp (by omega)] at ev58
              refine lv_goto (tgt := 85) hx hb dX12_sumOf_59 (by decide) ?_
              refine lv_topi (fun x85 ex85 => ?_)
              refine lv_istore (lv' := [(6, .int x85), (5, .int (nI k)), (3, .long (sumN x a0 a1 k)), (0, .ref (ad 0)), (1, .int a0), (2, .int a1)]) hx hb dX12_sumOf_85 hl (by decide) rfl (fun ls hl => ?_)
              refine lv_lload_n hx hb dX12_sumOf_87 rfl (lv_at hl 2 rfl) ?_
              refine lv_iload_n hx hb dX12_sumOf_88 rfl (lv_at hl 5 rfl) ?_
              refine lv_if_lt (tgt := 103) hx hb dX12_sumOf_89 (by decide) (fun c89 => ?_) (fun c89 => ?_)
              · skip
                refine lv_iload hx hb dX12_sumOf_103 (lv_at hl 0 rfl) ?_
                refine lv_i2l hx hb dX12_sumOf_105 rfl ?_
                refine lv_goto (tgt := 110) hx hb dX12_sumOf_106 (by decide) ?_
                refine lv_ladd hx hb dX12_sumOf_110 ?_
                refine lv_topl (fun x111 ex111 => ?_)
                refine lv_lstore_n (lv' := [(3, .long x111), (6, .int x85), (5, .int (nI k)), (0, .ref (ad 0)), (1, .int a0), (2, .int a1)]) hx hb dX12_sumOf_111 rfl hl (by decide) rfl (fun ls hl => ?_)
                obtain ⟨x112, ex112⟩ : ∃ y : Int32, y = (nI k) + 1 := ⟨_, rfl⟩
                refine lv_iinc (v := x112) (lv' := [(5, .int x112), (3, .long x111), (6, .int x85), (0, .ref (ad 0)), (1, .int a0), (2, .int a1)]) hx hb dX12_sumOf_112 hl (k := 2) rfl (by rw [ex112]; rfl) (by decide) rfl (fun ls hl => ?_)
                refine lv_goto (tgt := 5) hx hb dX12_sumOf_115 (by decide) ?_
                have q5 : x112 = (nI (k + 1)) := by rw [ex112]; exact nI_1 k
                have q3 : x111 = (sumN x a0 a1 (k + 1)) := by simp only [ex1, ex3, ev8, ev58, ex85, ex111, ex112, sumN_s, pick]; simp [c11, c17, c33, c49, c89]
                rw [q5, q3] at hl
                exact ih5 (k + 1) (by omega) (by omega) _ _ hP hD hS ls (lv_sub hl [0, 1, 3, 4, 5] rfl)
              · skip
                refine lv_aload_n hx hb dX12_sumOf_92 rfl (lv_at hl 3 rfl) ?_
                refine M_get hx hb hts hin hown hK hP 5 (by decide) rfl (index := 13) (by decide +kernel) rfl dX12_sumOf_93 ?_
                refine lv_iload hx hb dX12_sumOf_96 (lv_at hl 1 rfl) ?_
                have h98 : vp_in ((nI k)) 200 := by exact vp_in_nI (by omega) (by decide)
                refine va_iald hx hb hK hP 2 0 rfl rfl h98 dX12_sumOf_98 ?_
                refine lv_topi (fun v98 ev98 => ?_)
                rw [nI_clamp (by omega)] at ev98
                refine lv_iload_n hx hb dX12_sumOf_99 rfl (lv_at hl 5 rfl) ?_
                refine lv_icmp_ne (tgt := 109) hx hb dX12_sumOf_100 (by decide) (fun c100 => ?_) (fun c100 => ?_)
                · skip
                  simp only [ev98] at c100
                  refine lv_lconst (v := 0) hx hb dX12_sumOf_109 (by decide) ?_
                  refine lv_ladd hx hb dX12_sumOf_110 ?_
                  refine lv_topl (fun x111 ex111 => ?_)
                  refine lv_lstore_n (lv' := [(3, .long x111), (6, .int x85), (5, .int (nI k)), (0, .ref (ad 0)), (1, .int a0), (2, .int a1)]) hx hb dX12_sumOf_111 rfl hl (by decide) rfl (fun ls hl => ?_)
                  obtain ⟨x112, ex112⟩ : ∃ y : Int32, y = (nI k) + 1 := ⟨_, rfl⟩
                  refine lv_iinc (v := x112) (lv' := [(5, .int x112), (3, .long x111), (6, .int x85), (0, .ref (ad 0)), (1, .int a0), (2, .int a1)]) hx hb dX12_sumOf_112 hl (k := 2) rfl (by rw [ex112]; rfl) (by decide) rfl (fun ls hl => ?_)
                  refine lv_goto (tgt := 5) hx hb dX12_sumOf_115 (by decide) ?_
                  have q5 : x112 = (nI (k + 1)) := by rw [ex112]; exact nI_1 k
                  have q3 : x111 = (sumN x a0 a1 (k + 1)) := by simp only [ex1, ex3, ev8, ev58, ex85, ev98, ex111, ex112, sumN_s, pick]; simp [c11, c17, c33, c49, c89, c100]
                  rw [q5, q3] at hl
                  exact ih5 (k + 1) (by omega) (by omega) _ _ hP hD hS ls (lv_sub hl [0, 1, 3, 4, 5] rfl)
                · skip
                  simp only [ev98] at c100
                  refine lv_iload hx hb dX12_sumOf_103 (lv_at hl 0 rfl) ?_
                  refine lv_i2l hx hb dX12_sumOf_105 rfl ?_
                  refine lv_goto (tgt := 110) hx hb dX12_sumOf_106 (by decide) ?_
                  refine lv_ladd hx hb dX12_sumOf_110 ?_
                  refine lv_topl (fun x111 ex111 => ?_)
                  refine lv_lstore_n (lv' := [(3, .long x111), (6, .int x85), (5, .int (nI k)), (0, .ref (ad 0)), (1, .int a0), (2, .int a1)]) hx hb dX12_sumOf_111 rfl hl (by decide) rfl (fun ls hl => ?_)
                  obtain ⟨x112, ex112⟩ : ∃ y : Int32, y = (nI k) + 1 := ⟨_, rfl⟩
                  refine lv_iinc (v := x112) (lv' := [(5, .int x112), (3, .long x111), (6, .int x85), (0, .ref (ad 0)), (1, .int a0), (2, .int a1)]) hx hb dX12_sumOf_112 hl (k := 2) rfl (by rw [ex112]; rfl) (by decide) rfl (fun ls hl => ?_)
                  refine lv_goto (tgt := 5) hx hb dX12_sumOf_115 (by decide) ?_
                  have q5 : x112 = (nI (k + 1)) := by rw [ex112]; exact nI_1 k
                  have q3 : x111 = (sumN x a0 a1 (k + 1)) := by simp only [ex1, ex3, ev8, ev58, ex85, ev98, ex111, ex112, sumN_s, pick]; simp [c11, c17, c33, c49, c89, c100]
                  rw [q5, q3] at hl
                  exact ih5 (k + 1) (by omega) (by omega) _ _ hP hD hS ls (lv_sub hl [0, 1, 3, 4, 5] rfl)
          · skip
            refine lv_aload_n hx hb dX12_sumOf_36 rfl (lv_at hl 2 rfl) ?_
            refine M_get hx hb hts hin hown hK hP 9 (by decide) rfl (index := 25) (by decide +kernel) rfl dX12_sumOf_37 ?_
            refine lv_iload hx hb dX12_sumOf_40 (lv_at hl 0 rfl) ?_
            have h42 : vp_in ((nI k)) 200 := by exact vp_in_nI (by omega) (by decide)
            refine va_iald hx hb hK hP 6 0 rfl rfl h42 dX12_sumOf_42 ?_
            refine lv_topi (fun v42 ev42 => ?_)
            rw [nI_clamp (by omega)] at ev42
            refine lv_goto (tgt := 85) hx hb dX12_sumOf_43 (by decide) ?_
            refine lv_topi (fun x85 ex85 => ?_)
            refine lv_istore (lv' := [(6, .int x85), (5, .int (nI k)), (3, .long (sumN x a0 a1 k)), (0, .ref (ad 0)), (1, .int a0), (2, .int a1)]) hx hb dX12_sumOf_85 hl (by decide) rfl (fun ls hl => ?_)
            refine lv_lload_n hx hb dX12_sumOf_87 rfl (lv_at hl 2 rfl) ?_
            refine lv_iload_n hx hb dX12_sumOf_88 rfl (lv_at hl 5 rfl) ?_
            refine lv_if_lt (tgt := 103) hx hb dX12_sumOf_89 (by decide) (fun c89 => ?_) (fun c89 => ?_)
            · skip
              refine lv_iload hx hb dX12_sumOf_103 (lv_at hl 0 rfl) ?_
              refine lv_i2l hx hb dX12_sumOf_105 rfl ?_
              refine lv_goto (tgt := 110) hx hb dX12_sumOf_106 (by decide) ?_
              refine lv_ladd hx hb dX12_sumOf_110 ?_
              refine lv_topl (fun x111 ex111 => ?_)
              refine lv_lstore_n (lv' := [(3, .long x111), (6, .int x85), (5, .int (nI k)), (0, .ref (ad 0)), (1, .int a0), (2, .int a1)]) hx hb dX12_sumOf_111 rfl hl (by decide) rfl (fun ls hl => ?_)
              obtain ⟨x112, ex112⟩ : ∃ y : Int32, y = (nI k) + 1 := ⟨_, rfl⟩
              refine lv_iinc (v := x112) (lv' := [(5, .int x112), (3, .long x111), (6, .int x85), (0, .ref (ad 0)), (1, .int a0), (2, .int a1)]) hx hb dX12_sumOf_112 hl (k := 2) rfl (by rw [ex112]; rfl) (by decide) rfl (fun ls hl => ?_)
              refine lv_goto (tgt := 5) hx hb dX12_sumOf_115 (by decide) ?_
              have q5 : x112 = (nI (k + 1)) := by rw [ex112]; exact nI_1 k
              have q3 : x111 = (sumN x a0 a1 (k + 1)) := by simp only [ex1, ex3, ev8, ev42, ex85, ex111, ex112, sumN_s, pick]; simp [c11, c17, c33, c89]
              rw [q5, q3] at hl
              exact ih5 (k + 1) (by omega) (by omega) _ _ hP hD hS ls (lv_sub hl [0, 1, 3, 4, 5] rfl)
            · skip
              refine lv_aload_n hx hb dX12_sumOf_92 rfl (lv_at hl 3 rfl) ?_
              refine M_get hx hb hts hin hown hK hP 5 (by decide) rfl (index := 13) (by decide +kernel) rfl dX12_sumOf_93 ?_
              refine lv_iload hx hb dX12_sumOf_96 (lv_at hl 1 rfl) ?_
              have h98 : vp_in ((nI k)) 200 := by exact vp_in_nI (by omega) (by decide)
              refine va_iald hx hb hK hP 2 0 rfl rfl h98 dX12_sumOf_98 ?_
              refine lv_topi (fun v98 ev98 => ?_)
              rw [nI_clamp (by omega)] at ev98
              refine lv_iload_n hx hb dX12_sumOf_99 rfl (lv_at hl 5 rfl) ?_
              refine lv_icmp_ne (tgt := 109) hx hb dX12_sumOf_100 (by decide) (fun c100 => ?_) (fun c100 => ?_)
              · skip
                simp only [ev98] at c100
                refine lv_lconst (v := 0) hx hb dX12_sumOf_109 (by decide) ?_
                refine lv_ladd hx hb dX12_sumOf_110 ?_
                refine lv_topl (fun x111 ex111 => ?_)
                refine lv_lstore_n (lv' := [(3, .long x111), (6, .int x85), (5, .int (nI k)), (0, .ref (ad 0)), (1, .int a0), (2, .int a1)]) hx hb dX12_sumOf_111 rfl hl (by decide) rfl (fun ls hl => ?_)
                obtain ⟨x112, ex112⟩ : ∃ y : Int32, y = (nI k) + 1 := ⟨_, rfl⟩
                refine lv_iinc (v := x112) (lv' := [(5, .int x112), (3, .long x111), (6, .int x85), (0, .ref (ad 0)), (1, .int a0), (2, .int a1)]) hx hb dX12_sumOf_112 hl (k := 2) rfl (by rw [ex112]; rfl) (by decide) rfl (fun ls hl => ?_)
                refine lv_goto (tgt := 5) hx hb dX12_sumOf_115 (by decide) ?_
                have q5 : x112 = (nI (k + 1)) := by rw [ex112]; exact nI_1 k
                have q3 : x111 = (sumN x a0 a1 (k + 1)) := by simp only [ex1, ex3, ev8, ev42, ex85, ev98, ex111, ex112, sumN_s, pick]; simp [c11, c17, c33, c89, c100]
                rw [q5, q3] at hl
                exact ih5 (k + 1) (by omega) (by omega) _ _ hP hD hS ls (lv_sub hl [0, 1, 3, 4, 5] rfl)
              · skip
                simp only [ev98] at c100
                refine lv_iload hx hb dX12_sumOf_103 (lv_at hl 0 rfl) ?_
                refine lv_i2l hx hb dX12_sumOf_105 rfl ?_
                refine lv_goto (tgt := 110) hx hb dX12_sumOf_106 (by decide) ?_
                refine lv_ladd hx hb dX12_sumOf_110 ?_
                refine lv_topl (fun x111 ex111 => ?_)
                refine lv_lstore_n (lv' := [(3, .long x111), (6, .int x85), (5, .int (nI k)), (0, .ref (ad 0)), (1, .int a0), (2, .int a1)]) hx hb dX12_sumOf_111 rfl hl (by decide) rfl (fun ls hl => ?_)
                obtain ⟨x112, ex112⟩ : ∃ y : Int32, y = (nI k) + 1 := ⟨_, rfl⟩
                refine lv_iinc (v := x112) (lv' := [(5, .int x112), (3, .long x111), (6, .int x85), (0, .ref (ad 0)), (1, .int a0), (2, .int a1)]) hx hb dX12_sumOf_112 hl (k := 2) rfl (by rw [ex112]; rfl) (by decide) rfl (fun ls hl => ?_)
                refine lv_goto (tgt := 5) hx hb dX12_sumOf_115 (by decide) ?_
                have q5 : x112 = (nI (k + 1)) := by rw [ex112]; exact nI_1 k
                have q3 : x111 = (sumN x a0 a1 (k + 1)) := by simp only [ex1, ex3, ev8, ev42, ex85, ev98, ex111, ex112, sumN_s, pick]; simp [c11, c17, c33, c89, c100]
                rw [q5, q3] at hl
                exact ih5 (k + 1) (by omega) (by omega) _ _ hP hD hS ls (lv_sub hl [0, 1, 3, 4, 5] rfl)
        · skip
          refine lv_aload_n hx hb dX12_sumOf_20 rfl (lv_at hl 2 rfl) ?_
          refine M_get hx hb hts hin hown hK hP 6 (by decide) rfl (index := 16) (by decide +kernel) rfl dX12_sumOf_21 ?_
          refine lv_iload hx hb dX12_sumOf_24 (lv_at hl 0 rfl) ?_
          have h26 : vp_in ((nI k)) 200 := by exact vp_in_nI (by omega) (by decide)
          refine va_iald hx hb hK hP 3 0 rfl rfl h26 dX12_sumOf_26 ?_
          refine lv_topi (fun v26 ev26 => ?_)
          rw [nI_clamp (by omega)] at ev26
          refine lv_goto (tgt := 85) hx hb dX12_sumOf_27 (by decide) ?_
          refine lv_topi (fun x85 ex85 => ?_)
          refine lv_istore (lv' := [(6, .int x85), (5, .int (nI k)), (3, .long (sumN x a0 a1 k)), (0, .ref (ad 0)), (1, .int a0), (2, .int a1)]) hx hb dX12_sumOf_85 hl (by decide) rfl (fun ls hl => ?_)
          refine lv_lload_n hx hb dX12_sumOf_87 rfl (lv_at hl 2 rfl) ?_
          refine lv_iload_n hx hb dX12_sumOf_88 rfl (lv_at hl 5 rfl) ?_
          refine lv_if_lt (tgt := 103) hx hb dX12_sumOf_89 (by decide) (fun c89 => ?_) (fun c89 => ?_)
          · skip
            refine lv_iload hx hb dX12_sumOf_103 (lv_at hl 0 rfl) ?_
            refine lv_i2l hx hb dX12_sumOf_105 rfl ?_
            refine lv_goto (tgt := 110) hx hb dX12_sumOf_106 (by decide) ?_
            refine lv_ladd hx hb dX12_sumOf_110 ?_
            refine lv_topl (fun x111 ex111 => ?_)
            refine lv_lstore_n (lv' := [(3, .long x111), (6, .int x85), (5, .int (nI k)), (0, .ref (ad 0)), (1, .int a0), (2, .int a1)]) hx hb dX12_sumOf_111 rfl hl (by decide) rfl (fun ls hl => ?_)
            obtain ⟨x112, ex112⟩ : ∃ y : Int32, y = (nI k) + 1 := ⟨_, rfl⟩
            refine lv_iinc (v := x112) (lv' := [(5, .int x112), (3, .long x111), (6, .int x85), (0, .ref (ad 0)), (1, .int a0), (2, .int a1)]) hx hb dX12_sumOf_112 hl (k := 2) rfl (by rw [ex112]; rfl) (by decide) rfl (fun ls hl => ?_)
            refine lv_goto (tgt := 5) hx hb dX12_sumOf_115 (by decide) ?_
            have q5 : x112 = (nI (k + 1)) := by rw [ex112]; exact nI_1 k
            have q3 : x111 = (sumN x a0 a1 (k + 1)) := by simp only [ex1, ex3, ev8, ev26, ex85, ex111, ex112, sumN_s, pick]; simp [c11, c17, c89]
            rw [q5, q3] at hl
            exact ih5 (k + 1) (by omega) (by omega) _ _ hP hD hS ls (lv_sub hl [0, 1, 3, 4, 5] rfl)
          · skip
            refine lv_aload_n hx hb dX12_sumOf_92 rfl (lv_at hl 3 rfl) ?_
            refine M_get hx hb hts hin hown hK hP 5 (by decide) rfl (index := 13) (by decide +kernel) rfl dX12_sumOf_93 ?_
            refine lv_iload hx hb dX12_sumOf_96 (lv_at hl 1 rfl) ?_
            have h98 : vp_in ((nI k)) 200 := by exact vp_in_nI (by omega) (by decide)
            refine va_iald hx hb hK hP 2 0 rfl rfl h98 dX12_sumOf_98 ?_
            refine lv_topi (fun v98 ev98 => ?_)
            rw [nI_clamp (by omega)] at ev98
            refine lv_iload_n hx hb dX12_sumOf_99 rfl (lv_at hl 5 rfl) ?_
            refine lv_icmp_ne (tgt := 109) hx hb dX12_sumOf_100 (by decide) (fun c100 => ?_) (fun c100 => ?_)
            · skip
              simp only [ev98] at c100
              refine lv_lconst (v := 0) hx hb dX12_sumOf_109 (by decide) ?_
              refine lv_ladd hx hb dX12_sumOf_110 ?_
              refine lv_topl (fun x111 ex111 => ?_)
              refine lv_lstore_n (lv' := [(3, .long x111), (6, .int x85), (5, .int (nI k)), (0, .ref (ad 0)), (1, .int a0), (2, .int a1)]) hx hb dX12_sumOf_111 rfl hl (by decide) rfl (fun ls hl => ?_)
              obtain ⟨x112, ex112⟩ : ∃ y : Int32, y = (nI k) + 1 := ⟨_, rfl⟩
              refine lv_iinc (v := x112) (lv' := [(5, .int x112), (3, .long x111), (6, .int x85), (0, .ref (ad 0)), (1, .int a0), (2, .int a1)]) hx hb dX12_sumOf_112 hl (k := 2) rfl (by rw [ex112]; rfl) (by decide) rfl (fun ls hl => ?_)
              refine lv_goto (tgt := 5) hx hb dX12_sumOf_115 (by decide) ?_
              have q5 : x112 = (nI (k + 1)) := by rw [ex112]; exact nI_1 k
              have q3 : x111 = (sumN x a0 a1 (k + 1)) := by simp only [ex1, ex3, ev8, ev26, ex85, ev98, ex111, ex112, sumN_s, pick]; simp [c11, c17, c89, c100]
              rw [q5, q3] at hl
              exact ih5 (k + 1) (by omega) (by omega) _ _ hP hD hS ls (lv_sub hl [0, 1, 3, 4, 5] rfl)
            · skip
              simp only [ev98] at c100
              refine lv_iload hx hb dX12_sumOf_103 (lv_at hl 0 rfl) ?_
              refine lv_i2l hx hb dX12_sumOf_105 rfl ?_
              refine lv_goto (tgt := 110) hx hb dX12_sumOf_106 (by decide) ?_
              refine lv_ladd hx hb dX12_sumOf_110 ?_
              refine lv_topl (fun x111 ex111 => ?_)
              refine lv_lstore_n (lv' := [(3, .long x111), (6, .int x85), (5, .int (nI k)), (0, .ref (ad 0)), (1, .int a0), (2, .int a1)]) hx hb dX12_sumOf_111 rfl hl (by decide) rfl (fun ls hl => ?_)
              obtain ⟨x112, ex112⟩ : ∃ y : Int32, y = (nI k) + 1 := ⟨_, rfl⟩
              refine lv_iinc (v := x112) (lv' := [(5, .int x112), (3, .long x111), (6, .int x85), (0, .ref (ad 0)), (1, .int a0), (2, .int a1)]) hx hb dX12_sumOf_112 hl (k := 2) rfl (by rw [ex112]; rfl) (by decide) rfl (fun ls hl => ?_)
              refine lv_goto (tgt := 5) hx hb dX12_sumOf_115 (by decide) ?_
              have q5 : x112 = (nI (k + 1)) := by rw [ex112]; exact nI_1 k
              have q3 : x111 = (sumN x a0 a1 (k + 1)) := by simp only [ex1, ex3, ev8, ev26, ex85, ev98, ex111, ex112, sumN_s, pick]; simp [c11, c17, c89, c100]
              rw [q5, q3] at hl
              exact ih5 (k + 1) (by omega) (by omega) _ _ hP hD hS ls (lv_sub hl [0, 1, 3, 4, 5] rfl)
  have q5 : x3 = (nI 0) := by rw [ex3]; exact nI_0.symm
  have q3 : x1 = (sumN x a0 a1 0) := by rw [ex1]; rfl
  rw [q5, q3] at hl
  exact lp5 (nN x 4 + 1) 0 (by omega) (by omega) _ _ hP hD hS ls (lv_sub hl [0, 1, 2, 3, 4] rfl)

set_option maxHeartbeats 4000000 in
set_option maxRecDepth 100000 in
theorem c_count (l : Launch) (D : va_G) (cI cJ : ClassId) (ad : Nat → Nat) (x : MS) (a0 : Int32) (h0 : mI x 0 = 0) (h4 : okN x 4 200) : Ml l yX12_count wsX12_count { frames := 1, cells := 0, slots := 0, locals := 26 } D cI cJ ad [.int a0] x (fun r y => y = x ∧ r = countF x a0) := by
  refine Ml_of (cc := cX12_count) (nL := 2) (ret := (some .long)) (by decide) rfl rfl (Nat.le_of_ble_eq_true rfl) ?_
  intro p e s m args below meth c A hx hb hr hlocks hml hts hown hA hK hP hD hS ls hl
  have hin : ∀ w ∈ wsX120, w ∈ wsX12_count := fun w h => List.mem_cons_of_mem _ (List.mem_append_right _ h)
  have hl : lv_has ls 2 [(0, .ref (ad 0)), (1, .int a0)] := hl
  refine lv_aload_n hx hb dX12_count_0 rfl (lv_at hl 0 rfl) ?_
  refine lv_iconst (v := 0) hx hb dX12_count_1 (by decide) ?_
  refine M_put hx hb hts hin hown hK hP hD hS 0 (by decide) rfl rfl (index := 156) (by decide +kernel) (ty := .int) (by decide +kernel) rfl rfl (pI_0 cI cJ ad x _) dX12_count_2 (fun y2 H locs ey2 hP hD hS => ?_)
  rw [ey2.trans (sI_0 h0)] at hP hD
  refine lv_iload_n hx hb dX12_count_5 rfl (lv_at hl 1 rfl) ?_
  refine lv_i2l hx hb dX12_count_6 rfl ?_
  refine lv_ldc2 (v := 20) hx hb hown (hts (.constantLong RX12 204 (20)) (by decide +kernel)) dX12_count_7 ?_
  refine lv_ldc2 (v := 29) hx hb hown (hts (.constantLong RX12 359 (29)) (by decide +kernel)) dX12_count_10 ?_
  refine S_calli (av := [.long a0.toInt64, .long (20 : Int64), .long (29 : Int64)]) (rest := []) ⟨hx, hb, hml, hown, hts⟩ (c_in l (a0.toInt64) ((20 : Int64)) ((29 : Int64)) ) (va_cwS 3 hts gX12_count_X12_in rfl rfl rfl (by decide +kernel) ⟨Nat.le_of_ble_eq_true rfl, Nat.le_of_ble_eq_true rfl⟩) rfl hl.1 rfl (Nat.le_of_ble_eq_true rfl) dX12_count_13 ⟨Nat.le_of_ble_eq_true rfl, Nat.le_of_ble_eq_true rfl⟩ (fun r13 hw13 => ?_)
  rw [show inL a0.toInt64 20 29 = isB a0 20 29 from inL_i a0 20 29] at hw13
  refine lv_if_eq (tgt := 30) hx hb dX12_count_16 (by decide) (fun c16 => ?_) (fun c16 => ?_)
  · skip
    simp only [hw13, bI_0, bI_1, Bool.not_eq_false] at c16
    refine lv_iload_n hx hb dX12_count_30 rfl (lv_at hl 1 rfl) ?_
    by_cases c31_0 : a0 = 0
    · skip
      refine lv_tableIn (tgt := 104) hx hb dX12_count_31 (by rw [c31_0]; decide) (by rw [c31_0]; decide) (by rw [c31_0]; rfl) (by decide) ?_
      refine lv_aload_n hx hb dX12_count_104 rfl (lv_at hl 0 rfl) ?_
      refine M_get hx hb hts hin hown hK hP 2 (by decide) rfl (index := 189) (by decide +kernel) rfl dX12_count_105 ?_
      refine lv_topi (fun v105 ev105 => ?_)
      refine lv_i2l hx hb dX12_count_108 rfl ?_
      refine M_lret (v := v105.toInt64) hx hb hr hlocks hK hP hD hS dX12_count_109 ?_
      first | (simp only [hw13, ev105, countF, c16, c31_0, not_true_eq_false, not_false_eq_true, and_true, true_and, and_false, false_and, and_self, if_true, if_false, ite_true, ite_false, ↓reduceIte, Int32.add_zero, Bool.not_eq_false, Bool.and_true, Bool.true_and, Bool.and_false, Bool.false_and, Bool.false_eq_true]; done) | (simp only [hw13, ev105, countF, c16, not_true_eq_false, not_false_eq_true, and_true, true_and, and_false, false_and, and_self, if_true, if_false, ite_true, ite_false, ↓reduceIte, Int32.add_zero, Bool.not_eq_false, Bool.and_true, Bool.true_and, Bool.and_false, Bool.false_and, Bool.false_eq_true]; simp [c16, c31_0])
    by_cases c31_1 : a0 = 1
    · skip
      refine lv_tableIn (tgt := 110) hx hb dX12_count_31 (by rw [c31_1]; decide) (by rw [c31_1]; decide) (by rw [c31_1]; rfl) (by decide) ?_
      refine lv_aload_n hx hb dX12_count_110 rfl (lv_at hl 0 rfl) ?_
      refine M_get hx hb hts hin hown hK hP 4 (by decide) rfl (index := 168) (by decide +kernel) rfl dX12_count_111 ?_
      refine lv_topi (fun v111 ev111 => ?_)
      refine lv_i2l hx hb dX12_count_114 rfl ?_
      refine M_lret (v := v111.toInt64) hx hb hr hlocks hK hP hD hS dX12_count_115 ?_
      first | (simp only [hw13, ev111, countF, c16, c31_0, c31_1, not_true_eq_false, not_false_eq_true, and_true, true_and, and_false, false_and, and_self, if_true, if_false, ite_true, ite_false, ↓reduceIte, Int32.add_zero, Bool.not_eq_false, Bool.and_true, Bool.true_and, Bool.and_false, Bool.false_and, Bool.false_eq_true]; done) | (simp only [hw13, ev111, countF, c16, not_true_eq_false, not_false_eq_true, and_true, true_and, and_false, false_and, and_self, if_true, if_false, ite_true, ite_false, ↓reduceIte, Int32.add_zero, Bool.not_eq_false, Bool.and_true, Bool.true_and, Bool.and_false, Bool.false_and, Bool.false_eq_true]; simp [c16, c31_0, c31_1])
    by_cases c31_2 : a0 = 2
    · skip
      refine lv_tableIn (tgt := 116) hx hb dX12_count_31 (by rw [c31_2]; decide) (by rw [c31_2]; decide) (by rw [c31_2]; rfl) (by decide) ?_
      refine lv_aload_n hx hb dX12_count_116 rfl (lv_at hl 0 rfl) ?_
      refine M_get hx hb hts hin hown hK hP 13 (by decide) rfl (index := 171) (by decide +kernel) rfl dX12_count_117 ?_
      refine lv_topi (fun v117 ev117 => ?_)
      refine lv_i2l hx hb dX12_count_120 rfl ?_
      refine M_lret (v := v117.toInt64) hx hb hr hlocks hK hP hD hS dX12_count_121 ?_
      first | (simp only [hw13, ev117, countF, c16, c31_0, c31_1, c31_2, not_true_eq_false, not_false_eq_true, and_true, true_and, and_false, false_and, and_self, if_true, if_false, ite_true, ite_false, ↓reduceIte, Int32.add_zero, Bool.not_eq_false, Bool.and_true, Bool.true_and, Bool.and_false, Bool.false_and, Bool.false_eq_true]; done) | (simp only [hw13, ev117, countF, c16, not_true_eq_false, not_false_eq_true, and_true, true_and, and_false, false_and, and_self, if_true, if_false, ite_true, ite_false, ↓reduceIte, Int32.add_zero, Bool.not_eq_false, Bool.and_true, Bool.true_and, Bool.and_false, Bool.false_and, Bool.false_eq_true]; simp [c16, c31_0, c31_1, c31_2])
    by_cases c31_3 : a0 = 3
    · skip
      refine lv_tableIn (tgt := 122) hx hb dX12_count_31 (by rw [c31_3]; decide) (by rw [c31_3]; decide) (by rw [c31_3]; rfl) (by decide) ?_
      refine lv_aload_n hx hb dX12_count_122 rfl (lv_at hl 0 rfl) ?_
      refine M_get hx hb hts hin hown hK hP 16 (by decide) rfl (index := 174) (by decide +kernel) rfl dX12_count_123 ?_
      refine lv_topi (fun v123 ev123 => ?_)
      refine lv_i2l hx hb dX12_count_126 rfl ?_
      refine M_lret (v := v123.toInt64) hx hb hr hlocks hK hP hD hS dX12_count_127 ?_
      first | (simp only [hw13, ev123, countF, c16, c31_0, c31_1, c31_2, c31_3, not_true_eq_false, not_false_eq_true, and_true, true_and, and_false, false_and, and_self, if_true, if_false, ite_true, ite_false, ↓reduceIte, Int32.add_zero, Bool.not_eq_false, Bool.and_true, Bool.true_and, Bool.and_false, Bool.false_and, Bool.false_eq_true]; done) | (simp only [hw13, ev123, countF, c16, not_true_eq_false, not_false_eq_true, and_true, true_and, and_false, false_and, and_self, if_true, if_false, ite_true, ite_false, ↓reduceIte, Int32.add_zero, Bool.not_eq_false, Bool.and_true, Bool.true_and, Bool.and_false, Bool.false_and, Bool.false_eq_true]; simp [c16, c31_0, c31_1, c31_2, c31_3])
    by_cases c31_4 : a0 = 4
    · skip
      refine lv_tableIn (tgt := 128) hx hb dX12_count_31 (by rw [c31_4]; decide) (by rw [c31_4]; decide) (by rw [c31_4]; rfl) (by decide) ?_
      refine lv_aload_n hx hb dX12_count_128 rfl (lv_at hl 0 rfl) ?_
      refine M_get hx hb hts hin hown hK hP 20 (by decide) rfl (index := 209) (by decide +kernel) rfl dX12_count_129 ?_
      refine lv_topi (fun v129 ev129 => ?_)
      refine lv_i2l hx hb dX12_count_132 rfl ?_
      refine M_lret (v := v129.toInt64) hx hb hr hlocks hK hP hD hS dX12_count_133 ?_
      first | (simp only [hw13, ev129, countF, c16, c31_0, c31_1, c31_2, c31_3, c31_4, not_true_eq_false, not_false_eq_true, and_true, true_and, and_false, false_and, and_self, if_true, if_false, ite_true, ite_false, ↓reduceIte, Int32.add_zero, Bool.not_eq_false, Bool.and_true, Bool.true_and, Bool.and_false, Bool.false_and, Bool.false_eq_true]; done) | (simp only [hw13, ev129, countF, c16, not_true_eq_false, not_false_eq_true, and_true, true_and, and_false, false_and, and_self, if_true, if_false, ite_true, ite_false, ↓reduceIte, Int32.add_zero, Bool.not_eq_false, Bool.and_true, Bool.true_and, Bool.and_false, Bool.false_and, Bool.false_eq_true]; simp [c16, c31_0, c31_1, c31_2, c31_3, c31_4])
    by_cases c31_5 : a0 = 5
    · skip
      refine lv_tableIn (tgt := 134) hx hb dX12_count_31 (by rw [c31_5]; decide) (by rw [c31_5]; decide) (by rw [c31_5]; rfl) (by decide) ?_
      refine lv_aload_n hx hb dX12_count_134 rfl (lv_at hl 0 rfl) ?_
      refine M_get hx hb hts hin hown hK hP 32 (by decide) rfl (index := 239) (by decide +kernel) rfl dX12_count_135 ?_
      refine lv_topi (fun v135 ev135 => ?_)
      refine lv_i2l hx hb dX12_count_138 rfl ?_
      refine M_lret (v := v135.toInt64) hx hb hr hlocks hK hP hD hS dX12_count_139 ?_
      first | (simp only [hw13, ev135, countF, c16, c31_0, c31_1, c31_2, c31_3, c31_4, c31_5, not_true_eq_false, not_false_eq_true, and_true, true_and, and_false, false_and, and_self, if_true, if_false, ite_true, ite_false, ↓reduceIte, Int32.add_zero, Bool.not_eq_false, Bool.and_true, Bool.true_and, Bool.and_false, Bool.false_and, Bool.false_eq_true]; done) | (simp only [hw13, ev135, countF, c16, not_true_eq_false, not_false_eq_true, and_true, true_and, and_false, false_and, and_self, if_true, if_false, ite_true, ite_false, ↓reduceIte, Int32.add_zero, Bool.not_eq_false, Bool.and_true, Bool.true_and, Bool.and_false, Bool.false_and, Bool.false_eq_true]; simp [c16, c31_0, c31_1, c31_2, c31_3, c31_4, c31_5])
    by_cases c31_6 : a0 = 6
    · skip
      refine lv_tableIn (tgt := 140) hx hb dX12_count_31 (by rw [c31_6]; decide) (by rw [c31_6]; decide) (by rw [c31_6]; rfl) (by decide) ?_
      refine lv_aload_n hx hb dX12_count_140 rfl (lv_at hl 0 rfl) ?_
      refine M_get hx hb hts hin hown hK hP 25 (by decide) rfl (index := 216) (by decide +kernel) rfl dX12_count_141 ?_
      refine lv_topi (fun v141 ev141 => ?_)
      refine lv_i2l hx hb dX12_count_144 rfl ?_
      refine M_lret (v := v141.toInt64) hx hb hr hlocks hK hP hD hS dX12_count_145 ?_
      first | (simp only [hw13, ev141, countF, c16, c31_0, c31_1, c31_2, c31_3, c31_4, c31_5, c31_6, not_true_eq_false, not_false_eq_true, and_true, true_and, and_false, false_and, and_self, if_true, if_false, ite_true, ite_false, ↓reduceIte, Int32.add_zero, Bool.not_eq_false, Bool.and_true, Bool.true_and, Bool.and_false, Bool.false_and, Bool.false_eq_true]; done) | (simp only [hw13, ev141, countF, c16, not_true_eq_false, not_false_eq_true, and_true, true_and, and_false, false_and, and_self, if_true, if_false, ite_true, ite_false, ↓reduceIte, Int32.add_zero, Bool.not_eq_false, Bool.and_true, Bool.true_and, Bool.and_false, Bool.false_and, Bool.false_eq_true]; simp [c16, c31_0, c31_1, c31_2, c31_3, c31_4, c31_5, c31_6])
    by_cases c31_7 : a0 = 7
    · skip
      refine lv_tableIn (tgt := 146) hx hb dX12_count_31 (by rw [c31_7]; decide) (by rw [c31_7]; decide) (by rw [c31_7]; rfl) (by decide) ?_
      refine lv_aload_n hx hb dX12_count_146 rfl (lv_at hl 0 rfl) ?_
      refine M_get hx hb hts hin hown hK hP 65 (by decide) rfl (index := 356) (by decide +kernel) rfl dX12_count_147 ?_
      refine lv_topi (fun v147 ev147 => ?_)
      refine lv_i2l hx hb dX12_count_150 rfl ?_
      refine M_lret (v := v147.toInt64) hx hb hr hlocks hK hP hD hS dX12_count_151 ?_
      first | (simp only [hw13, ev147, countF, c16, c31_0, c31_1, c31_2, c31_3, c31_4, c31_5, c31_6, c31_7, not_true_eq_false, not_false_eq_true, and_true, true_and, and_false, false_and, and_self, if_true, if_false, ite_true, ite_false, ↓reduceIte, Int32.add_zero, Bool.not_eq_false, Bool.and_true, Bool.true_and, Bool.and_false, Bool.false_and, Bool.false_eq_true]; done) | (simp only [hw13, ev147, countF, c16, not_true_eq_false, not_false_eq_true, and_true, true_and, and_false, false_and, and_self, if_true, if_false, ite_true, ite_false, ↓reduceIte, Int32.add_zero, Bool.not_eq_false, Bool.and_true, Bool.true_and, Bool.and_false, Bool.false_and, Bool.false_eq_true]; simp [c16, c31_0, c31_1, c31_2, c31_3, c31_4, c31_5, c31_6, c31_7])
    by_cases c31_8 : a0 = 8
    · skip
      refine lv_tableIn (tgt := 152) hx hb dX12_count_31 (by rw [c31_8]; decide) (by rw [c31_8]; decide) (by rw [c31_8]; rfl) (by decide) ?_
      refine lv_aload_n hx hb dX12_count_152 rfl (lv_at hl 0 rfl) ?_
      refine lv_iload_n hx hb dX12_count_153 rfl (lv_at hl 1 rfl) ?_
      refine lv_iconst (v := -1) hx hb dX12_count_154 (by decide) ?_
      refine M_callq (av := [.int a0, .int (-1 : Int32)]) (rest := []) ⟨hx, hb, hml, hown, hts⟩ hA hK hP hD hS (c_sumOf l D cI cJ ad x (a0) ((-1 : Int32)) h4) (cwV 2 hts gX12_count_X12_sumOf rfl rfl rfl (by decide +kernel) ⟨Nat.le_of_ble_eq_true rfl, Nat.le_of_ble_eq_true rfl⟩) rfl hl.1 rfl (Nat.le_of_ble_eq_true rfl) dX12_count_155 ⟨Nat.le_of_ble_eq_true rfl, Nat.le_of_ble_eq_true rfl⟩ (fun r155 H locs hw155 hP hD hS => ?_)
      refine M_lret (v := r155) hx hb hr hlocks hK hP hD hS dX12_count_158 ?_
      first | (simp only [hw13, hw155, countF, c16, c31_0, c31_1, c31_2, c31_3, c31_4, c31_5, c31_6, c31_7, c31_8, not_true_eq_false, not_false_eq_true, and_true, true_and, and_false, false_and, and_self, if_true, if_false, ite_true, ite_false, ↓reduceIte, Int32.add_zero, Bool.not_eq_false, Bool.and_true, Bool.true_and, Bool.and_false, Bool.false_and, Bool.false_eq_true]; done) | (simp only [hw13, hw155, countF, c16, not_true_eq_false, not_false_eq_true, and_true, true_and, and_false, false_and, and_self, if_true, if_false, ite_true, ite_false, ↓reduceIte, Int32.add_zero, Bool.not_eq_false, Bool.and_true, Bool.true_and, Bool.and_false, Bool.false_and, Bool.false_eq_true]; simp [c16, c31_0, c31_1, c31_2, c31_3, c31_4, c31_5, c31_6, c31_7, c31_8])
    by_cases c31_9 : a0 = 9
    · skip
      refine lv_tableIn (tgt := 152) hx hb dX12_count_31 (by rw [c31_9]; decide) (by rw [c31_9]; decide) (by rw [c31_9]; rfl) (by decide) ?_
      refine lv_aload_n hx hb dX12_count_152 rfl (lv_at hl 0 rfl) ?_
      refine lv_iload_n hx hb dX12_count_153 rfl (lv_at hl 1 rfl) ?_
      refine lv_iconst (v := -1) hx hb dX12_count_154 (by decide) ?_
      refine M_callq (av := [.int a0, .int (-1 : Int32)]) (rest := []) ⟨hx, hb, hml, hown, hts⟩ hA hK hP hD hS (c_sumOf l D cI cJ ad x (a0) ((-1 : Int32)) h4) (cwV 2 hts gX12_count_X12_sumOf rfl rfl rfl (by decide +kernel) ⟨Nat.le_of_ble_eq_true rfl, Nat.le_of_ble_eq_true rfl⟩) rfl hl.1 rfl (Nat.le_of_ble_eq_true rfl) dX12_count_155 ⟨Nat.le_of_ble_eq_true rfl, Nat.le_of_ble_eq_true rfl⟩ (fun r155 H locs hw155 hP hD hS => ?_)
      refine M_lret (v := r155) hx hb hr hlocks hK hP hD hS dX12_count_158 ?_
      first | (simp only [hw13, hw155, countF, c16, c31_0, c31_1, c31_2, c31_3, c31_4, c31_5, c31_6, c31_7, c31_8, c31_9, not_true_eq_false, not_false_eq_true, and_true, true_and, and_false, false_and, and_self, if_true, if_false, ite_true, ite_false, ↓reduceIte, Int32.add_zero, Bool.not_eq_false, Bool.and_true, Bool.true_and, Bool.and_false, Bool.false_and, Bool.false_eq_true]; done) | (simp only [hw13, hw155, countF, c16, not_true_eq_false, not_false_eq_true, and_true, true_and, and_false, false_and, and_self, if_true, if_false, ite_true, ite_false, ↓reduceIte, Int32.add_zero, Bool.not_eq_false, Bool.and_true, Bool.true_and, Bool.and_false, Bool.false_and, Bool.false_eq_true]; simp [c16, c31_0, c31_1, c31_2, c31_3, c31_4, c31_5, c31_6, c31_7, c31_8, c31_9])
    by_cases c31_10 : a0 = 10
    · skip
      refine lv_tableIn (tgt := 152) hx hb dX12_count_31 (by rw [c31_10]; decide) (by rw [c31_10]; decide) (by rw [c31_10]; rfl) (by decide) ?_
      refine lv_aload_n hx hb dX12_count_152 rfl (lv_at hl 0 rfl) ?_
      refine lv_iload_n hx hb dX12_count_153 rfl (lv_at hl 1 rfl) ?_
      refine lv_iconst (v := -1) hx hb dX12_count_154 (by decide) ?_
      refine M_callq (av := [.int a0, .int (-1 : Int32)]) (rest := []) ⟨hx, hb, hml, hown, hts⟩ hA hK hP hD hS (c_sumOf l D cI cJ ad x (a0) ((-1 : Int32)) h4) (cwV 2 hts gX12_count_X12_sumOf rfl rfl rfl (by decide +kernel) ⟨Nat.le_of_ble_eq_true rfl, Nat.le_of_ble_eq_true rfl⟩) rfl hl.1 rfl (Nat.le_of_ble_eq_true rfl) dX12_count_155 ⟨Nat.le_of_ble_eq_true rfl, Nat.le_of_ble_eq_true rfl⟩ (fun r155 H locs hw155 hP hD hS => ?_)
      refine M_lret (v := r155) hx hb hr hlocks hK hP hD hS dX12_count_158 ?_
      first | (simp only [hw13, hw155, countF, c16, c31_0, c31_1, c31_2, c31_3, c31_4, c31_5, c31_6, c31_7, c31_8, c31_9, c31_10, not_true_eq_false, not_false_eq_true, and_true, true_and, and_false, false_and, and_self, if_true, if_false, ite_true, ite_false, ↓reduceIte, Int32.add_zero, Bool.not_eq_false, Bool.and_true, Bool.true_and, Bool.and_false, Bool.false_and, Bool.false_eq_true]; done) | (simp only [hw13, hw155, countF, c16, not_true_eq_false, not_false_eq_true, and_true, true_and, and_false, false_and, and_self, if_true, if_false, ite_true, ite_false, ↓reduceIte, Int32.add_zero, Bool.not_eq_false, Bool.and_true, Bool.true_and, Bool.and_false, Bool.false_and, Bool.false_eq_true]; simp [c16, c31_0, c31_1, c31_2, c31_3, c31_4, c31_5, c31_6, c31_7, c31_8, c31_9, c31_10])
    by_cases c31_11 : a0 = 11
    · skip
      refine lv_tableIn (tgt := 152) hx hb dX12_count_31 (by rw [c31_11]; decide) (by rw [c31_11]; decide) (by rw [c31_11]; rfl) (by decide) ?_
      refine lv_aload_n hx hb dX12_count_152 rfl (lv_at hl 0 rfl) ?_
      refine lv_iload_n hx hb dX12_count_153 rfl (lv_at hl 1 rfl) ?_
      refine lv_iconst (v := -1) hx hb dX12_count_154 (by decide) ?_
      refine M_callq (av := [.int a0, .int (-1 : Int32)]) (rest := []) ⟨hx, hb, hml, hown, hts⟩ hA hK hP hD hS (c_sumOf l D cI cJ ad x (a0) ((-1 : Int32)) h4) (cwV 2 hts gX12_count_X12_sumOf rfl rfl rfl (by decide +kernel) ⟨Nat.le_of_ble_eq_true rfl, Nat.le_of_ble_eq_true rfl⟩) rfl hl.1 rfl (Nat.le_of_ble_eq_true rfl) dX12_count_155 ⟨Nat.le_of_ble_eq_true rfl, Nat.le_of_ble_eq_true rfl⟩ (fun r155 H locs hw155 hP hD hS => ?_)
      refine M_lret (v := r155) hx hb hr hlocks hK hP hD hS dX12_count_158 ?_
      first | (simp only [hw13, hw155, countF, c16, c31_0, c31_1, c31_2, c31_3, c31_4, c31_5, c31_6, c31_7, c31_8, c31_9, c31_10, c31_11, not_true_eq_false, not_false_eq_true, and_true, true_and, and_false, false_and, and_self, if_true, if_false, ite_true, ite_false, ↓reduceIte, Int32.add_zero, Bool.not_eq_false, Bool.and_true, Bool.true_and, Bool.and_false, Bool.false_and, Bool.false_eq_true]; done) | (simp only [hw13, hw155, countF, c16, not_true_eq_false, not_false_eq_true, and_true, true_and, and_false, false_and, and_self, if_true, if_false, ite_true, ite_false, ↓reduceIte, Int32.add_zero, Bool.not_eq_false, Bool.and_true, Bool.true_and, Bool.and_false, Bool.false_and, Bool.false_eq_true]; simp [c16, c31_0, c31_1, c31_2, c31_3, c31_4, c31_5, c31_6, c31_7, c31_8, c31_9, c31_10, c31_11])
    by_cases c31_12 : a0 = 12
    · skip
      refine lv_tableIn (tgt := 152) hx hb dX12_count_31 (by rw [c31_12]; decide) (by rw [c31_12]; decide) (by rw [c31_12]; rfl) (by decide) ?_
      refine lv_aload_n hx hb dX12_count_152 rfl (lv_at hl 0 rfl) ?_
      refine lv_iload_n hx hb dX12_count_153 rfl (lv_at hl 1 rfl) ?_
      refine lv_iconst (v := -1) hx hb dX12_count_154 (by decide) ?_
      refine M_callq (av := [.int a0, .int (-1 : Int32)]) (rest := []) ⟨hx, hb, hml, hown, hts⟩ hA hK hP hD hS (c_sumOf l D cI cJ ad x (a0) ((-1 : Int32)) h4) (cwV 2 hts gX12_count_X12_sumOf rfl rfl rfl (by decide +kernel) ⟨Nat.le_of_ble_eq_true rfl, Nat.le_of_ble_eq_true rfl⟩) rfl hl.1 rfl (Nat.le_of_ble_eq_true rfl) dX12_count_155 ⟨Nat.le_of_ble_eq_true rfl, Nat.le_of_ble_eq_true rfl⟩ (fun r155 H locs hw155 hP hD hS => ?_)
      refine M_lret (v := r155) hx hb hr hlocks hK hP hD hS dX12_count_158 ?_
      first | (simp only [hw13, hw155, countF, c16, c31_0, c31_1, c31_2, c31_3, c31_4, c31_5, c31_6, c31_7, c31_8, c31_9, c31_10, c31_11, c31_12, not_true_eq_false, not_false_eq_true, and_true, true_and, and_false, false_and, and_self, if_true, if_false, ite_true, ite_false, ↓reduceIte, Int32.add_zero, Bool.not_eq_false, Bool.and_true, Bool.true_and, Bool.and_false, Bool.false_and, Bool.false_eq_true]; done) | (simp only [hw13, hw155, countF, c16, not_true_eq_false, not_false_eq_true, and_true, true_and, and_false, false_and, and_self, if_true, if_false, ite_true, ite_false, ↓reduceIte, Int32.add_zero, Bool.not_eq_false, Bool.and_true, Bool.true_and, Bool.and_false, Bool.false_and, Bool.false_eq_true]; simp [c16, c31_0, c31_1, c31_2, c31_3, c31_4, c31_5, c31_6, c31_7, c31_8, c31_9, c31_10, c31_11, c31_12])
    by_cases c31_13 : a0 = 13
    · skip
      refine lv_tableIn (tgt := 159) hx hb dX12_count_31 (by rw [c31_13]; decide) (by rw [c31_13]; decide) (by rw [c31_13]; rfl) (by decide) ?_
      refine lv_aload_n hx hb dX12_count_159 rfl (lv_at hl 0 rfl) ?_
      refine M_get hx hb hts hin hown hK hP 40 (by decide) rfl (index := 242) (by decide +kernel) rfl dX12_count_160 ?_
      refine lv_topl (fun v160 ev160 => ?_)
      refine M_lret (v := v160) hx hb hr hlocks hK hP hD hS dX12_count_163 ?_
      first | (simp only [hw13, ev160, countF, c16, c31_0, c31_1, c31_2, c31_3, c31_4, c31_5, c31_6, c31_7, c31_8, c31_9, c31_10, c31_11, c31_12, c31_13, not_true_eq_false, not_false_eq_true, and_true, true_and, and_false, false_and, and_self, if_true, if_false, ite_true, ite_false, ↓reduceIte, Int32.add_zero, Bool.not_eq_false, Bool.and_true, Bool.true_and, Bool.and_false, Bool.false_and, Bool.false_eq_true]; done) | (simp only [hw13, ev160, countF, c16, not_true_eq_false, not_false_eq_true, and_true, true_and, and_false, false_and, and_self, if_true, if_false, ite_true, ite_false, ↓reduceIte, Int32.add_zero, Bool.not_eq_false, Bool.and_true, Bool.true_and, Bool.and_false, Bool.false_and, Bool.false_eq_true]; simp [c16, c31_0, c31_1, c31_2, c31_3, c31_4, c31_5, c31_6, c31_7, c31_8, c31_9, c31_10, c31_11, c31_12, c31_13])
    by_cases c31_14 : a0 = 14
    · skip
      refine lv_tableIn (tgt := 164) hx hb dX12_count_31 (by rw [c31_14]; decide) (by rw [c31_14]; decide) (by rw [c31_14]; rfl) (by decide) ?_
      refine lv_aload_n hx hb dX12_count_164 rfl (lv_at hl 0 rfl) ?_
      refine M_get hx hb hts hin hown hK hP 58 (by decide) rfl (index := 291) (by decide +kernel) rfl dX12_count_165 ?_
      refine lv_topi (fun v165 ev165 => ?_)
      refine lv_i2l hx hb dX12_count_168 rfl ?_
      refine M_lret (v := v165.toInt64) hx hb hr hlocks hK hP hD hS dX12_count_169 ?_
      first | (simp only [hw13, ev165, countF, c16, c31_0, c31_1, c31_2, c31_3, c31_4, c31_5, c31_6, c31_7, c31_8, c31_9, c31_10, c31_11, c31_12, c31_13, c31_14, not_true_eq_false, not_false_eq_true, and_true, true_and, and_false, false_and, and_self, if_true, if_false, ite_true, ite_false, ↓reduceIte, Int32.add_zero, Bool.not_eq_false, Bool.and_true, Bool.true_and, Bool.and_false, Bool.false_and, Bool.false_eq_true]; done) | (simp only [hw13, ev165, countF, c16, not_true_eq_false, not_false_eq_true, and_true, true_and, and_false, false_and, and_self, if_true, if_false, ite_true, ite_false, ↓reduceIte, Int32.add_zero, Bool.not_eq_false, Bool.and_true, Bool.true_and, Bool.and_false, Bool.false_and, Bool.false_eq_true]; simp [c16, c31_0, c31_1, c31_2, c31_3, c31_4, c31_5, c31_6, c31_7, c31_8, c31_9, c31_10, c31_11, c31_12, c31_13, c31_14])
    refine lv_tableOut (tgt := 170) hx hb dX12_count_31 ?_ (by decide) ?_
    · refine sw_out (0) (14) a0 (by decide) (fun k h1 h2 => ?_)
      have h3 : k = 0 ∨ k = 1 ∨ k = 2 ∨ k = 3 ∨ k = 4 ∨ k = 5 ∨ k = 6 ∨ k = 7 ∨ k = 8 ∨ k = 9 ∨ k = 10 ∨ k = 11 ∨ k = 12 ∨ k = 13 ∨ k = 14 := by omega
      rcases h3 with rfl | rfl | rfl | rfl | rfl | rfl | rfl | rfl | rfl | rfl | rfl | rfl | rfl | rfl | rfl <;> first | exact c31_0 | exact c31_1 | exact c31_2 | exact c31_3 | exact c31_4 | exact c31_5 | exact c31_6 | exact c31_7 | exact c31_8 | exact c31_9 | exact c31_10 | exact c31_11 | exact c31_12 | exact c31_13 | exact c31_14
    refine lv_ldc2 (v := -1) hx hb hown (hts (.constantLong RX12 319 (-1)) (by decide +kernel)) dX12_count_170 ?_
    refine M_lret (v := (-1 : Int64)) hx hb hr hlocks hK hP hD hS dX12_count_173 ?_
    first | (simp only [hw13, countF, c16, c31_0, c31_1, c31_2, c31_3, c31_4, c31_5, c31_6, c31_7, c31_8, c31_9, c31_10, c31_11, c31_12, c31_13, c31_14, not_true_eq_false, not_false_eq_true, and_true, true_and, and_false, false_and, and_self, if_true, if_false, ite_true, ite_false, ↓reduceIte, Int32.add_zero, Bool.not_eq_false, Bool.and_true, Bool.true_and, Bool.and_false, Bool.false_and, Bool.false_eq_true]; done) | (simp only [hw13, countF, c16, not_true_eq_false, not_false_eq_true, and_true, true_and, and_false, false_and, and_self, if_true, if_false, ite_true, ite_false, ↓reduceIte, Int32.add_zero, Bool.not_eq_false, Bool.and_true, Bool.true_and, Bool.and_false, Bool.false_and, Bool.false_eq_true]; simp [c16, c31_0, c31_1, c31_2, c31_3, c31_4, c31_5, c31_6, c31_7, c31_8, c31_9, c31_10, c31_11, c31_12, c31_13, c31_14])
  · skip
    simp only [hw13, bI_0, bI_1, Bool.not_eq_false] at c16
    refine lv_aload_n hx hb dX12_count_19 rfl (lv_at hl 0 rfl) ?_
    refine lv_bipush (v := 9) hx hb dX12_count_20 (by decide) ?_
    refine lv_iload_n hx hb dX12_count_22 rfl (lv_at hl 1 rfl) ?_
    refine lv_bipush (v := 20) hx hb dX12_count_23 (by decide) ?_
    refine lv_isub hx hb dX12_count_25 ?_
    refine M_callq (av := [.int (9 : Int32), .int (a0 - (20 : Int32))]) (rest := []) ⟨hx, hb, hml, hown, hts⟩ hA hK hP hD hS (c_sumOf l D cI cJ ad x ((9 : Int32)) ((a0 - (20 : Int32))) h4) (cwV 2 hts gX12_count_X12_sumOf rfl rfl rfl (by decide +kernel) ⟨Nat.le_of_ble_eq_true rfl, Nat.le_of_ble_eq_true rfl⟩) rfl hl.1 rfl (Nat.le_of_ble_eq_true rfl) dX12_count_26 ⟨Nat.le_of_ble_eq_true rfl, Nat.le_of_ble_eq_true rfl⟩ (fun r26 H locs hw26 hP hD hS => ?_)
    refine M_lret (v := r26) hx hb hr hlocks hK hP hD hS dX12_count_29 ?_
    first | (simp only [hw13, hw26, countF, c16, not_true_eq_false, not_false_eq_true, and_true, true_and, and_false, false_and, and_self, if_true, if_false, ite_true, ite_false, ↓reduceIte, Int32.add_zero, Bool.not_eq_false, Bool.and_true, Bool.true_and, Bool.and_false, Bool.false_and, Bool.false_eq_true]; done) | (simp only [hw13, hw26, countF, c16, not_true_eq_false, not_false_eq_true, and_true, true_and, and_false, false_and, and_self, if_true, if_false, ite_true, ite_false, ↓reduceIte, Int32.add_zero, Bool.not_eq_false, Bool.and_true, Bool.true_and, Bool.and_false, Bool.false_and, Bool.false_eq_true]; simp [c16])

set_option maxHeartbeats 4000000 in
set_option maxRecDepth 100000 in
theorem c_led (l : Launch) (D : va_G) (cI cJ : ClassId) (ad : Nat → Nat) (x : MS) (a0 : Int32) (a1 : Int32) (h0 : mI x 0 = 0) (h32 : okN x 32 519) (hln : lnOk x) : Ml l yX12_led wsX12_led { frames := 2, cells := 0, slots := 0, locals := 46 } D cI cJ ad [.int a0, .int a1] x (fun r y => y = x ∧ r = ledF x a0 a1) := by
  have hN := h32.1
  have hN2 := h32.2
  obtain ⟨g1, g2, g3, g4⟩ := hln
  refine Ml_of (cc := cX12_led) (nL := 7) (ret := (some .long)) (by decide) rfl rfl (Nat.le_of_ble_eq_true rfl) ?_
  intro p e s m args below meth c A hx hb hr hlocks hml hts hown hA hK hP hD hS ls hl
  have hin : ∀ w ∈ wsX120, w ∈ wsX12_led := fun w h => List.mem_cons_of_mem _ (List.mem_append_right _ h)
  have hl : lv_has ls 7 [(0, .ref (ad 0)), (1, .int a0), (2, .int a1)] := hl
  refine lv_aload_n hx hb dX12_led_0 rfl (lv_at hl 0 rfl) ?_
  refine lv_iconst (v := 0) hx hb dX12_led_1 (by decide) ?_
  refine M_put hx hb hts hin hown hK hP hD hS 0 (by decide) rfl rfl (index := 156) (by decide +kernel) (ty := .int) (by decide +kernel) rfl rfl (pI_0 cI cJ ad x _) dX12_led_2 (fun y2 H locs ey2 hP hD hS => ?_)
  rw [ey2.trans (sI_0 h0)] at hP hD
  refine lv_iload_n hx hb dX12_led_5 rfl (lv_at hl 1 rfl) ?_
  refine lv_i2l hx hb dX12_led_6 rfl ?_
  refine lv_lconst (v := 0) hx hb dX12_led_7 (by decide) ?_
  refine lv_ldc2 (v := 19) hx hb hown (hts (.constantLong RX12 194 (19)) (by decide +kernel)) dX12_led_8 ?_
  refine S_calli (av := [.long a0.toInt64, .long (0 : Int64), .long (19 : Int64)]) (rest := []) ⟨hx, hb, hml, hown, hts⟩ (c_in l (a0.toInt64) ((0 : Int64)) ((19 : Int64)) ) (va_cwS 3 hts gX12_led_X12_in rfl rfl rfl (by decide +kernel) ⟨Nat.le_of_ble_eq_true rfl, Nat.le_of_ble_eq_true rfl⟩) rfl hl.1 rfl (Nat.le_of_ble_eq_true rfl) dX12_led_11 ⟨Nat.le_of_ble_eq_true rfl, Nat.le_of_ble_eq_true rfl⟩ (fun r11 hw11 => ?_)
  rw [show inL a0.toInt64 (0) 19 = isB a0 0 19 from inL_i a0 0 19] at hw11
  refine lv_if_eq (tgt := 25) hx hb dX12_led_14 (by decide) (fun c14 => ?_) (fun c14 => ?_)
  · skip
    simp only [hw11, bI_0, bI_1, Bool.not_eq_false] at c14
    refine lv_ldc2 (v := -1) hx hb hown (hts (.constantLong RX12 319 (-1)) (by decide +kernel)) dX12_led_25 ?_
    refine M_lret (v := (-1 : Int64)) hx hb hr hlocks hK hP hD hS dX12_led_28 ?_
    simp only [hw11, ledF, c14, not_true_eq_false, not_false_eq_true, and_true, true_and, and_false, false_and, and_self, if_true, if_false, ite_true, ite_false, ↓reduceIte, Int32.add_zero, Bool.not_eq_false, Bool.and_true, Bool.true_and, Bool.and_false, Bool.false_and, Bool.false_eq_true]
  · skip
    simp only [hw11, bI_0, bI_1, Bool.not_eq_false] at c14
    refine lv_aload_n hx hb dX12_led_17 rfl (lv_at hl 0 rfl) ?_
    refine lv_iload_n hx hb dX12_led_18 rfl (lv_at hl 2 rfl) ?_
    refine M_callr (av := [.int a1]) (rest := []) ⟨hx, hb, hml, hown, hts⟩ hA hK hP hD hS (c_isFamily l D cI cJ ad x (a1) ) (cwV 1 hts gX12_led_X12_isFamily rfl rfl rfl (by decide +kernel) ⟨Nat.le_of_ble_eq_true rfl, Nat.le_of_ble_eq_true rfl⟩) rfl hl.1 rfl (Nat.le_of_ble_eq_true rfl) dX12_led_19 ⟨Nat.le_of_ble_eq_true rfl, Nat.le_of_ble_eq_true rfl⟩ (fun r19 H locs hw19 hP hD hS => ?_)
    refine lv_if_ne (tgt := 29) hx hb dX12_led_22 (by decide) (fun c22 => ?_) (fun c22 => ?_)
    · skip
      simp only [hw19, bI_0, bI_1, Bool.not_eq_false] at c22
      refine lv_lconst (v := 0) hx hb dX12_led_29 (by decide) ?_
      refine lv_topl (fun x30 ex30 => ?_)
      refine lv_lstore_n (lv' := [(3, .long x30), (0, .ref (ad 0)), (1, .int a0), (2, .int a1)]) hx hb dX12_led_30 rfl hl (by decide) rfl (fun ls hl => ?_)
      refine lv_iconst (v := 0) hx hb dX12_led_31 (by decide) ?_
      refine lv_topi (fun x32 ex32 => ?_)
      refine lv_istore (lv' := [(5, .int x32), (3, .long x30), (0, .ref (ad 0)), (1, .int a0), (2, .int a1)]) hx hb dX12_led_32 hl (by decide) rfl (fun ls hl => ?_)
      have lp34 : ∀ (n : Nat) (k : Nat), (nN x 32 < k + n) → (k ≤ nN x 32) → ∀ (H : Heap) (locs : List Loc), va_P D vwCl (wsM cI cJ ad x) H → va_D A (wsM cI cJ ad x) → va_S A s.heap H locs → ∀ ls : Array Slot, lv_has ls 7 [(5, .int (nI k)), (3, .long (ledN x a0 a1 k)), (0, .ref (ad 0)), (1, .int a0), (2, .int a1)] → W p l e { frames := 2, cells := 0, slots := 0, locals := 46 } s m args below meth c H locs 0 0 (MQ below (va_Ql (fun r y => y = x ∧ r = ledF x a0 a1) (mAft D cI cJ ad A) A) args s 0 0 A) (F0 m 34 ls []) := by
        intro n
        induction n with
        | zero => intro k hn hk; exact absurd hn (by omega)
        | succ n ih34 =>
          intro k hn hk H locs hP hD hS ls hl
          refine lv_iload hx hb dX12_led_34 (lv_at hl 0 rfl) ?_
          refine lv_aload_n hx hb dX12_led_36 rfl (lv_at hl 2 rfl) ?_
          refine M_get hx hb hts hin hown hK hP 32 (by decide) rfl (index := 239) (by decide +kernel) rfl dX12_led_37 ?_
          refine lv_topi (fun v37 ev37 => ?_)
          refine lv_icmp_ge (tgt := 120) hx hb dX12_led_40 (by decide) (fun c40 => ?_) (fun c40 => ?_)
          · skip
            simp only [ev37] at c40
            have hkN : k = nN x 32 := by rw [hN] at c40; have := (nI_leI (by omega) (by omega)).mp c40; omega
            refine lv_lload_n hx hb dX12_led_120 rfl (lv_at hl 1 rfl) ?_
            refine M_lret (v := (ledN x a0 a1 k)) hx hb hr hlocks hK hP hD hS dX12_led_121 ?_
            simp only [hkN, ledF, c14, c22, not_true_eq_false, not_false_eq_true, and_true, true_and, and_false, false_and, and_self, if_true, if_false, ite_true, ite_false, ↓reduceIte, Int32.add_zero, Bool.not_eq_false, Bool.and_true, Bool.true_and, Bool.and_false, Bool.false_and, Bool.false_eq_true]
          · skip
            simp only [ev37] at c40
            have hkN : k < nN x 32 := by
              rw [hN] at c40
              rcases Nat.lt_or_ge k (nN x 32) with q | q
              · exact q
              · exact absurd (nI_le q (by omega)) c40
            obtain ⟨ga, gb⟩ := g2 k (by omega)
            obtain ⟨gc, gd⟩ := g2 (k + 1) (by omega)
            have gm := g3 k hkN
            refine lv_aload_n hx hb dX12_led_43 rfl (lv_at hl 2 rfl) ?_
            refine M_get hx hb hts hin hown hK hP 35 (by decide) rfl (index := 86) (by decide +kernel) rfl dX12_led_44 ?_
            refine lv_iload hx hb dX12_led_47 (lv_at hl 0 rfl) ?_
            have h49 : vp_in ((nI k)) 521 := by exact vp_in_nI (by omega) (by decide)
            refine va_iald hx hb hK hP 26 0 rfl rfl h49 dX12_led_49 ?_
            refine lv_topi (fun v49 ev49 => ?_)
            rw [nI_clamp (by omega)] at ev49
            refine lv_topi (fun x50 ex50 => ?_)
            refine lv_istore (lv' := [(6, .int x50), (5, .int (nI k)), (3, .long (ledN x a0 a1 k)), (0, .ref (ad 0)), (1, .int a0), (2, .int a1)]) hx hb dX12_led_50 hl (by decide) rfl (fun ls hl => ?_)
            have lp52 : ∀ (n : Nat) (j : Nat), (nA x 35 (k + 1) - nA x 35 k < j + n) → (j ≤ nA x 35 (k + 1) - nA x 35 k) → (¬ mA x 33 k = a1 → j = 0) → ∀ (H : Heap) (locs : List Loc), va_P D vwCl (wsM cI cJ ad x) H → va_D A (wsM cI cJ ad x) → va_S A s.heap H locs → ∀ ls : Array Slot, lv_has ls 7 [(6, .int (nI (nA x 35 k + j))), (5, .int (nI k)), (3, .long (linN x a0 (nA x 35 k) (ledN x a0 a1 k) j)), (0, .ref (ad 0)), (1, .int a0), (2, .int a1)] → W p l e { frames := 2, cells := 0, slots := 0, locals := 46 } s m args below meth c H locs 0 0 (MQ below (va_Ql (fun r y => y = x ∧ r = ledF x a0 a1) (mAft D cI cJ ad A) A) args s 0 0 A) (F0 m 52 ls []) := by
              intro n
              induction n with
              | zero => intro j hn2 hj hj0; exact absurd hn2 (by omega)
              | succ n ih52 =>
                intro j hn2 hj hj0 H locs hP hD hS ls hl
                refine lv_iload hx hb dX12_led_52 (lv_at hl 0 rfl) ?_
                refine lv_aload_n hx hb dX12_led_54 rfl (lv_at hl 3 rfl) ?_
                refine M_get hx hb hts hin hown hK hP 35 (by decide) rfl (index := 86) (by decide +kernel) rfl dX12_led_55 ?_
                refine lv_iload hx hb dX12_led_58 (lv_at hl 1 rfl) ?_
                refine lv_iconst (v := 1) hx hb dX12_led_60 (by decide) ?_
                refine lv_iadd hx hb dX12_led_61 ?_
                rw [nI_1]
                have h62 : vp_in ((nI (k + 1))) 521 := by exact vp_in_nI (by omega) (by decide)
                refine va_iald hx hb hK hP 26 0 rfl rfl h62 dX12_led_62 ?_
                refine lv_topi (fun v62 ev62 => ?_)
                rw [nI_clamp (by omega)] at ev62
                refine lv_icmp_ge (tgt := 114) hx hb dX12_led_63 (by decide) (fun c63 => ?_) (fun c63 => ?_)
                · skip
                  simp only [ev62] at c63
                  have hjN : j = nA x 35 (k + 1) - nA x 35 k := by rw [gc] at c63; have := (nI_leI (by omega) (by omega)).mp c63; omega
                  obtain ⟨x114, ex114⟩ : ∃ y : Int32, y = (nI k) + 1 := ⟨_, rfl⟩
                  refine lv_iinc (v := x114) (lv' := [(5, .int x114), (6, .int (nI (nA x 35 k + j))), (3, .long (linN x a0 (nA x 35 k) (ledN x a0 a1 k) j)), (0, .ref (ad 0)), (1, .int a0), (2, .int a1)]) hx hb dX12_led_114 hl (k := 1) rfl (by rw [ex114]; rfl) (by decide) rfl (fun ls hl => ?_)
                  refine lv_goto (tgt := 34) hx hb dX12_led_117 (by decide) ?_
                  have q5 : x114 = (nI (k + 1)) := by rw [ex114]; exact nI_1 k
                  have q3 : (linN x a0 (nA x 35 k) (ledN x a0 a1 k) j) = (ledN x a0 a1 (k + 1)) := by first | exact led_exit hj0 hjN | exact led_exit2 c74 hj0
                  rw [q5, q3] at hl
                  exact ih34 (k + 1) (by omega) (by omega) _ _ hP hD hS ls (lv_sub hl [0, 2, 3, 4, 5] rfl)
                · skip
                  simp only [ev62] at c63
                  have hjN : j < nA x 35 (k + 1) - nA x 35 k := by
                    rw [gc] at c63
                    rcases Nat.lt_or_ge (nA x 35 k + j) (nA x 35 (k + 1)) with q | q
                    · omega
                    · exact absurd (nI_le q (by omega)) c63
                  refine lv_aload_n hx hb dX12_led_66 rfl (lv_at hl 3 rfl) ?_
                  refine M_get hx hb hts hin hown hK hP 33 (by decide) rfl (index := 80) (by decide +kernel) rfl dX12_led_67 ?_
                  refine lv_iload hx hb dX12_led_70 (lv_at hl 1 rfl) ?_
                  have h72 : vp_in ((nI k)) 520 := by exact vp_in_nI (by omega) (by decide)
                  refine va_iald hx hb hK hP 24 0 rfl rfl h72 dX12_led_72 ?_
                  refine lv_topi (fun v72 ev72 => ?_)
                  rw [nI_clamp (by omega)] at ev72
                  refine lv_iload_n hx hb dX12_led_73 rfl (lv_at hl 5 rfl) ?_
                  refine lv_icmp_ne (tgt := 114) hx hb dX12_led_74 (by decide) (fun c74 => ?_) (fun c74 => ?_)
                  · skip
                    simp only [ev72] at c74
                    have hj0 : j = 0 := hj0 c74
                    obtain ⟨x114, ex114⟩ : ∃ y : Int32, y = (nI k) + 1 := ⟨_, rfl⟩
                    refine lv_iinc (v := x114) (lv' := [(5, .int x114), (6, .int (nI (nA x 35 k + j))), (3, .long (linN x a0 (nA x 35 k) (ledN x a0 a1 k) j)), (0, .ref (ad 0)), (1, .int a0), (2, .int a1)]) hx hb dX12_led_114 hl (k := 1) rfl (by rw [ex114]; rfl) (by decide) rfl (fun ls hl => ?_)
                    refine lv_goto (tgt := 34) hx hb dX12_led_117 (by decide) ?_
                    have q5 : x114 = (nI (k + 1)) := by rw [ex114]; exact nI_1 k
                    have q3 : (linN x a0 (nA x 35 k) (ledN x a0 a1 k) j) = (ledN x a0 a1 (k + 1)) := by first | exact led_exit hj0 hjN | exact led_exit2 c74 hj0
                    rw [q5, q3] at hl
                    exact ih34 (k + 1) (by omega) (by omega) _ _ hP hD hS ls (lv_sub hl [0, 2, 3, 4, 5] rfl)
                  · skip
                    simp only [ev72] at c74
                    refine lv_lload_n hx hb dX12_led_77 rfl (lv_at hl 2 rfl) ?_
                    refine lv_aload_n hx hb dX12_led_78 rfl (lv_at hl 3 rfl) ?_
                    refine M_get hx hb hts hin hown hK hP 8 (by decide) rfl (index := 22) (by decide +kernel) rfl dX12_led_79 ?_
                    refine lv_aload_n hx hb dX12_led_82 rfl (lv_at hl 3 rfl) ?_
                    refine M_get hx hb hts hin hown hK hP 38 (by decide) rfl (index := 92) (by decide +kernel) rfl dX12_led_83 ?_
                    refine lv_iload hx hb dX12_led_86 (lv_at hl 0 rfl) ?_
                    have h88 : vp_in ((nI (nA x 35 k + j))) 24000 := by exact vp_in_nI (by omega) (by decide)
                    refine va_iald hx hb hK hP 28 0 rfl rfl h88 dX12_led_88 ?_
                    refine lv_topi (fun v88 ev88 => ?_)
                    rw [nI_clamp (by omega)] at ev88
                    have h89 : vp_in v88 200 := by rw [ev88]; exact g4 _ (by omega)
                    refine va_iald hx hb hK hP 5 0 rfl rfl h89 dX12_led_89 ?_
                    refine lv_topi (fun v89 ev89 => ?_)
                    refine lv_iload_n hx hb dX12_led_90 rfl (lv_at hl 4 rfl) ?_
                    refine lv_icmp_ne (tgt := 105) hx hb dX12_led_91 (by decide) (fun c91 => ?_) (fun c91 => ?_)
                    · skip
                      simp only [ev89, ev88] at c91
                      refine lv_lconst (v := 0) hx hb dX12_led_105 (by decide) ?_
                      refine lv_ladd hx hb dX12_led_106 ?_
                      refine lv_topl (fun x107 ex107 => ?_)
                      refine lv_lstore_n (lv' := [(3, .long x107), (6, .int (nI (nA x 35 k + j))), (5, .int (nI k)), (0, .ref (ad 0)), (1, .int a0), (2, .int a1)]) hx hb dX12_led_107 rfl hl (by decide) rfl (fun ls hl => ?_)
                      obtain ⟨x108, ex108⟩ : ∃ y : Int32, y = (nI (nA x 35 k + j)) + 1 := ⟨_, rfl⟩
                      refine lv_iinc (v := x108) (lv' := [(6, .int x108), (3, .long x107), (5, .int (nI k)), (0, .ref (ad 0)), (1, .int a0), (2, .int a1)]) hx hb dX12_led_108 hl (k := 1) rfl (by rw [ex108]; rfl) (by decide) rfl (fun ls hl => ?_)
                      refine lv_goto (tgt := 52) hx hb dX12_led_111 (by decide) ?_
                      have q6 : x108 = (nI (nA x 35 k + (j + 1))) := by rw [ex108, nI_1]; rfl
                      have q3 : x107 = (linN x a0 (nA x 35 k) (ledN x a0 a1 k) (j + 1)) := by simp only [hw11, hw19, ex30, ex32, ev37, ev49, ex50, ev62, ev72, ev88, ev89, ex107, ex108, linN_s, c63, c74, c91, not_true_eq_false, not_false_eq_true, and_true, true_and, and_false, false_and, and_self, if_true, if_false, ite_true, ite_false, ↓reduceIte, Int32.add_zero, Bool.not_eq_false, Bool.and_true, Bool.true_and, Bool.and_false, Bool.false_and, Bool.false_eq_true, Int64.add_zero]
                      rw [q6, q3] at hl
                      exact ih52 (j + 1) (by omega) (by omega) (fun h => absurd c74 h) _ _ hP hD hS ls (lv_sub hl [0, 2, 1, 3, 4, 5] rfl)
                    · skip
                      simp only [ev89, ev88] at c91
                      refine lv_aload_n hx hb dX12_led_94 rfl (lv_at hl 3 rfl) ?_
                      refine M_get hx hb hts hin hown hK hP 39 (by decide) rfl (index := 95) (by decide +kernel) rfl dX12_led_95 ?_
                      refine lv_iload hx hb dX12_led_98 (lv_at hl 0 rfl) ?_
                      have h100 : vp_in ((nI (nA x 35 k + j))) 24000 := by exact vp_in_nI (by omega) (by decide)
                      refine va_iald hx hb hK hP 29 0 rfl rfl h100 dX12_led_100 ?_
                      refine lv_topi (fun v100 ev100 => ?_)
                      rw [nI_clamp (by omega)] at ev100
                      refine lv_i2l hx hb dX12_led_101 rfl ?_
                      refine lv_goto (tgt := 106) hx hb dX12_led_102 (by decide) ?_
                      refine lv_ladd hx hb dX12_led_106 ?_
                      refine lv_topl (fun x107 ex107 => ?_)
                      refine lv_lstore_n (lv' := [(3, .long x107), (6, .int (nI (nA x 35 k + j))), (5, .int (nI k)), (0, .ref (ad 0)), (1, .int a0), (2, .int a1)]) hx hb dX12_led_107 rfl hl (by decide) rfl (fun ls hl => ?_)
                      obtain ⟨x108, ex108⟩ : ∃ y : Int32, y = (nI (nA x 35 k + j)) + 1 := ⟨_, rfl⟩
                      refine lv_iinc (v := x108) (lv' := [(6, .int x108), (3, .long x107), (5, .int (nI k)), (0, .ref (ad 0)), (1, .int a0), (2, .int a1)]) hx hb dX12_led_108 hl (k := 1) rfl (by rw [ex108]; rfl) (by decide) rfl (fun ls hl => ?_)
                      refine lv_goto (tgt := 52) hx hb dX12_led_111 (by decide) ?_
                      have q6 : x108 = (nI (nA x 35 k + (j + 1))) := by rw [ex108, nI_1]; rfl
                      have q3 : x107 = (linN x a0 (nA x 35 k) (ledN x a0 a1 k) (j + 1)) := by simp only [hw11, hw19, ex30, ex32, ev37, ev49, ex50, ev62, ev72, ev88, ev89, ev100, ex107, ex108, linN_s, c63, c74, c91, not_true_eq_false, not_false_eq_true, and_true, true_and, and_false, false_and, and_self, if_true, if_false, ite_true, ite_false, ↓reduceIte, Int32.add_zero, Bool.not_eq_false, Bool.and_true, Bool.true_and, Bool.and_false, Bool.false_and, Bool.false_eq_true, Int64.add_zero]
                      rw [q6, q3] at hl
                      exact ih52 (j + 1) (by omega) (by omega) (fun h => absurd c74 h) _ _ hP hD hS ls (lv_sub hl [0, 2, 1, 3, 4, 5] rfl)
            have q6 : x50 = (nI (nA x 35 k + 0)) := by rw [ex50, ev49]; exact ga
            have q3 : (ledN x a0 a1 k) = (linN x a0 (nA x 35 k) (ledN x a0 a1 k) 0) := by rfl
            rw [q6, q3] at hl
            exact lp52 (nA x 35 (k + 1) - nA x 35 k + 1) 0 (by omega) (by omega) (fun _ => rfl) _ _ hP hD hS ls (lv_sub hl [0, 1, 2, 3, 4, 5] rfl)
      have q5 : x32 = (nI 0) := by rw [ex32]; exact nI_0.symm
      have q3 : x30 = (ledN x a0 a1 0) := by rw [ex30]; rfl
      rw [q5, q3] at hl
      exact lp34 (nN x 32 + 1) 0 (by omega) (by omega) _ _ hP hD hS ls (lv_sub hl [0, 1, 2, 3, 4] rfl)
    · skip
      simp only [hw19, bI_0, bI_1, Bool.not_eq_false] at c22
      refine lv_ldc2 (v := -1) hx hb hown (hts (.constantLong RX12 319 (-1)) (by decide +kernel)) dX12_led_25 ?_
      refine M_lret (v := (-1 : Int64)) hx hb hr hlocks hK hP hD hS dX12_led_28 ?_
      simp only [hw11, hw19, ledF, c14, c22, not_true_eq_false, not_false_eq_true, and_true, true_and, and_false, false_and, and_self, if_true, if_false, ite_true, ite_false, ↓reduceIte, Int32.add_zero, Bool.not_eq_false, Bool.and_true, Bool.true_and, Bool.and_false, Bool.false_and, Bool.false_eq_true]
