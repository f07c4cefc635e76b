theorem ixB_le {x : MS} {f b : Nat} {k : Int32} (h : okN x f b) (hb : ixB (mI x f) k = true) (hb2 : b < 2 ^ 31) : vp_in k b := by
  obtain ⟨j, hj, rfl⟩ := ixB_of h hb hb2
  have := h.2
  exact vp_in_nI (by omega) hb2
theorem MS_ext {a b : MS} (h1 : ∀ j, mI a j = mI b j) (h2 : ∀ j, mL a j = mL b j) (h3 : ∀ j, mA a j = mA b j) (h4 : ∀ j, mB a j = mB b j) : a = b :=
  Prod.ext (funext h1) (Prod.ext (funext h2) (Prod.ext (funext h3) (funext h4)))
def lotF (x : MS) (l w : Int32) : Int32 := if ixB (mI x 4) l then (if w = 0 then mA x 5 l.toNatClampNeg else if w = 1 then mA x 6 l.toNatClampNeg else if w = 2 then mA x 7 l.toNatClampNeg else if w = 3 then mA x 8 l.toNatClampNeg else if w = 4 then mA x 9 l.toNatClampNeg else if w = 5 then mA x 10 l.toNatClampNeg else if w = 6 then mA x 11 l.toNatClampNeg else if w = 7 then mA x 12 l.toNatClampNeg else -1) else -1
def tableF (x : MS) : Int32 × MS := if nN x 13 = 12 then (-5, toldF x (-5)) else (nI (nN x 13), toldF (sI x 13 (nI (nN x 13 + 1))) 0)
def familyX (x : MS) (n : Nat) (t h b : Int32) : MS := sI (sA (sA (sA x 17 (upd (mA x 17) n t)) 18 (upd (mA x 18) n h)) 19 (upd (mA x 19) n b)) 16 (nI (n + 1))
def familyF (x : MS) (t h b : Int32) : Int32 × MS := if isB h 1 12 && isB b 0 255 then (if ixB (mI x 13) t then (if nN x 16 = 40 then (-5, toldF x (-5)) else (nI (nN x 16), toldF (familyX x (nN x 16) t h b) 0)) else (-2, toldF x (-2))) else (-1, toldF x (-1))
def referX (x : MS) (n : Nat) (f a b q : Int32) : MS := sI (sA (sA (sA (sA x 21 (upd (mA x 21) n f)) 22 (upd (mA x 22) n a)) 23 (upd (mA x 23) n b)) 24 (upd (mA x 24) n q)) 20 (nI (n + 1))
def referF (x : MS) (f a b q : Int32) : Int32 × MS := if isB a 0 1000 && isB b a 1000 && isB q 1 20 then (if ixB (mI x 16) f then (if nN x 20 = 100 then (-5, toldF x (-5)) else (nI (nN x 20 + 1), toldF (referX x (nN x 20) f a b q) 0)) else (-2, toldF x (-2))) else (-1, toldF x (-1))
def needF (x : MS) (f k : Int32) : Int32 := if ixB (mI x 16) f && isB k 0 9 then needN x (mA x 18 f.toNatClampNeg) k (nN x 25) else -1
def barB (x : MS) (f k : Int32) : Bool := !decide (mA x 3 k.toNatClampNeg &&& mA x 19 f.toNatClampNeg = 0)
def nextN (x : MS) (kd le : Int32) (k : Nat) : Int32 := itN (fun j a => if mA x 5 j = kd ∧ ¬ mA x 9 j ≤ 0 ∧ ¬ mA x 7 j < le ∧ (a < 0 ∨ ¬ mA x 7 a.toNatClampNeg ≤ mA x 7 j) then nI j else a) (-1) k
theorem nextN_s (x : MS) (kd le : Int32) (k : Nat) : nextN x kd le (k + 1) = if mA x 5 k = kd ∧ ¬ mA x 9 k ≤ 0 ∧ ¬ mA x 7 k < le ∧ (nextN x kd le k < 0 ∨ ¬ mA x 7 (nextN x kd le k).toNatClampNeg ≤ mA x 7 k) then nI k else nextN x kd le k := rfl
theorem nextN_rng (x : MS) (kd le : Int32) : ∀ k : Nat, nextN x kd le k = -1 ∨ ∃ i, i < k ∧ nextN x kd le k = nI i := by
  intro k
  induction k with
  | zero => exact Or.inl rfl
  | succ k ih =>
    simp only [nextN, itN_s]
    split
    · exact Or.inr ⟨k, by omega, rfl⟩
    · rcases ih with h | ⟨i, hi, h⟩
      · exact Or.inl h
      · exact Or.inr ⟨i, by omega, h⟩
def nextF (x : MS) (kd : Int32) : Int32 := nextN x kd (mI x 2 + spareN x kd (nN x 25)) (nN x 4)
def goX (x : MS) (t : Int32) (k : Nat) : MS := sA (sA (sI x 2 t) 12 (fun i => if i < k ∧ ¬ t ≤ mA x 7 i then mA x 12 i + mA x 9 i else mA x 12 i)) 9 (fun i => if i < k ∧ ¬ t ≤ mA x 7 i then 0 else mA x 9 i)
theorem goX_0 (x : MS) (t : Int32) : sI x 2 t = goX x t 0 := by
  refine MS_ext (fun j => ?_) (fun j => rfl) (fun j => ?_) (fun j => rfl)
  · simp [goX, mI_sA, mI_sI]
  · simp only [goX, mA_sA, mA_sI, Nat.not_lt_zero, false_and, if_false]
    split
    · subst_vars; rfl
    · split
      · subst_vars; rfl
      · rfl
theorem goX_keep (x : MS) (t : Int32) (k : Nat) (h : t ≤ mA x 7 k) : goX x t k = goX x t (k + 1) := by
  have e : ∀ i, (i < k ∧ ¬ t ≤ mA x 7 i) = (i < k + 1 ∧ ¬ t ≤ mA x 7 i) := fun i => by
    apply propext
    by_cases hi : i = k
    · subst hi; simp [h]
    · constructor
      · exact fun q => ⟨by omega, q.2⟩
      · exact fun q => ⟨by omega, q.2⟩
  simp only [goX, e]
theorem goX_step (x : MS) (t : Int32) (k : Nat) (h : ¬ t ≤ mA x 7 k) : sA (sA (goX x t k) 12 (upd (mA (goX x t k) 12) k (mA (goX x t k) 12 k + mA (goX x t k) 9 k))) 9 (upd (mA (sA (goX x t k) 12 (upd (mA (goX x t k) 12) k (mA (goX x t k) 12 k + mA (goX x t k) 9 k))) 9) k 0) = goX x t (k + 1) := by
  refine MS_ext (fun j => ?_) (fun j => rfl) (fun j => ?_) (fun j => rfl)
  · simp [goX, mI_sA, mI_sI]
  · simp only [goX, mA_sA, mA_sI]
    by_cases h9 : j = 9
    · subst h9
      simp only [if_true, if_false, reduceIte, Nat.reduceEqDiff]
      funext i
      by_cases hi : i = k
      · subst hi; simp [upd, h]
      · have : (i < k + 1) = (i < k) := propext ⟨fun q => by omega, fun q => by omega⟩
        simp [upd, hi, this]
    · by_cases h12 : j = 12
      · subst h12
        simp only [if_true, if_false, reduceIte, Nat.reduceEqDiff]
        funext i
        by_cases hi : i = k
        · subst hi; simp [upd, h]
        · have : (i < k + 1) = (i < k) := propext ⟨fun q => by omega, fun q => by omega⟩
          simp [upd, hi, this]
      · simp [h9, h12]
def goF (x : MS) (d : Int32) : Int32 × MS := if isB d 1 60 && decide (mI x 2 + d ≤ 500) then (mI x 2 + d, toldF (goX x (mI x 2 + d) (nN x 4)) (mI x 2 + d)) else (-1, toldF x (-1))
def wantF (x : MS) (t k g : Int32) : Int32 × MS := if isB k 0 9 && isB g 0 1000000 then (if ixB (mI x 13) t then (mA x 14 (10 * t + k).toNatClampNeg, toldF (sA x 14 (upd (mA x 14) (10 * t + k).toNatClampNeg g)) (mA x 14 (10 * t + k).toNatClampNeg)) else (-2, toldF x (-2))) else (-1, toldF x (-1))
theorem wI10 (a b : Nat) : (10 : Int32) * nI a + nI b = nI (10 * a + b) := by
  rw [← nI_add, ← pk_mul]; rfl
theorem wI13 (a b : Nat) : (13 : Int32) * nI a + nI b = nI (13 * a + b) := by
  rw [← nI_add, ← pk_mul]; rfl
theorem w_in {x : MS} {t k : Int32} (h : okN x 13 12) (ht : ixB (mI x 13) t = true) (hk : isB k 0 9 = true) : vp_in ((10 : Int32) * t + k) 120 := by
  obtain ⟨a, ha, rfl⟩ := ixB_of h ht (by decide)
  obtain ⟨b, hb, rfl⟩ := isB_nI (h := 9) (n := 10) hk (by decide) (by decide)
  have := h.2
  rw [wI10]
  exact vp_in_nI (by omega) (by decide)
theorem r_in {t k : Int32} (ht : isB t 0 12 = true) (hk : isB k 0 12 = true) : vp_in ((13 : Int32) * t + k) 169 := by
  obtain ⟨a, ha, rfl⟩ := isB_nI (h := 12) (n := 13) ht (by decide) (by decide)
  obtain ⟨b, hb, rfl⟩ := isB_nI (h := 12) (n := 13) hk (by decide) (by decide)
  rw [wI13]
  exact vp_in_nI (by omega) (by decide)
def upN (x : MS) (q : Nat) (lv : Int64) (k : Nat) : Int64 := itN (fun j a => a + if lv ≤ (mA x 14 (10 * j + q)).toInt64 then lv else (mA x 14 (10 * j + q)).toInt64) 0 k
theorem upN_s (x : MS) (q : Nat) (lv : Int64) (k : Nat) : upN x q lv (k + 1) = upN x q lv k + if lv ≤ (mA x 14 (10 * k + q)).toInt64 then lv else (mA x 14 (10 * k + q)).toInt64 := rfl
def gotF (x : MS) (t k : Int32) : Int32 := if ixB (mI x 13) t && isB k 0 9 then (mB x 15 (10 * t + k).toNatClampNeg).toInt32 else -1
def roadX (x : MS) (a b g : Int32) : MS := sA (sA x 42 (upd (mA x 42) (13 * a + b).toNatClampNeg g)) 42 (upd (upd (mA x 42) (13 * a + b).toNatClampNeg g) (13 * b + a).toNatClampNeg g)
def roadF (x : MS) (a b g : Int32) : Int32 × MS := if isB a 0 12 && isB b 0 12 && !decide (a = b) && isB g 0 600 then (0, toldF (roadX x a b g) 0) else (-1, toldF x (-1))
def loadX (x : MS) (t g : Int32) : MS := sA (sI x 44 (mI x 44 + ((if g ≤ 0 then 0 else 1) - (if mA x 43 t.toNatClampNeg ≤ 0 then 0 else 1)))) 43 (upd (mA x 43) t.toNatClampNeg g)
def loadF (x : MS) (t g : Int32) : Int32 × MS := if isB g 0 1000000 then (if ixB (mI x 13) t then (if ¬ g ≤ 0 ∧ mA x 43 t.toNatClampNeg = 0 ∧ mI x 44 = 8 then (-5, toldF x (-5)) else (mI (loadX x t g) 44, toldF (loadX x t g) (mI (loadX x t g) 44))) else (-2, toldF x (-2))) else (-1, toldF x (-1))
def whoOk (x : MS) : Prop := ∀ j, j < 8 → vp_in (mA x 45 j) 12
def whoF (x : MS) (i : Int32) : Int32 := if 0 ≤ i then mA x 45 i.toNatClampNeg else 12
def wayF (x : MS) (i k : Int32) : Int32 := mA x 42 (13 * whoF x i + whoF x k).toNatClampNeg
theorem whoF_in {x : MS} (h : whoOk x) {i : Int32} (hi : i < 0 ∨ vp_in i 8) : vp_in (whoF x i) 13 := by
  unfold whoF
  split
  · rcases hi with hi | hi
    · rename_i h2; exact absurd h2 (Int32.not_le.mpr hi)
    · obtain ⟨j, hj, rfl⟩ := vp_in_of hi (by decide)
      rw [nI_clamp (by omega)]
      have := h j hj
      rw [vp_in_iff] at this ⊢
      omega
  · exact vp_in_nI (n := 12) (by decide) (by decide)
theorem way_in {a b : Int32} (ha : vp_in a 13) (hb : vp_in b 13) : vp_in ((13 : Int32) * a + b) 169 := by
  obtain ⟨i, hi, rfl⟩ := vp_in_of ha (by decide)
  obtain ⟨j, hj, rfl⟩ := vp_in_of hb (by decide)
  rw [wI13]
  exact vp_in_nI (by omega) (by decide)
set_option maxHeartbeats 4000000 in
set_option maxRecDepth 100000 in
theorem c_lot (l : Launch) (D : va_G) (cI cJ : ClassId) (ad : Nat → Nat) (x : MS) (a0 : Int32) (a1 : Int32) (h0 : mI x 0 = 0) (h4 : okN x 4 200) : Mi l yX12_lot wsX12_lot { frames := 2, cells := 0, slots := 0, locals := 46 } D cI cJ ad [.int a0, .int a1] x (fun r y => y = x ∧ r = lotF x a0 a1) := by
  refine Mi_of (cc := cX12_lot) (nL := 3) (ret := (some .int)) (by decide) rfl rfl (Nat.le_of_ble_eq_true rfl) ?_
  intro p e s m args below meth c A hx hb hr hlocks hml hts hown hA hK hP hD hS ls hl
  have hin : ∀ w ∈ wsX120, w ∈ wsX12_lot := fun w h => List.mem_cons_of_mem _ (List.mem_append_right _ h)
  have hl : lv_has ls 3 [(0, .ref (ad 0)), (1, .int a0), (2, .int a1)] := hl
  refine lv_aload_n hx hb dX12_lot_0 rfl (lv_at hl 0 rfl) ?_
  refine lv_iconst (v := 0) hx hb dX12_lot_1 (by decide) ?_
  refine M_put hx hb hts hin hown hK hP hD hS 0 (by decide) rfl rfl (index := 156) (by decide +kernel) (ty := .int) (by decide +kernel) rfl rfl (pI_0 cI cJ ad x _) dX12_lot_2 (fun y2 H locs ey2 hP hD hS => ?_)
  rw [ey2.trans (sI_0 h0)] at hP hD
  refine lv_aload_n hx hb dX12_lot_5 rfl (lv_at hl 0 rfl) ?_
  refine lv_iload_n hx hb dX12_lot_6 rfl (lv_at hl 1 rfl) ?_
  refine M_callr (av := [.int a0]) (rest := []) ⟨hx, hb, hml, hown, hts⟩ hA hK hP hD hS (c_isLot l D cI cJ ad x (a0) ) (cwV 1 hts gX12_lot_X12_isLot rfl rfl rfl (by decide +kernel) ⟨Nat.le_of_ble_eq_true rfl, Nat.le_of_ble_eq_true rfl⟩) rfl hl.1 rfl (Nat.le_of_ble_eq_true rfl) dX12_lot_7 ⟨Nat.le_of_ble_eq_true rfl, Nat.le_of_ble_eq_true rfl⟩ (fun r7 H locs hw7 hP hD hS => ?_)
  refine lv_if_ne (tgt := 15) hx hb dX12_lot_10 (by decide) (fun c10 => ?_) (fun c10 => ?_)
  · skip
    simp only [hw7, bI_0, bI_1, Bool.not_eq_false] at c10
    refine lv_iload_n hx hb dX12_lot_15 rfl (lv_at hl 2 rfl) ?_
    by_cases c16_0 : a1 = 0
    · skip
      refine lv_tableIn (tgt := 64) hx hb dX12_lot_16 (by rw [c16_0]; decide) (by rw [c16_0]; decide) (by rw [c16_0]; rfl) (by decide) ?_
      refine lv_aload_n hx hb dX12_lot_64 rfl (lv_at hl 0 rfl) ?_
      refine M_get hx hb hts hin hown hK hP 5 (by decide) rfl (index := 13) (by decide +kernel) rfl dX12_lot_65 ?_
      refine lv_iload_n hx hb dX12_lot_68 rfl (lv_at hl 1 rfl) ?_
      have h69 : vp_in a0 200 := by exact ixB_le h4 c10 (by decide)
      refine va_iald hx hb hK hP 2 0 rfl rfl h69 dX12_lot_69 ?_
      refine lv_topi (fun v69 ev69 => ?_)
      refine M_iret (v := v69) hx hb hr hlocks hK hP hD hS dX12_lot_70 ?_
      simp [hw7, ev69, lotF, c10, c16_0]
    by_cases c16_1 : a1 = 1
    · skip
      refine lv_tableIn (tgt := 71) hx hb dX12_lot_16 (by rw [c16_1]; decide) (by rw [c16_1]; decide) (by rw [c16_1]; rfl) (by decide) ?_
      refine lv_aload_n hx hb dX12_lot_71 rfl (lv_at hl 0 rfl) ?_
      refine M_get hx hb hts hin hown hK hP 6 (by decide) rfl (index := 16) (by decide +kernel) rfl dX12_lot_72 ?_
      refine lv_iload_n hx hb dX12_lot_75 rfl (lv_at hl 1 rfl) ?_
      have h76 : vp_in a0 200 := by exact ixB_le h4 c10 (by decide)
      refine va_iald hx hb hK hP 3 0 rfl rfl h76 dX12_lot_76 ?_
      refine lv_topi (fun v76 ev76 => ?_)
      refine M_iret (v := v76) hx hb hr hlocks hK hP hD hS dX12_lot_77 ?_
      simp [hw7, ev76, lotF, c10, c16_0, c16_1]
    by_cases c16_2 : a1 = 2
    · skip
      refine lv_tableIn (tgt := 78) hx hb dX12_lot_16 (by rw [c16_2]; decide) (by rw [c16_2]; decide) (by rw [c16_2]; rfl) (by decide) ?_
      refine lv_aload_n hx hb dX12_lot_78 rfl (lv_at hl 0 rfl) ?_
      refine M_get hx hb hts hin hown hK hP 7 (by decide) rfl (index := 19) (by decide +kernel) rfl dX12_lot_79 ?_
      refine lv_iload_n hx hb dX12_lot_82 rfl (lv_at hl 1 rfl) ?_
      have h83 : vp_in a0 200 := by exact ixB_le h4 c10 (by decide)
      refine va_iald hx hb hK hP 4 0 rfl rfl h83 dX12_lot_83 ?_
      refine lv_topi (fun v83 ev83 => ?_)
      refine M_iret (v := v83) hx hb hr hlocks hK hP hD hS dX12_lot_84 ?_
      simp [hw7, ev83, lotF, c10, c16_0, c16_1, c16_2]
    by_cases c16_3 : a1 = 3
    · skip
      refine lv_tableIn (tgt := 85) hx hb dX12_lot_16 (by rw [c16_3]; decide) (by rw [c16_3]; decide) (by rw [c16_3]; rfl) (by decide) ?_
      refine lv_aload_n hx hb dX12_lot_85 rfl (lv_at hl 0 rfl) ?_
      refine M_get hx hb hts hin hown hK hP 8 (by decide) rfl (index := 22) (by decide +kernel) rfl dX12_lot_86 ?_
      refine lv_iload_n hx hb dX12_lot_89 rfl (lv_at hl 1 rfl) ?_
      have h90 : vp_in a0 200 := by exact ixB_le h4 c10 (by decide)
      refine va_iald hx hb hK hP 5 0 rfl rfl h90 dX12_lot_90 ?_
      refine lv_topi (fun v90 ev90 => ?_)
      refine M_iret (v := v90) hx hb hr hlocks hK hP hD hS dX12_lot_91 ?_
      simp [hw7, ev90, lotF, c10, c16_0, c16_1, c16_2, c16_3]
    by_cases c16_4 : a1 = 4
    · skip
      refine lv_tableIn (tgt := 92) hx hb dX12_lot_16 (by rw [c16_4]; decide) (by rw [c16_4]; decide) (by rw [c16_4]; rfl) (by decide) ?_
      refine lv_aload_n hx hb dX12_lot_92 rfl (lv_at hl 0 rfl) ?_
      refine M_get hx hb hts hin hown hK hP 9 (by decide) rfl (index := 25) (by decide +kernel) rfl dX12_lot_93 ?_
      refine lv_iload_n hx hb dX12_lot_96 rfl (lv_at hl 1 rfl) ?_
      have h97 : vp_in a0 200 := by exact ixB_le h4 c10 (by decide)
      refine va_iald hx hb hK hP 6 0 rfl rfl h97 dX12_lot_97 ?_
      refine lv_topi (fun v97 ev97 => ?_)
      refine M_iret (v := v97) hx hb hr hlocks hK hP hD hS dX12_lot_98 ?_
      simp [hw7, ev97, lotF, c10, c16_0, c16_1, c16_2, c16_3, c16_4]
    by_cases c16_5 : a1 = 5
    · skip
      refine lv_tableIn (tgt := 99) hx hb dX12_lot_16 (by rw [c16_5]; decide) (by rw [c16_5]; decide) (by rw [c16_5]; rfl) (by decide) ?_
      refine lv_aload_n hx hb dX12_lot_99 rfl (lv_at hl 0 rfl) ?_
      refine M_get hx hb hts hin hown hK hP 10 (by decide) rfl (index := 28) (by decide +kernel) rfl dX12_lot_100 ?_
      refine lv_iload_n hx hb dX12_lot_103 rfl (lv_at hl 1 rfl) ?_
      have h104 : vp_in a0 200 := by exact ixB_le h4 c10 (by decide)
      refine va_iald hx hb hK hP 7 0 rfl rfl h104 dX12_lot_104 ?_
      refine lv_topi (fun v104 ev104 => ?_)
      refine M_iret (v := v104) hx hb hr hlocks hK hP hD hS dX12_lot_105 ?_
      simp [hw7, ev104, lotF, c10, c16_0, c16_1, c16_2, c16_3, c16_4, c16_5]
    by_cases c16_6 : a1 = 6
    · skip
      refine lv_tableIn (tgt := 106) hx hb dX12_lot_16 (by rw [c16_6]; decide) (by rw [c16_6]; decide) (by rw [c16_6]; rfl) (by decide) ?_
      refine lv_aload_n hx hb dX12_lot_106 rfl (lv_at hl 0 rfl) ?_
      refine M_get hx hb hts hin hown hK hP 11 (by decide) rfl (index := 31) (by decide +kernel) rfl dX12_lot_107 ?_
      refine lv_iload_n hx hb dX12_lot_110 rfl (lv_at hl 1 rfl) ?_
      have h111 : vp_in a0 200 := by exact ixB_le h4 c10 (by decide)
      refine va_iald hx hb hK hP 8 0 rfl rfl h111 dX12_lot_111 ?_
      refine lv_topi (fun v111 ev111 => ?_)
      refine M_iret (v := v111) hx hb hr hlocks hK hP hD hS dX12_lot_112 ?_
      simp [hw7, ev111, lotF, c10, c16_0, c16_1, c16_2, c16_3, c16_4, c16_5, c16_6]
    by_cases c16_7 : a1 = 7
    · skip
      refine lv_tableIn (tgt := 113) hx hb dX12_lot_16 (by rw [c16_7]; decide) (by rw [c16_7]; decide) (by rw [c16_7]; rfl) (by decide) ?_
      refine lv_aload_n hx hb dX12_lot_113 rfl (lv_at hl 0 rfl) ?_
      refine M_get hx hb hts hin hown hK hP 12 (by decide) rfl (index := 34) (by decide +kernel) rfl dX12_lot_114 ?_
      refine lv_iload_n hx hb dX12_lot_117 rfl (lv_at hl 1 rfl) ?_
      have h118 : vp_in a0 200 := by exact ixB_le h4 c10 (by decide)
      refine va_iald hx hb hK hP 9 0 rfl rfl h118 dX12_lot_118 ?_
      refine lv_topi (fun v118 ev118 => ?_)
      refine M_iret (v := v118) hx hb hr hlocks hK hP hD hS dX12_lot_119 ?_
      simp [hw7, ev118, lotF, c10, c16_0, c16_1, c16_2, c16_3, c16_4, c16_5, c16_6, c16_7]
    refine lv_tableOut (tgt := 120) hx hb dX12_lot_16 ?_ (by decide) ?_
    · refine sw_out (0) (7) a1 (by decide) (fun k h1 h2 => ?_)
      have h3 : k = 0 ∨ k = 1 ∨ k = 2 ∨ k = 3 ∨ k = 4 ∨ k = 5 ∨ k = 6 ∨ k = 7 := by omega
      rcases h3 with rfl | rfl | rfl | rfl | rfl | rfl | rfl | rfl <;> first | exact c16_0 | exact c16_1 | exact c16_2 | exact c16_3 | exact c16_4 | exact c16_5 | exact c16_6 | exact c16_7
    refine lv_iconst (v := -1) hx hb dX12_lot_120 (by decide) ?_
    refine M_iret (v := (-1 : Int32)) hx hb hr hlocks hK hP hD hS dX12_lot_121 ?_
    simp [hw7, lotF, c10, c16_0, c16_1, c16_2, c16_3, c16_4, c16_5, c16_6, c16_7]
  · skip
    simp only [hw7, bI_0, bI_1, Bool.not_eq_false] at c10
    refine lv_iconst (v := -1) hx hb dX12_lot_13 (by decide) ?_
    refine M_iret (v := (-1 : Int32)) hx hb hr hlocks hK hP hD hS dX12_lot_14 ?_
    simp [hw7, lotF, c10]

set_option maxHeartbeats 4000000 in
set_option maxRecDepth 100000 in
theorem c_table (l : Launch) (D : va_G) (cI cJ : ClassId) (ad : Nat → Nat) (x : MS)  (h0 : mI x 0 = 0) (h13 : okN x 13 12) : Mi l yX12_table wsX12_table { frames := 1, cells := 0, slots := 0, locals := 21 } D cI cJ ad [] x (fun r y => r = (tableF x).1 ∧ y = (tableF x).2) := by
  have h1 := h13.1
  have h2 := h13.2
  refine Mi_of (cc := cX12_table) (nL := 1) (ret := (some .int)) (by decide) rfl rfl (Nat.le_of_ble_eq_true rfl) ?_
  intro p e s m args below meth c A hx hb hr hlocks hml hts hown hA hK hP hD hS ls hl
  have hin : ∀ w ∈ wsX120, w ∈ wsX12_table := fun w h => List.mem_cons_of_mem _ (List.mem_append_right _ h)
  have hl : lv_has ls 1 [(0, .ref (ad 0))] := hl
  refine lv_aload_n hx hb dX12_table_0 rfl (lv_at hl 0 rfl) ?_
  refine lv_iconst (v := 0) hx hb dX12_table_1 (by decide) ?_
  refine M_put hx hb hts hin hown hK hP hD hS 0 (by decide) rfl rfl (index := 156) (by decide +kernel) (ty := .int) (by decide +kernel) rfl rfl (pI_0 cI cJ ad x _) dX12_table_2 (fun y2 H locs ey2 hP hD hS => ?_)
  rw [ey2.trans (sI_0 h0)] at hP hD
  refine lv_aload_n hx hb dX12_table_5 rfl (lv_at hl 0 rfl) ?_
  refine M_get hx hb hts hin hown hK hP 13 (by decide) rfl (index := 171) (by decide +kernel) rfl dX12_table_6 ?_
  refine lv_topi (fun v6 ev6 => ?_)
  refine lv_bipush (v := 12) hx hb dX12_table_9 (by decide) ?_
  refine lv_icmp_ne (tgt := 21) hx hb dX12_table_11 (by decide) (fun c11 => ?_) (fun c11 => ?_)
  · skip
    simp only [ev6] at c11
    have hN : nN x 13 < 12 := by rw [h1] at c11; exact nIne h2 (by decide) rfl c11
    refine lv_aload_n hx hb dX12_table_21 rfl (lv_at hl 0 rfl) ?_
    refine lv_dup hx hb dX12_table_22 rfl ?_
    refine M_get hx hb hts hin hown hK hP 13 (by decide) rfl (index := 171) (by decide +kernel) rfl dX12_table_23 ?_
    refine lv_topi (fun v23 ev23 => ?_)
    refine lv_iconst (v := 1) hx hb dX12_table_26 (by decide) ?_
    refine lv_iadd hx hb dX12_table_27 ?_
    refine M_put hx hb hts hin hown hK hP hD hS 13 (by decide) rfl rfl (index := 171) (by decide +kernel) (ty := .int) (by decide +kernel) rfl rfl (pI_13 cI cJ ad x _) dX12_table_28 (fun y28 H locs ey28 hP hD hS => ?_)
    refine lv_aload_n hx hb dX12_table_31 rfl (lv_at hl 0 rfl) ?_
    refine lv_aload_n hx hb dX12_table_32 rfl (lv_at hl 0 rfl) ?_
    refine M_get hx hb hts hin hown hK hP 13 (by decide) rfl (index := 171) (by decide +kernel) rfl dX12_table_33 ?_
    refine lv_topi (fun v33 ev33 => ?_)
    refine lv_iconst (v := 1) hx hb dX12_table_36 (by decide) ?_
    refine lv_isub hx hb dX12_table_37 ?_
    refine M_calli (av := [.int (v33 - (1 : Int32))]) (rest := []) ⟨hx, hb, hml, hown, hts⟩ hA hK hP hD hS (c_told l D cI cJ ad y28 ((v33 - (1 : Int32))) ) (cwV 1 hts gX12_table_X12_told rfl rfl rfl (by decide +kernel) ⟨Nat.le_of_ble_eq_true rfl, Nat.le_of_ble_eq_true rfl⟩) rfl hl.1 rfl (Nat.le_of_ble_eq_true rfl) dX12_table_38 ⟨Nat.le_of_ble_eq_true rfl, Nat.le_of_ble_eq_true rfl⟩ (fun r38 y38 H locs hw38 hP hD hS => ?_)
    obtain ⟨er38, ey38⟩ := hw38
    refine M_iret (v := r38) hx hb hr hlocks hK hP hD hS dX12_table_41 ?_
    have e1 : r38 = nI (nN x 13) := by simp [ev6, ev23, ey28, ev33, er38, ey38, mI_sA, mI_sI, h1, nI_1, nI_pred]
    rw [← er38, e1, toldF_nI _ (by omega)] at ey38
    rw [ey38, e1]
    simp [tableF, ev6, ev23, ey28, ev33, er38, ey38, mI_sI, mI_sA, mI_sL, mI_sB, mL_sI, mL_sA, mL_sL, mL_sB, mA_sI, mA_sA, mA_sL, mA_sB, mB_sI, mB_sA, mB_sL, mB_sB, h1, nI_1, Nat.ne_of_lt hN]
  · skip
    simp only [ev6] at c11
    have hN : nN x 13 = 12 := by rw [h1] at c11; exact (nI_eq (by omega) (by omega)).mp c11
    refine lv_aload_n hx hb dX12_table_14 rfl (lv_at hl 0 rfl) ?_
    refine lv_bipush (v := -5) hx hb dX12_table_15 (by decide) ?_
    refine M_calli (av := [.int (-5 : Int32)]) (rest := []) ⟨hx, hb, hml, hown, hts⟩ hA hK hP hD hS (c_told l D cI cJ ad x ((-5 : Int32)) ) (cwV 1 hts gX12_table_X12_told rfl rfl rfl (by decide +kernel) ⟨Nat.le_of_ble_eq_true rfl, Nat.le_of_ble_eq_true rfl⟩) rfl hl.1 rfl (Nat.le_of_ble_eq_true rfl) dX12_table_17 ⟨Nat.le_of_ble_eq_true rfl, Nat.le_of_ble_eq_true rfl⟩ (fun r17 y17 H locs hw17 hP hD hS => ?_)
    obtain ⟨er17, ey17⟩ := hw17
    refine M_iret (v := r17) hx hb hr hlocks hK hP hD hS dX12_table_20 ?_
    simp only [ev6, er17, ey17, tableF, hN, not_true_eq_false, not_false_eq_true, and_true, true_and, and_false, false_and, and_self, if_true, if_false, ite_true, ite_false, ↓reduceIte, Int32.add_zero, Bool.not_eq_false, Bool.and_true, Bool.true_and, Bool.and_false, Bool.false_and, Bool.false_eq_true]

set_option maxHeartbeats 4000000 in
set_option maxRecDepth 100000 in
theorem c_family (l : Launch) (D : va_G) (cI cJ : ClassId) (ad : Nat → Nat) (x : MS) (a0 : Int32) (a1 : Int32) (a2 : Int32) (h0 : mI x 0 = 0) (h13 : okN x 13 12) (h16 : okN x 16 40) : Mi l yX12_family wsX12_family { frames := 2, cells := 0, slots := 0, locals := 46 } D cI cJ ad [.int a0, .int a1, .int a2] x (fun r y => r = (familyF x a0 a1 a2).1 ∧ y = (familyF x a0 a1 a2).2) := by
  have h1 := h16.1
  have h2 := h16.2
  refine Mi_of (cc := cX12_family) (nL := 4) (ret := (some .int)) (by decide) rfl rfl (Nat.le_of_ble_eq_true rfl) ?_
  intro p e s m args below meth c A hx hb hr hlocks hml hts hown hA hK hP hD hS ls hl
  have hin : ∀ w ∈ wsX120, w ∈ wsX12_family := fun w h => List.mem_cons_of_mem _ (List.mem_append_right _ h)
  have hl : lv_has ls 4 [(0, .ref (ad 0)), (1, .int a0), (2, .int a1), (3, .int a2)] := hl
  refine lv_aload_n hx hb dX12_family_0 rfl (lv_at hl 0 rfl) ?_
  refine lv_iconst (v := 0) hx hb dX12_family_1 (by decide) ?_
  refine M_put hx hb hts hin hown hK hP hD hS 0 (by decide) rfl rfl (index := 156) (by decide +kernel) (ty := .int) (by decide +kernel) rfl rfl (pI_0 cI cJ ad x _) dX12_family_2 (fun y2 H locs ey2 hP hD hS => ?_)
  rw [ey2.trans (sI_0 h0)] at hP hD
  refine lv_iload_n hx hb dX12_family_5 rfl (lv_at hl 2 rfl) ?_
  refine lv_i2l hx hb dX12_family_6 rfl ?_
  refine lv_lconst (v := 1) hx hb dX12_family_7 (by decide) ?_
  refine lv_ldc2 (v := 12) hx hb hown (hts (.constantLong RX12 199 (12)) (by decide +kernel)) dX12_family_8 ?_
  refine S_calli (av := [.long a1.toInt64, .long (1 : Int64), .long (12 : Int64)]) (rest := []) ⟨hx, hb, hml, hown, hts⟩ (c_in l (a1.toInt64) ((1 : Int64)) ((12 : Int64)) ) (va_cwS 3 hts gX12_family_X12_in rfl rfl rfl (by decide +kernel) ⟨Nat.le_of_ble_eq_true rfl, Nat.le_of_ble_eq_true rfl⟩) rfl hl.1 rfl (Nat.le_of_ble_eq_true rfl) dX12_family_11 ⟨Nat.le_of_ble_eq_true rfl, Nat.le_of_ble_eq_true rfl⟩ (fun r11 hw11 => ?_)
  rw [show inL a1.toInt64 (1) 12 = isB a1 1 12 from inL_i a1 1 12] at hw11
  refine lv_if_eq (tgt := 29) hx hb dX12_family_14 (by decide) (fun c14 => ?_) (fun c14 => ?_)
  · skip
    simp only [hw11, bI_0, bI_1, Bool.not_eq_false] at c14
    refine lv_aload_n hx hb dX12_family_29 rfl (lv_at hl 0 rfl) ?_
    refine lv_iconst (v := -1) hx hb dX12_family_30 (by decide) ?_
    refine M_calli (av := [.int (-1 : Int32)]) (rest := []) ⟨hx, hb, hml, hown, hts⟩ hA hK hP hD hS (c_told l D cI cJ ad x ((-1 : Int32)) ) (cwV 1 hts gX12_family_X12_told rfl rfl rfl (by decide +kernel) ⟨Nat.le_of_ble_eq_true rfl, Nat.le_of_ble_eq_true rfl⟩) rfl hl.1 rfl (Nat.le_of_ble_eq_true rfl) dX12_family_31 ⟨Nat.le_of_ble_eq_true rfl, Nat.le_of_ble_eq_true rfl⟩ (fun r31 y31 H locs hw31 hP hD hS => ?_)
    obtain ⟨er31, ey31⟩ := hw31
    refine M_iret (v := r31) hx hb hr hlocks hK hP hD hS dX12_family_34 ?_
    simp only [hw11, er31, ey31, familyF, c14, not_true_eq_false, not_false_eq_true, and_true, true_and, and_false, false_and, and_self, if_true, if_false, ite_true, ite_false, ↓reduceIte, Int32.add_zero, Bool.not_eq_false, Bool.and_true, Bool.true_and, Bool.and_false, Bool.false_and, Bool.false_eq_true]
  · skip
    simp only [hw11, bI_0, bI_1, Bool.not_eq_false] at c14
    refine lv_iload_n hx hb dX12_family_17 rfl (lv_at hl 3 rfl) ?_
    refine lv_i2l hx hb dX12_family_18 rfl ?_
    refine lv_lconst (v := 0) hx hb dX12_family_19 (by decide) ?_
    refine lv_ldc2 (v := 255) hx hb hown (hts (.constantLong RX12 181 (255)) (by decide +kernel)) dX12_family_20 ?_
    refine S_calli (av := [.long a2.toInt64, .long (0 : Int64), .long (255 : Int64)]) (rest := []) ⟨hx, hb, hml, hown, hts⟩ (c_in l (a2.toInt64) ((0 : Int64)) ((255 : Int64)) ) (va_cwS 3 hts gX12_family_X12_in rfl rfl rfl (by decide +kernel) ⟨Nat.le_of_ble_eq_true rfl, Nat.le_of_ble_eq_true rfl⟩) rfl hl.1 rfl (Nat.le_of_ble_eq_true rfl) dX12_family_23 ⟨Nat.le_of_ble_eq_true rfl, Nat.le_of_ble_eq_true rfl⟩ (fun r23 hw23 => ?_)
    rw [show inL a2.toInt64 (0) 255 = isB a2 0 255 from inL_i a2 0 255] at hw23
    refine lv_if_ne (tgt := 35) hx hb dX12_family_26 (by decide) (fun c26 => ?_) (fun c26 => ?_)
    · skip
      simp only [hw23, bI_0, bI_1, Bool.not_eq_false] at c26
      refine lv_aload_n hx hb dX12_family_35 rfl (lv_at hl 0 rfl) ?_
      refine lv_iload_n hx hb dX12_family_36 rfl (lv_at hl 1 rfl) ?_
      refine M_callr (av := [.int a0]) (rest := []) ⟨hx, hb, hml, hown, hts⟩ hA hK hP hD hS (c_isTable l D cI cJ ad x (a0) ) (cwV 1 hts gX12_family_X12_isTable rfl rfl rfl (by decide +kernel) ⟨Nat.le_of_ble_eq_true rfl, Nat.le_of_ble_eq_true rfl⟩) rfl hl.1 rfl (Nat.le_of_ble_eq_true rfl) dX12_family_37 ⟨Nat.le_of_ble_eq_true rfl, Nat.le_of_ble_eq_true rfl⟩ (fun r37 H locs hw37 hP hD hS => ?_)
      refine lv_if_ne (tgt := 50) hx hb dX12_family_40 (by decide) (fun c40 => ?_) (fun c40 => ?_)
      · skip
        simp only [hw37, bI_0, bI_1, Bool.not_eq_false] at c40
        refine lv_aload_n hx hb dX12_family_50 rfl (lv_at hl 0 rfl) ?_
        refine M_get hx hb hts hin hown hK hP 16 (by decide) rfl (index := 174) (by decide +kernel) rfl dX12_family_51 ?_
        refine lv_topi (fun v51 ev51 => ?_)
        refine lv_bipush (v := 40) hx hb dX12_family_54 (by decide) ?_
        refine lv_icmp_ne (tgt := 66) hx hb dX12_family_56 (by decide) (fun c56 => ?_) (fun c56 => ?_)
        · skip
          simp only [ev51] at c56
          have hN : nN x 16 < 40 := by rw [h1] at c56; exact nIne h2 (by decide) rfl c56
          refine lv_aload_n hx hb dX12_family_66 rfl (lv_at hl 0 rfl) ?_
          refine M_get hx hb hts hin hown hK hP 17 (by decide) rfl (index := 44) (by decide +kernel) rfl dX12_family_67 ?_
          refine lv_aload_n hx hb dX12_family_70 rfl (lv_at hl 0 rfl) ?_
          refine M_get hx hb hts hin hown hK hP 16 (by decide) rfl (index := 174) (by decide +kernel) rfl dX12_family_71 ?_
          refine lv_topi (fun v71 ev71 => ?_)
          refine lv_iload_n hx hb dX12_family_74 rfl (lv_at hl 1 rfl) ?_
          have h75 : vp_in v71 40 := by simp only [hw11, hw23, hw37, ev51, ev71, mI_sA, h1]; exact vp_in_nI hN (by decide)
          refine M_iast hx hb hK hP hD hS 12 rfl h75 (pA_17 cI cJ ad x _) dX12_family_75 (fun y75 H locs ey75 hP hD hS => ?_)
          refine lv_aload_n hx hb dX12_family_76 rfl (lv_at hl 0 rfl) ?_
          refine M_get hx hb hts hin hown hK hP 18 (by decide) rfl (index := 47) (by decide +kernel) rfl dX12_family_77 ?_
          refine lv_aload_n hx hb dX12_family_80 rfl (lv_at hl 0 rfl) ?_
          refine M_get hx hb hts hin hown hK hP 16 (by decide) rfl (index := 174) (by decide +kernel) rfl dX12_family_81 ?_
          refine lv_topi (fun v81 ev81 => ?_)
          refine lv_iload_n hx hb dX12_family_84 rfl (lv_at hl 2 rfl) ?_
          have h85 : vp_in v81 40 := by simp only [hw11, hw23, hw37, ev51, ev71, ey75, ev81, mI_sA, h1]; exact vp_in_nI hN (by decide)
          refine M_iast hx hb hK hP hD hS 13 rfl h85 (pA_18 cI cJ ad y75 _) dX12_family_85 (fun y85 H locs ey85 hP hD hS => ?_)
          refine lv_aload_n hx hb dX12_family_86 rfl (lv_at hl 0 rfl) ?_
          refine M_get hx hb hts hin hown hK hP 19 (by decide) rfl (index := 50) (by decide +kernel) rfl dX12_family_87 ?_
          refine lv_aload_n hx hb dX12_family_90 rfl (lv_at hl 0 rfl) ?_
          refine M_get hx hb hts hin hown hK hP 16 (by decide) rfl (index := 174) (by decide +kernel) rfl dX12_family_91 ?_
          refine lv_topi (fun v91 ev91 => ?_)
          refine lv_iload_n hx hb dX12_family_94 rfl (lv_at hl 3 rfl) ?_
          have h95 : vp_in v91 40 := by simp only [hw11, hw23, hw37, ev51, ev71, ey75, ev81, ey85, ev91, mI_sA, h1]; exact vp_in_nI hN (by decide)
          refine M_iast hx hb hK hP hD hS 14 rfl h95 (pA_19 cI cJ ad y85 _) dX12_family_95 (fun y95 H locs ey95 hP hD hS => ?_)
          refine lv_aload_n hx hb dX12_family_96 rfl (lv_at hl 0 rfl) ?_
          refine lv_dup hx hb dX12_family_97 rfl ?_
          refine M_get hx hb hts hin hown hK hP 16 (by decide) rfl (index := 174) (by decide +kernel) rfl dX12_family_98 ?_
          refine lv_topi (fun v98 ev98 => ?_)
          refine lv_iconst (v := 1) hx hb dX12_family_101 (by decide) ?_
          refine lv_iadd hx hb dX12_family_102 ?_
          refine M_put hx hb hts hin hown hK hP hD hS 16 (by decide) rfl rfl (index := 174) (by decide +kernel) (ty := .int) (by decide +kernel) rfl rfl (pI_16 cI cJ ad y95 _) dX12_family_103 (fun y103 H locs ey103 hP hD hS => ?_)
          refine lv_aload_n hx hb dX12_family_106 rfl (lv_at hl 0 rfl) ?_
          refine lv_aload_n hx hb dX12_family_107 rfl (lv_at hl 0 rfl) ?_
          refine M_get hx hb hts hin hown hK hP 16 (by decide) rfl (index := 174) (by decide +kernel) rfl dX12_family_108 ?_
          refine lv_topi (fun v108 ev108 => ?_)
          refine lv_iconst (v := 1) hx hb dX12_family_111 (by decide) ?_
          refine lv_isub hx hb dX12_family_112 ?_
          refine M_calli (av := [.int (v108 - (1 : Int32))]) (rest := []) ⟨hx, hb, hml, hown, hts⟩ hA hK hP hD hS (c_told l D cI cJ ad y103 ((v108 - (1 : Int32))) ) (cwV 1 hts gX12_family_X12_told rfl rfl rfl (by decide +kernel) ⟨Nat.le_of_ble_eq_true rfl, Nat.le_of_ble_eq_true rfl⟩) rfl hl.1 rfl (Nat.le_of_ble_eq_true rfl) dX12_family_113 ⟨Nat.le_of_ble_eq_true rfl, Nat.le_of_ble_eq_true rfl⟩ (fun r113 y113 H locs hw113 hP hD hS => ?_)
          obtain ⟨er113, ey113⟩ := hw113
          refine M_iret (v := r113) hx hb hr hlocks hK hP hD hS dX12_family_116 ?_
          have hcl : (nI (nN x 16)).toNatClampNeg = nN x 16 := nI_clamp (by omega)
          have e1 : r113 = nI (nN x 16) := by simp [hw11, hw23, hw37, ev51, ev71, ey75, ev81, ey85, ev91, ey95, ev98, ey103, ev108, er113, ey113, mI_sA, mI_sI, h1, nI_1, nI_pred]
          rw [← er113, e1, toldF_nI _ (by omega)] at ey113
          rw [ey113, e1]
          simp [familyF, familyX, hw11, hw23, hw37, ev51, ev71, ey75, ev81, ey85, ev91, ey95, ev98, ey103, ev108, er113, ey113, mI_sI, mI_sA, mI_sL, mI_sB, mL_sI, mL_sA, mL_sL, mL_sB, mA_sI, mA_sA, mA_sL, mA_sB, mB_sI, mB_sA, mB_sL, mB_sB, h1, hcl, nI_1, c14, c26, c40, c56, Nat.ne_of_lt hN]
        · skip
          simp only [ev51] at c56
          have hN : nN x 16 = 40 := by rw [h1] at c56; exact (nI_eq (by omega) (by omega)).mp c56
          refine lv_aload_n hx hb dX12_family_59 rfl (lv_at hl 0 rfl) ?_
          refine lv_bipush (v := -5) hx hb dX12_family_60 (by decide) ?_
          refine M_calli (av := [.int (-5 : Int32)]) (rest := []) ⟨hx, hb, hml, hown, hts⟩ hA hK hP hD hS (c_told l D cI cJ ad x ((-5 : Int32)) ) (cwV 1 hts gX12_family_X12_told rfl rfl rfl (by decide +kernel) ⟨Nat.le_of_ble_eq_true rfl, Nat.le_of_ble_eq_true rfl⟩) rfl hl.1 rfl (Nat.le_of_ble_eq_true rfl) dX12_family_62 ⟨Nat.le_of_ble_eq_true rfl, Nat.le_of_ble_eq_true rfl⟩ (fun r62 y62 H locs hw62 hP hD hS => ?_)
          obtain ⟨er62, ey62⟩ := hw62
          refine M_iret (v := r62) hx hb hr hlocks hK hP hD hS dX12_family_65 ?_
          simp only [hw11, hw23, hw37, ev51, er62, ey62, familyF, c14, c26, c40, c56, not_true_eq_false, not_false_eq_true, and_true, true_and, and_false, false_and, and_self, if_true, if_false, ite_true, ite_false, ↓reduceIte, Int32.add_zero, Bool.not_eq_false, Bool.and_true, Bool.true_and, Bool.and_false, Bool.false_and, Bool.false_eq_true, hN]
      · skip
        simp only [hw37, bI_0, bI_1, Bool.not_eq_false] at c40
        refine lv_aload_n hx hb dX12_family_43 rfl (lv_at hl 0 rfl) ?_
        refine lv_bipush (v := -2) hx hb dX12_family_44 (by decide) ?_
        refine M_calli (av := [.int (-2 : Int32)]) (rest := []) ⟨hx, hb, hml, hown, hts⟩ hA hK hP hD hS (c_told l D cI cJ ad x ((-2 : Int32)) ) (cwV 1 hts gX12_family_X12_told rfl rfl rfl (by decide +kernel) ⟨Nat.le_of_ble_eq_true rfl, Nat.le_of_ble_eq_true rfl⟩) rfl hl.1 rfl (Nat.le_of_ble_eq_true rfl) dX12_family_46 ⟨Nat.le_of_ble_eq_true rfl, Nat.le_of_ble_eq_true rfl⟩ (fun r46 y46 H locs hw46 hP hD hS => ?_)
        obtain ⟨er46, ey46⟩ := hw46
        refine M_iret (v := r46) hx hb hr hlocks hK hP hD hS dX12_family_49 ?_
        simp only [hw11, hw23, hw37, er46, ey46, familyF, c14, c26, c40, not_true_eq_false, not_false_eq_true, and_true, true_and, and_false, false_and, and_self, if_true, if_false, ite_true, ite_false, ↓reduceIte, Int32.add_zero, Bool.not_eq_false, Bool.and_true, Bool.true_and, Bool.and_false, Bool.false_and, Bool.false_eq_true]
    · skip
      simp only [hw23, bI_0, bI_1, Bool.not_eq_false] at c26
      refine lv_aload_n hx hb dX12_family_29 rfl (lv_at hl 0 rfl) ?_
      refine lv_iconst (v := -1) hx hb dX12_family_30 (by decide) ?_
      refine M_calli (av := [.int (-1 : Int32)]) (rest := []) ⟨hx, hb, hml, hown, hts⟩ hA hK hP hD hS (c_told l D cI cJ ad x ((-1 : Int32)) ) (cwV 1 hts gX12_family_X12_told rfl rfl rfl (by decide +kernel) ⟨Nat.le_of_ble_eq_true rfl, Nat.le_of_ble_eq_true rfl⟩) rfl hl.1 rfl (Nat.le_of_ble_eq_true rfl) dX12_family_31 ⟨Nat.le_of_ble_eq_true rfl, Nat.le_of_ble_eq_true rfl⟩ (fun r31 y31 H locs hw31 hP hD hS => ?_)
      obtain ⟨er31, ey31⟩ := hw31
      refine M_iret (v := r31) hx hb hr hlocks hK hP hD hS dX12_family_34 ?_
      simp only [hw11, hw23, er31, ey31, familyF, c14, c26, not_true_eq_false, not_false_eq_true, and_true, true_and, and_false, false_and, and_self, if_true, if_false, ite_true, ite_false, ↓reduceIte, Int32.add_zero, Bool.not_eq_false, Bool.and_true, Bool.true_and, Bool.and_false, Bool.false_and, Bool.false_eq_true]

set_option maxHeartbeats 4000000 in
set_option maxRecDepth 100000 in
theorem c_refer (l : Launch) (D : va_G) (cI cJ : ClassId) (ad : Nat → Nat) (x : MS) (a0 : Int32) (a1 : Int32) (a2 : Int32) (a3 : Int32) (h0 : mI x 0 = 0) (h16 : okN x 16 40) (h20 : okN x 20 100) : Mi l yX12_refer wsX12_refer { frames := 2, cells := 0, slots := 0, locals := 46 } D cI cJ ad [.int a0, .int a1, .int a2, .int a3] x (fun r y => r = (referF x a0 a1 a2 a3).1 ∧ y = (referF x a0 a1 a2 a3).2) := by
  have h1 := h20.1
  have h2 := h20.2
  refine Mi_of (cc := cX12_refer) (nL := 5) (ret := (some .int)) (by decide) rfl rfl (Nat.le_of_ble_eq_true rfl) ?_
  intro p e s m args below meth c A hx hb hr hlocks hml hts hown hA hK hP hD hS ls hl
  have hin : ∀ w ∈ wsX120, w ∈ wsX12_refer := fun w h => List.mem_cons_of_mem _ (List.mem_append_right _ h)
  have hl : lv_has ls 5 [(0, .ref (ad 0)), (1, .int a0), (2, .int a1), (3, .int a2), (4, .int a3)] := hl
  refine lv_aload_n hx hb dX12_refer_0 rfl (lv_at hl 0 rfl) ?_
  refine lv_iconst (v := 0) hx hb dX12_refer_1 (by decide) ?_
  refine M_put hx hb hts hin hown hK hP hD hS 0 (by decide) rfl rfl (index := 156) (by decide +kernel) (ty := .int) (by decide +kernel) rfl rfl (pI_0 cI cJ ad x _) dX12_refer_2 (fun y2 H locs ey2 hP hD hS => ?_)
  rw [ey2.trans (sI_0 h0)] at hP hD
  refine lv_iload_n hx hb dX12_refer_5 rfl (lv_at hl 2 rfl) ?_
  refine lv_i2l hx hb dX12_refer_6 rfl ?_
  refine lv_lconst (v := 0) hx hb dX12_refer_7 (by decide) ?_
  refine lv_ldc2 (v := 1000) hx hb hown (hts (.constantLong RX12 192 (1000)) (by decide +kernel)) dX12_refer_8 ?_
  refine S_calli (av := [.long a1.toInt64, .long (0 : Int64), .long (1000 : Int64)]) (rest := []) ⟨hx, hb, hml, hown, hts⟩ (c_in l (a1.toInt64) ((0 : Int64)) ((1000 : Int64)) ) (va_cwS 3 hts gX12_refer_X12_in rfl rfl rfl (by decide +kernel) ⟨Nat.le_of_ble_eq_true rfl, Nat.le_of_ble_eq_true rfl⟩) rfl hl.1 rfl (Nat.le_of_ble_eq_true rfl) dX12_refer_11 ⟨Nat.le_of_ble_eq_true rfl, Nat.le_of_ble_eq_true rfl⟩ (fun r11 hw11 => ?_)
  rw [show inL a1.toInt64 (0) 1000 = isB a1 0 1000 from inL_i a1 0 1000] at hw11
  refine lv_if_eq (tgt := 43) hx hb dX12_refer_14 (by decide) (fun c14 => ?_) (fun c14 => ?_)
  · skip
    simp only [hw11, bI_0, bI_1, Bool.not_eq_false] at c14
    refine lv_aload_n hx hb dX12_refer_43 rfl (lv_at hl 0 rfl) ?_
    refine lv_iconst (v := -1) hx hb dX12_refer_44 (by decide) ?_
    refine M_calli (av := [.int (-1 : Int32)]) (rest := []) ⟨hx, hb, hml, hown, hts⟩ hA hK hP hD hS (c_told l D cI cJ ad x ((-1 : Int32)) ) (cwV 1 hts gX12_refer_X12_told rfl rfl rfl (by decide +kernel) ⟨Nat.le_of_ble_eq_true rfl, Nat.le_of_ble_eq_true rfl⟩) rfl hl.1 rfl (Nat.le_of_ble_eq_true rfl) dX12_refer_45 ⟨Nat.le_of_ble_eq_true rfl, Nat.le_of_ble_eq_true rfl⟩ (fun r45 y45 H locs hw45 hP hD hS => ?_)
    obtain ⟨er45, ey45⟩ := hw45
    refine M_iret (v := r45) hx hb hr hlocks hK hP hD hS dX12_refer_48 ?_
    simp only [hw11, er45, ey45, referF, c14, not_true_eq_false, not_false_eq_true, and_true, true_and, and_false, false_and, and_self, if_true, if_false, ite_true, ite_false, ↓reduceIte, Int32.add_zero, Bool.not_eq_false, Bool.and_true, Bool.true_and, Bool.and_false, Bool.false_and, Bool.false_eq_true]
  · skip
    simp only [hw11, bI_0, bI_1, Bool.not_eq_false] at c14
    refine lv_iload_n hx hb dX12_refer_17 rfl (lv_at hl 3 rfl) ?_
    refine lv_i2l hx hb dX12_refer_18 rfl ?_
    refine lv_iload_n hx hb dX12_refer_19 rfl (lv_at hl 2 rfl) ?_
    refine lv_i2l hx hb dX12_refer_20 rfl ?_
    refine lv_ldc2 (v := 1000) hx hb hown (hts (.constantLong RX12 192 (1000)) (by decide +kernel)) dX12_refer_21 ?_
    refine S_calli (av := [.long a2.toInt64, .long a1.toInt64, .long (1000 : Int64)]) (rest := []) ⟨hx, hb, hml, hown, hts⟩ (c_in l (a2.toInt64) (a1.toInt64) ((1000 : Int64)) ) (va_cwS 3 hts gX12_refer_X12_in rfl rfl rfl (by decide +kernel) ⟨Nat.le_of_ble_eq_true rfl, Nat.le_of_ble_eq_true rfl⟩) rfl hl.1 rfl (Nat.le_of_ble_eq_true rfl) dX12_refer_24 ⟨Nat.le_of_ble_eq_true rfl, Nat.le_of_ble_eq_true rfl⟩ (fun r24 hw24 => ?_)
    rw [show inL a2.toInt64 a1.toInt64 1000 = isB a2 a1 1000 from inL_i a2 a1 1000] at hw24
    refine lv_if_eq (tgt := 43) hx hb dX12_refer_27 (by decide) (fun c27 => ?_) (fun c27 => ?_)
    · skip
      simp only [hw24, bI_0, bI_1, Bool.not_eq_false] at c27
      refine lv_aload_n hx hb dX12_refer_43 rfl (lv_at hl 0 rfl) ?_
      refine lv_iconst (v := -1) hx hb dX12_refer_44 (by decide) ?_
      refine M_calli (av := [.int (-1 : Int32)]) (rest := []) ⟨hx, hb, hml, hown, hts⟩ hA hK hP hD hS (c_told l D cI cJ ad x ((-1 : Int32)) ) (cwV 1 hts gX12_refer_X12_told rfl rfl rfl (by decide +kernel) ⟨Nat.le_of_ble_eq_true rfl, Nat.le_of_ble_eq_true rfl⟩) rfl hl.1 rfl (Nat.le_of_ble_eq_true rfl) dX12_refer_45 ⟨Nat.le_of_ble_eq_true rfl, Nat.le_of_ble_eq_true rfl⟩ (fun r45 y45 H locs hw45 hP hD hS => ?_)
      obtain ⟨er45, ey45⟩ := hw45
      refine M_iret (v := r45) hx hb hr hlocks hK hP hD hS dX12_refer_48 ?_
      simp only [hw11, hw24, er45, ey45, referF, c14, c27, not_true_eq_false, not_false_eq_true, and_true, true_and, and_false, false_and, and_self, if_true, if_false, ite_true, ite_false, ↓reduceIte, Int32.add_zero, Bool.not_eq_false, Bool.and_true, Bool.true_and, Bool.and_false, Bool.false_and, Bool.false_eq_true]
    · skip
      simp only [hw24, bI_0, bI_1, Bool.not_eq_false] at c27
      refine lv_iload hx hb dX12_refer_30 (lv_at hl 4 rfl) ?_
      refine lv_i2l hx hb dX12_refer_32 rfl ?_
      refine lv_lconst (v := 1) hx hb dX12_refer_33 (by decide) ?_
      refine lv_ldc2 (v := 20) hx hb hown (hts (.constantLong RX12 204 (20)) (by decide +kernel)) dX12_refer_34 ?_
      refine S_calli (av := [.long a3.toInt64, .long (1 : Int64), .long (20 : Int64)]) (rest := []) ⟨hx, hb, hml, hown, hts⟩ (c_in l (a3.toInt64) ((1 : Int64)) ((20 : Int64)) ) (va_cwS 3 hts gX12_refer_X12_in rfl rfl rfl (by decide +kernel) ⟨Nat.le_of_ble_eq_true rfl, Nat.le_of_ble_eq_true rfl⟩) rfl hl.1 rfl (Nat.le_of_ble_eq_true rfl) dX12_refer_37 ⟨Nat.le_of_ble_eq_true rfl, Nat.le_of_ble_eq_true rfl⟩ (fun r37 hw37 => ?_)
      rw [show inL a3.toInt64 (1) 20 = isB a3 1 20 from inL_i a3 1 20] at hw37
      refine lv_if_ne (tgt := 49) hx hb dX12_refer_40 (by decide) (fun c40 => ?_) (fun c40 => ?_)
      · skip
        simp only [hw37, bI_0, bI_1, Bool.not_eq_false] at c40
        refine lv_aload_n hx hb dX12_refer_49 rfl (lv_at hl 0 rfl) ?_
        refine lv_iload_n hx hb dX12_refer_50 rfl (lv_at hl 1 rfl) ?_
        refine M_callr (av := [.int a0]) (rest := []) ⟨hx, hb, hml, hown, hts⟩ hA hK hP hD hS (c_isFamily l D cI cJ ad x (a0) ) (cwV 1 hts gX12_refer_X12_isFamily rfl rfl rfl (by decide +kernel) ⟨Nat.le_of_ble_eq_true rfl, Nat.le_of_ble_eq_true rfl⟩) rfl hl.1 rfl (Nat.le_of_ble_eq_true rfl) dX12_refer_51 ⟨Nat.le_of_ble_eq_true rfl, Nat.le_of_ble_eq_true rfl⟩ (fun r51 H locs hw51 hP hD hS => ?_)
        refine lv_if_ne (tgt := 64) hx hb dX12_refer_54 (by decide) (fun c54 => ?_) (fun c54 => ?_)
        · skip
          simp only [hw51, bI_0, bI_1, Bool.not_eq_false] at c54
          refine lv_aload_n hx hb dX12_refer_64 rfl (lv_at hl 0 rfl) ?_
          refine M_get hx hb hts hin hown hK hP 20 (by decide) rfl (index := 209) (by decide +kernel) rfl dX12_refer_65 ?_
          refine lv_topi (fun v65 ev65 => ?_)
          refine lv_bipush (v := 100) hx hb dX12_refer_68 (by decide) ?_
          refine lv_icmp_ne (tgt := 80) hx hb dX12_refer_70 (by decide) (fun c70 => ?_) (fun c70 => ?_)
          · skip
            simp only [ev65] at c70
            have hN : nN x 20 < 100 := by rw [h1] at c70; exact nIne h2 (by decide) rfl c70
            refine lv_aload_n hx hb dX12_refer_80 rfl (lv_at hl 0 rfl) ?_
            refine M_get hx hb hts hin hown hK hP 21 (by decide) rfl (index := 53) (by decide +kernel) rfl dX12_refer_81 ?_
            refine lv_aload_n hx hb dX12_refer_84 rfl (lv_at hl 0 rfl) ?_
            refine M_get hx hb hts hin hown hK hP 20 (by decide) rfl (index := 209) (by decide +kernel) rfl dX12_refer_85 ?_
            refine lv_topi (fun v85 ev85 => ?_)
            refine lv_iload_n hx hb dX12_refer_88 rfl (lv_at hl 1 rfl) ?_
            have h89 : vp_in v85 100 := by simp only [hw11, hw24, hw37, hw51, ev65, ev85, mI_sA, h1]; exact vp_in_nI hN (by decide)
            refine M_iast hx hb hK hP hD hS 15 rfl h89 (pA_21 cI cJ ad x _) dX12_refer_89 (fun y89 H locs ey89 hP hD hS => ?_)
            refine lv_aload_n hx hb dX12_refer_90 rfl (lv_at hl 0 rfl) ?_
            refine M_get hx hb hts hin hown hK hP 22 (by decide) rfl (index := 56) (by decide +kernel) rfl dX12_refer_91 ?_
            refine lv_aload_n hx hb dX12_refer_94 rfl (lv_at hl 0 rfl) ?_
            refine M_get hx hb hts hin hown hK hP 20 (by decide) rfl (index := 209) (by decide +kernel) rfl dX12_refer_95 ?_
            refine lv_topi (fun v95 ev95 => ?_)
            refine lv_iload_n hx hb dX12_refer_98 rfl (lv_at hl 2 rfl) ?_
            have h99 : vp_in v95 100 := by simp only [hw11, hw24, hw37, hw51, ev65, ev85, ey89, ev95, mI_sA, h1]; exact vp_in_nI hN (by decide)
            refine M_iast hx hb hK hP hD hS 16 rfl h99 (pA_22 cI cJ ad y89 _) dX12_refer_99 (fun y99 H locs ey99 hP hD hS => ?_)
            refine lv_aload_n hx hb dX12_refer_100 rfl (lv_at hl 0 rfl) ?_
            refine M_get hx hb hts hin hown hK hP 23 (by decide) rfl (index := 59) (by decide +kernel) rfl dX12_refer_101 ?_
            refine lv_aload_n hx hb dX12_refer_104 rfl (lv_at hl 0 rfl) ?_
            refine M_get hx hb hts hin hown hK hP 20 (by decide) rfl (index := 209) (by decide +kernel) rfl dX12_refer_105 ?_
            refine lv_topi (fun v105 ev105 => ?_)
            refine lv_iload_n hx hb dX12_refer_108 rfl (lv_at hl 3 rfl) ?_
            have h109 : vp_in v105 100 := by simp only [hw11, hw24, hw37, hw51, ev65, ev85, ey89, ev95, ey99, ev105, mI_sA, h1]; exact vp_in_nI hN (by decide)
            refine M_iast hx hb hK hP hD hS 17 rfl h109 (pA_23 cI cJ ad y99 _) dX12_refer_109 (fun y109 H locs ey109 hP hD hS => ?_)
            refine lv_aload_n hx hb dX12_refer_110 rfl (lv_at hl 0 rfl) ?_
            refine M_get hx hb hts hin hown hK hP 24 (by decide) rfl (index := 62) (by decide +kernel) rfl dX12_refer_111 ?_
            refine lv_aload_n hx hb dX12_refer_114 rfl (lv_at hl 0 rfl) ?_
            refine M_get hx hb hts hin hown hK hP 20 (by decide) rfl (index := 209) (by decide +kernel) rfl dX12_refer_115 ?_
            refine lv_topi (fun v115 ev115 => ?_)
            refine lv_iload hx hb dX12_refer_118 (lv_at hl 4 rfl) ?_
            have h120 : vp_in v115 100 := by simp only [hw11, hw24, hw37, hw51, ev65, ev85, ey89, ev95, ey99, ev105, ey109, ev115, mI_sA, h1]; exact vp_in_nI hN (by decide)
            refine M_iast hx hb hK hP hD hS 18 rfl h120 (pA_24 cI cJ ad y109 _) dX12_refer_120 (fun y120 H locs ey120 hP hD hS => ?_)
            refine lv_aload_n hx hb dX12_refer_121 rfl (lv_at hl 0 rfl) ?_
            refine lv_dup hx hb dX12_refer_122 rfl ?_
            refine M_get hx hb hts hin hown hK hP 20 (by decide) rfl (index := 209) (by decide +kernel) rfl dX12_refer_123 ?_
            refine lv_topi (fun v123 ev123 => ?_)
            refine lv_iconst (v := 1) hx hb dX12_refer_126 (by decide) ?_
            refine lv_iadd hx hb dX12_refer_127 ?_
            refine M_put hx hb hts hin hown hK hP hD hS 20 (by decide) rfl rfl (index := 209) (by decide +kernel) (ty := .int) (by decide +kernel) rfl rfl (pI_20 cI cJ ad y120 _) dX12_refer_128 (fun y128 H locs ey128 hP hD hS => ?_)
            refine lv_aload_n hx hb dX12_refer_131 rfl (lv_at hl 0 rfl) ?_
            refine lv_aload_n hx hb dX12_refer_132 rfl (lv_at hl 0 rfl) ?_
            refine M_get hx hb hts hin hown hK hP 20 (by decide) rfl (index := 209) (by decide +kernel) rfl dX12_refer_133 ?_
            refine lv_topi (fun v133 ev133 => ?_)
            refine M_calli (av := [.int v133]) (rest := []) ⟨hx, hb, hml, hown, hts⟩ hA hK hP hD hS (c_told l D cI cJ ad y128 (v133) ) (cwV 1 hts gX12_refer_X12_told rfl rfl rfl (by decide +kernel) ⟨Nat.le_of_ble_eq_true rfl, Nat.le_of_ble_eq_true rfl⟩) rfl hl.1 rfl (Nat.le_of_ble_eq_true rfl) dX12_refer_136 ⟨Nat.le_of_ble_eq_true rfl, Nat.le_of_ble_eq_true rfl⟩ (fun r136 y136 H locs hw136 hP hD hS => ?_)
            obtain ⟨er136, ey136⟩ := hw136
            refine M_iret (v := r136) hx hb hr hlocks hK hP hD hS dX12_refer_139 ?_
            have hcl : (nI (nN x 20)).toNatClampNeg = nN x 20 := nI_clamp (by omega)
            have e1 : r136 = nI (nN x 20 + 1) := by simp [hw11, hw24, hw37, hw51, ev65, ev85, ey89, ev95, ey99, ev105, ey109, ev115, ey120, ev123, ey128, ev133, er136, ey136, mI_sA, mI_sI, h1, nI_1]
            rw [← er136, e1, toldF_nI _ (by omega)] at ey136
            rw [ey136, e1]
            simp [referF, referX, hw11, hw24, hw37, hw51, ev65, ev85, ey89, ev95, ey99, ev105, ey109, ev115, ey120, ev123, ey128, ev133, er136, ey136, mI_sI, mI_sA, mI_sL, mI_sB, mL_sI, mL_sA, mL_sL, mL_sB, mA_sI, mA_sA, mA_sL, mA_sB, mB_sI, mB_sA, mB_sL, mB_sB, h1, hcl, nI_1, c14, c27, c40, c54, c70, Nat.ne_of_lt hN]
          · skip
            simp only [ev65] at c70
            have hN : nN x 20 = 100 := by rw [h1] at c70; exact (nI_eq (by omega) (by omega)).mp c70
            refine lv_aload_n hx hb dX12_refer_73 rfl (lv_at hl 0 rfl) ?_
            refine lv_bipush (v := -5) hx hb dX12_refer_74 (by decide) ?_
            refine M_calli (av := [.int (-5 : Int32)]) (rest := []) ⟨hx, hb, hml, hown, hts⟩ hA hK hP hD hS (c_told l D cI cJ ad x ((-5 : Int32)) ) (cwV 1 hts gX12_refer_X12_told rfl rfl rfl (by decide +kernel) ⟨Nat.le_of_ble_eq_true rfl, Nat.le_of_ble_eq_true rfl⟩) rfl hl.1 rfl (Nat.le_of_ble_eq_true rfl) dX12_refer_76 ⟨Nat.le_of_ble_eq_true rfl, Nat.le_of_ble_eq_true rfl⟩ (fun r76 y76 H locs hw76 hP hD hS => ?_)
            obtain ⟨er76, ey76⟩ := hw76
            refine M_iret (v := r76) hx hb hr hlocks hK hP hD hS dX12_refer_79 ?_
            simp only [hw11, hw24, hw37, hw51, ev65, er76, ey76, referF, c14, c27, c40, c54, c70, not_true_eq_false, not_false_eq_true, and_true, true_and, and_false, false_and, and_self, if_true, if_false, ite_true, ite_false, ↓reduceIte, Int32.add_zero, Bool.not_eq_false, Bool.and_true, Bool.true_and, Bool.and_false, Bool.false_and, Bool.false_eq_true, hN]
        · skip
          simp only [hw51, bI_0, bI_1, Bool.not_eq_false] at c54
          refine lv_aload_n hx hb dX12_refer_57 rfl (lv_at hl 0 rfl) ?_
          refine lv_bipush (v := -2) hx hb dX12_refer_58 (by decide) ?_
          refine M_calli (av := [.int (-2 : Int32)]) (rest := []) ⟨hx, hb, hml, hown, hts⟩ hA hK hP hD hS (c_told l D cI cJ ad x ((-2 : Int32)) ) (cwV 1 hts gX12_refer_X12_told rfl rfl rfl (by decide +kernel) ⟨Nat.le_of_ble_eq_true rfl, Nat.le_of_ble_eq_true rfl⟩) rfl hl.1 rfl (Nat.le_of_ble_eq_true rfl) dX12_refer_60 ⟨Nat.le_of_ble_eq_true rfl, Nat.le_of_ble_eq_true rfl⟩ (fun r60 y60 H locs hw60 hP hD hS => ?_)
          obtain ⟨er60, ey60⟩ := hw60
          refine M_iret (v := r60) hx hb hr hlocks hK hP hD hS dX12_refer_63 ?_
          simp only [hw11, hw24, hw37, hw51, er60, ey60, referF, c14, c27, c40, c54, not_true_eq_false, not_false_eq_true, and_true, true_and, and_false, false_and, and_self, if_true, if_false, ite_true, ite_false, ↓reduceIte, Int32.add_zero, Bool.not_eq_false, Bool.and_true, Bool.true_and, Bool.and_false, Bool.false_and, Bool.false_eq_true]
      · skip
        simp only [hw37, bI_0, bI_1, Bool.not_eq_false] at c40
        refine lv_aload_n hx hb dX12_refer_43 rfl (lv_at hl 0 rfl) ?_
        refine lv_iconst (v := -1) hx hb dX12_refer_44 (by decide) ?_
        refine M_calli (av := [.int (-1 : Int32)]) (rest := []) ⟨hx, hb, hml, hown, hts⟩ hA hK hP hD hS (c_told l D cI cJ ad x ((-1 : Int32)) ) (cwV 1 hts gX12_refer_X12_told rfl rfl rfl (by decide +kernel) ⟨Nat.le_of_ble_eq_true rfl, Nat.le_of_ble_eq_true rfl⟩) rfl hl.1 rfl (Nat.le_of_ble_eq_true rfl) dX12_refer_45 ⟨Nat.le_of_ble_eq_true rfl, Nat.le_of_ble_eq_true rfl⟩ (fun r45 y45 H locs hw45 hP hD hS => ?_)
        obtain ⟨er45, ey45⟩ := hw45
        refine M_iret (v := r45) hx hb hr hlocks hK hP hD hS dX12_refer_48 ?_
        simp only [hw11, hw24, hw37, er45, ey45, referF, c14, c27, c40, not_true_eq_false, not_false_eq_true, and_true, true_and, and_false, false_and, and_self, if_true, if_false, ite_true, ite_false, ↓reduceIte, Int32.add_zero, Bool.not_eq_false, Bool.and_true, Bool.true_and, Bool.and_false, Bool.false_and, Bool.false_eq_true]

set_option maxHeartbeats 4000000 in
set_option maxRecDepth 100000 in
theorem c_need (l : Launch) (D : va_G) (cI cJ : ClassId) (ad : Nat → Nat) (x : MS) (a0 : Int32) (a1 : Int32) (h0 : mI x 0 = 0) (h16 : okN x 16 40) (h25 : okN x 25 30) : Mi l yX12_need wsX12_need { frames := 2, cells := 0, slots := 0, locals := 46 } D cI cJ ad [.int a0, .int a1] x (fun r y => y = x ∧ r = needF x a0 a1) := by
  refine Mi_of (cc := cX12_need) (nL := 3) (ret := (some .int)) (by decide) rfl rfl (Nat.le_of_ble_eq_true rfl) ?_
  intro p e s m args below meth c A hx hb hr hlocks hml hts hown hA hK hP hD hS ls hl
  have hin : ∀ w ∈ wsX120, w ∈ wsX12_need := fun w h => List.mem_cons_of_mem _ (List.mem_append_right _ h)
  have hl : lv_has ls 3 [(0, .ref (ad 0)), (1, .int a0), (2, .int a1)] := hl
  refine lv_aload_n hx hb dX12_need_0 rfl (lv_at hl 0 rfl) ?_
  refine lv_iconst (v := 0) hx hb dX12_need_1 (by decide) ?_
  refine M_put hx hb hts hin hown hK hP hD hS 0 (by decide) rfl rfl (index := 156) (by decide +kernel) (ty := .int) (by decide +kernel) rfl rfl (pI_0 cI cJ ad x _) dX12_need_2 (fun y2 H locs ey2 hP hD hS => ?_)
  rw [ey2.trans (sI_0 h0)] at hP hD
  refine lv_aload_n hx hb dX12_need_5 rfl (lv_at hl 0 rfl) ?_
  refine lv_iload_n hx hb dX12_need_6 rfl (lv_at hl 1 rfl) ?_
  refine M_callr (av := [.int a0]) (rest := []) ⟨hx, hb, hml, hown, hts⟩ hA hK hP hD hS (c_isFamily l D cI cJ ad x (a0) ) (cwV 1 hts gX12_need_X12_isFamily rfl rfl rfl (by decide +kernel) ⟨Nat.le_of_ble_eq_true rfl, Nat.le_of_ble_eq_true rfl⟩) rfl hl.1 rfl (Nat.le_of_ble_eq_true rfl) dX12_need_7 ⟨Nat.le_of_ble_eq_true rfl, Nat.le_of_ble_eq_true rfl⟩ (fun r7 H locs hw7 hP hD hS => ?_)
  refine lv_if_eq (tgt := 29) hx hb dX12_need_10 (by decide) (fun c10 => ?_) (fun c10 => ?_)
  · skip
    simp only [hw7, bI_0, bI_1, Bool.not_eq_false] at c10
    refine lv_iconst (v := -1) hx hb dX12_need_29 (by decide) ?_
    refine M_iret (v := (-1 : Int32)) hx hb hr hlocks hK hP hD hS dX12_need_30 ?_
    simp only [hw7, needF, c10, not_true_eq_false, not_false_eq_true, and_true, true_and, and_false, false_and, and_self, if_true, if_false, ite_true, ite_false, ↓reduceIte, Int32.add_zero, Bool.not_eq_false, Bool.and_true, Bool.true_and, Bool.and_false, Bool.false_and, Bool.false_eq_true]
  · skip
    simp only [hw7, bI_0, bI_1, Bool.not_eq_false] at c10
    refine lv_iload_n hx hb dX12_need_13 rfl (lv_at hl 2 rfl) ?_
    refine S_calli (av := [.int a1]) (rest := []) ⟨hx, hb, hml, hown, hts⟩ (c_isKind l (a1) ) (va_cwS 1 hts gX12_need_X12_isKind rfl rfl rfl (by decide +kernel) ⟨Nat.le_of_ble_eq_true rfl, Nat.le_of_ble_eq_true rfl⟩) rfl hl.1 rfl (Nat.le_of_ble_eq_true rfl) dX12_need_14 ⟨Nat.le_of_ble_eq_true rfl, Nat.le_of_ble_eq_true rfl⟩ (fun r14 hw14 => ?_)
    refine lv_if_eq (tgt := 29) hx hb dX12_need_17 (by decide) (fun c17 => ?_) (fun c17 => ?_)
    · skip
      simp only [hw14, bI_0, bI_1, Bool.not_eq_false] at c17
      refine lv_iconst (v := -1) hx hb dX12_need_29 (by decide) ?_
      refine M_iret (v := (-1 : Int32)) hx hb hr hlocks hK hP hD hS dX12_need_30 ?_
      simp only [hw7, hw14, needF, c10, c17, not_true_eq_false, not_false_eq_true, and_true, true_and, and_false, false_and, and_self, if_true, if_false, ite_true, ite_false, ↓reduceIte, Int32.add_zero, Bool.not_eq_false, Bool.and_true, Bool.true_and, Bool.and_false, Bool.false_and, Bool.false_eq_true]
    · skip
      simp only [hw14, bI_0, bI_1, Bool.not_eq_false] at c17
      refine lv_aload_n hx hb dX12_need_20 rfl (lv_at hl 0 rfl) ?_
      refine lv_iload_n hx hb dX12_need_21 rfl (lv_at hl 1 rfl) ?_
      refine lv_iload_n hx hb dX12_need_22 rfl (lv_at hl 2 rfl) ?_
      refine M_callr (av := [.int a0, .int a1]) (rest := []) ⟨hx, hb, hml, hown, hts⟩ hA hK hP hD hS (c_needOf l D cI cJ ad x (a0) (a1) (ixB_le h16 c10 (by decide)) h25) (cwV 2 hts gX12_need_X12_needOf rfl rfl rfl (by decide +kernel) ⟨Nat.le_of_ble_eq_true rfl, Nat.le_of_ble_eq_true rfl⟩) rfl hl.1 rfl (Nat.le_of_ble_eq_true rfl) dX12_need_23 ⟨Nat.le_of_ble_eq_true rfl, Nat.le_of_ble_eq_true rfl⟩ (fun r23 H locs hw23 hP hD hS => ?_)
      refine lv_goto (tgt := 30) hx hb dX12_need_26 (by decide) ?_
      refine M_iret (v := r23) hx hb hr hlocks hK hP hD hS dX12_need_30 ?_
      simp only [hw7, hw14, hw23, needF, c10, c17, not_true_eq_false, not_false_eq_true, and_true, true_and, and_false, false_and, and_self, if_true, if_false, ite_true, ite_false, ↓reduceIte, Int32.add_zero, Bool.not_eq_false, Bool.and_true, Bool.true_and, Bool.and_false, Bool.false_and, Bool.false_eq_true]

set_option maxHeartbeats 4000000 in
set_option maxRecDepth 100000 in
theorem c_isBarred (l : Launch) (D : va_G) (cI cJ : ClassId) (ad : Nat → Nat) (x : MS) (a0 : Int32) (a1 : Int32) (hf : vp_in a0 40) (hk : vp_in a1 10) : Mi l yX12_isBarred wsX12_isBarred { frames := 0, cells := 0, slots := 0, locals := 0 } D cI cJ ad [.int a0, .int a1] x (fun r y => y = x ∧ r = bI (barB x a0 a1)) := by
  refine Mi_of (cc := cX12_isBarred) (nL := 3) (ret := (some .boolean)) (by decide) rfl rfl (Nat.le_of_ble_eq_true rfl) ?_
  intro p e s m args below meth c A hx hb hr hlocks hml hts hown hA hK hP hD hS ls hl
  have hin : ∀ w ∈ wsX120, w ∈ wsX12_isBarred := fun w h => List.mem_cons_of_mem _ (List.mem_append_right _ h)
  have hl : lv_has ls 3 [(0, .ref (ad 0)), (1, .int a0), (2, .int a1)] := hl
  refine lv_aload_n hx hb dX12_isBarred_0 rfl (lv_at hl 0 rfl) ?_
  refine M_get hx hb hts hin hown hK hP 3 (by decide) rfl (index := 7) (by decide +kernel) rfl dX12_isBarred_1 ?_
  refine lv_iload_n hx hb dX12_isBarred_4 rfl (lv_at hl 2 rfl) ?_
  have h5 : vp_in a1 10 := by exact hk
  refine va_iald hx hb hK hP 1 0 rfl rfl h5 dX12_isBarred_5 ?_
  refine lv_topi (fun v5 ev5 => ?_)
  refine lv_aload_n hx hb dX12_isBarred_6 rfl (lv_at hl 0 rfl) ?_
  refine M_get hx hb hts hin hown hK hP 19 (by decide) rfl (index := 50) (by decide +kernel) rfl dX12_isBarred_7 ?_
  refine lv_iload_n hx hb dX12_isBarred_10 rfl (lv_at hl 1 rfl) ?_
  have h11 : vp_in a0 40 := by exact hf
  refine va_iald hx hb hK hP 14 0 rfl rfl h11 dX12_isBarred_11 ?_
  refine lv_topi (fun v11 ev11 => ?_)
  refine lv_iand hx hb dX12_isBarred_12 ?_
  refine lv_if_eq (tgt := 20) hx hb dX12_isBarred_13 (by decide) (fun c13 => ?_) (fun c13 => ?_)
  · skip
    simp only [ev5, ev11] at c13
    refine lv_iconst (v := 0) hx hb dX12_isBarred_20 (by decide) ?_
    refine M_zret (v := (0 : Int32)) hx hb hr hlocks hK hP hD hS dX12_isBarred_21 ?_ ?_
    · first | rfl | (simp [narrow]; done)
    · simp [ev5, ev11, barB, c13, bI]
  · skip
    simp only [ev5, ev11] at c13
    refine lv_iconst (v := 1) hx hb dX12_isBarred_16 (by decide) ?_
    refine lv_goto (tgt := 21) hx hb dX12_isBarred_17 (by decide) ?_
    refine M_zret (v := (1 : Int32)) hx hb hr hlocks hK hP hD hS dX12_isBarred_21 ?_ ?_
    · first | rfl | (simp [narrow]; done)
    · simp [ev5, ev11, barB, c13, bI]

set_option maxHeartbeats 4000000 in
set_option maxRecDepth 100000 in
theorem c_nextOf (l : Launch) (D : va_G) (cI cJ : ClassId) (ad : Nat → Nat) (x : MS) (d : Int32) (h4 : okN x 4 200) (h25 : okN x 25 30) : Mi l yX12_nextOf wsX12_nextOf { frames := 1, cells := 0, slots := 0, locals := 23 } D cI cJ ad [.int d] x (fun r y => y = x ∧ r = nextF x d) := by
  have hN := h4.1
  have hN2 := h4.2
  refine Mi_of (cc := cX12_nextOf) (nL := 5) (ret := (some .int)) (by decide) rfl rfl (Nat.le_of_ble_eq_true rfl) ?_
  intro p e s m args below meth c A hx hb hr hlocks hml hts hown hA hK hP hD hS ls hl
  have hin : ∀ w ∈ wsX120, w ∈ wsX12_nextOf := fun w h => List.mem_cons_of_mem _ (List.mem_append_right _ h)
  have hl : lv_has ls 5 [(0, .ref (ad 0)), (1, .int d)] := hl
  refine lv_aload_n hx hb dX12_nextOf_0 rfl (lv_at hl 0 rfl) ?_
  refine M_get hx hb hts hin hown hK hP 2 (by decide) rfl (index := 189) (by decide +kernel) rfl dX12_nextOf_1 ?_
  refine lv_topi (fun v1 ev1 => ?_)
  refine lv_aload_n hx hb dX12_nextOf_4 rfl (lv_at hl 0 rfl) ?_
  refine lv_iload_n hx hb dX12_nextOf_5 rfl (lv_at hl 1 rfl) ?_
  refine M_callr (av := [.int d]) (rest := [.int v1]) ⟨hx, hb, hml, hown, hts⟩ hA hK hP hD hS (c_sparedOf l D cI cJ ad x (d) h25) (cwV 1 hts gX12_nextOf_X12_sparedOf rfl rfl rfl (by decide +kernel) ⟨Nat.le_of_ble_eq_true rfl, Nat.le_of_ble_eq_true rfl⟩) rfl hl.1 rfl (Nat.le_of_ble_eq_true rfl) dX12_nextOf_6 ⟨Nat.le_of_ble_eq_true rfl, Nat.le_of_ble_eq_true rfl⟩ (fun r6 H locs hw6 hP hD hS => ?_)
  refine lv_iadd hx hb dX12_nextOf_9 ?_
  refine lv_topi (fun x10 ex10 => ?_)
  refine lv_istore_n (lv' := [(2, .int x10), (0, .ref (ad 0)), (1, .int d)]) hx hb dX12_nextOf_10 rfl hl (by decide) rfl (fun ls hl => ?_)
  refine lv_iconst (v := -1) hx hb dX12_nextOf_11 (by decide) ?_
  refine lv_topi (fun x12 ex12 => ?_)
  refine lv_istore_n (lv' := [(3, .int x12), (2, .int x10), (0, .ref (ad 0)), (1, .int d)]) hx hb dX12_nextOf_12 rfl hl (by decide) rfl (fun ls hl => ?_)
  have hle : x10 = mI x 2 + spareN x d (nN x 25) := by simp only [ev1, hw6, ex10, ex12]
  refine lv_iconst (v := 0) hx hb dX12_nextOf_13 (by decide) ?_
  refine lv_topi (fun x14 ex14 => ?_)
  refine lv_istore (lv' := [(4, .int x14), (3, .int x12), (2, .int x10), (0, .ref (ad 0)), (1, .int d)]) hx hb dX12_nextOf_14 hl (by decide) rfl (fun ls hl => ?_)
  have lp16 : ∀ (n : Nat) (k : Nat), (nN x 4 < k + n) → (k ≤ nN x 4) → ∀ (H : Heap) (locs : List Loc), va_P D vwCl (wsM cI cJ ad x) H → va_D A (wsM cI cJ ad x) → va_S A s.heap H locs → ∀ ls : Array Slot, lv_has ls 5 [(4, .int (nI k)), (3, .int (nextN x d x10 k)), (2, .int x10), (0, .ref (ad 0)), (1, .int d)] → W p l e { frames := 1, cells := 0, slots := 0, locals := 23 } s m args below meth c H locs 0 0 (MQ below (va_Qi (fun r y => y = x ∧ r = nextF x d) (mAft D cI cJ ad A) A) args s 0 0 A) (F0 m 16 ls []) := by
    intro n
    induction n with
    | zero => intro k hn hk; exact absurd hn (by omega)
    | succ n ih16 =>
      intro k hn hk H locs hP hD hS ls hl
      refine lv_iload hx hb dX12_nextOf_16 (lv_at hl 0 rfl) ?_
      refine lv_aload_n hx hb dX12_nextOf_18 rfl (lv_at hl 3 rfl) ?_
      refine M_get hx hb hts hin hown hK hP 4 (by decide) rfl (index := 168) (by decide +kernel) rfl dX12_nextOf_19 ?_
      refine lv_topi (fun v19 ev19 => ?_)
      refine lv_icmp_ge (tgt := 86) hx hb dX12_nextOf_22 (by decide) (fun c22 => ?_) (fun c22 => ?_)
      · skip
        simp only [ev19] at c22
        have hkN : k = nN x 4 := by rw [hN] at c22; have := (nI_leI (by omega) (by omega)).mp c22; omega
        refine lv_iload_n hx hb dX12_nextOf_86 rfl (lv_at hl 1 rfl) ?_
        refine M_iret (v := (nextN x d x10 k)) hx hb hr hlocks hK hP hD hS dX12_nextOf_87 ?_
        simp only [hkN, nextF, hle, not_true_eq_false, not_false_eq_true, and_true, true_and, and_false, false_and, and_self, if_true, if_false, ite_true, ite_false, ↓reduceIte, Int32.add_zero, Bool.not_eq_false, Bool.and_true, Bool.true_and, Bool.and_false, Bool.false_and, Bool.false_eq_true]
      · skip
        simp only [ev19] at c22
        have hkN : k < nN x 4 := by
          rw [hN] at c22
          rcases Nat.lt_or_ge k (nN x 4) with q | q
          · exact q
          · exact absurd (nI_le q (by omega)) c22
        refine lv_aload_n hx hb dX12_nextOf_25 rfl (lv_at hl 3 rfl) ?_
        refine M_get hx hb hts hin hown hK hP 5 (by decide) rfl (index := 13) (by decide +kernel) rfl dX12_nextOf_26 ?_
        refine lv_iload hx hb dX12_nextOf_29 (lv_at hl 0 rfl) ?_
        have h31 : vp_in ((nI k)) 200 := by exact vp_in_nI (by omega) (by decide)
        refine va_iald hx hb hK hP 2 0 rfl rfl h31 dX12_nextOf_31 ?_
        refine lv_topi (fun v31 ev31 => ?_)
        rw [nI_clamp (by omega)] at ev31
        refine lv_iload_n hx hb dX12_nextOf_32 rfl (lv_at hl 4 rfl) ?_
        refine lv_icmp_ne (tgt := 80) hx hb dX12_nextOf_33 (by decide) (fun c33 => ?_) (fun c33 => ?_)
        · skip
          simp only [ev31] at c33
          obtain ⟨x80, ex80⟩ : ∃ y : Int32, y = (nI k) + 1 := ⟨_, rfl⟩
          refine lv_iinc (v := x80) (lv' := [(4, .int x80), (3, .int (nextN x d x10 k)), (2, .int x10), (0, .ref (ad 0)), (1, .int d)]) hx hb dX12_nextOf_80 hl (k := 0) rfl (by rw [ex80]; rfl) (by decide) rfl (fun ls hl => ?_)
          refine lv_goto (tgt := 16) hx hb dX12_nextOf_83 (by decide) ?_
          have q4 : x80 = (nI (k + 1)) := by rw [ex80]; exact nI_1 k
          have q3 : (nextN x d x10 k) = (nextN x d x10 (k + 1)) := by first | (rw [ex79, nextN_s]; simp only [c22, c33, not_true_eq_false, not_false_eq_true, and_true, true_and, and_false, false_and, and_self, if_true, if_false, ite_true, ite_false, ↓reduceIte, Int32.add_zero, Bool.not_eq_false, Bool.and_true, Bool.true_and, Bool.and_false, Bool.false_and, Bool.false_eq_true, true_or, or_true]; done) | (rw [nextN_s]; simp only [c22, c33, not_true_eq_false, not_false_eq_true, and_true, true_and, and_false, false_and, and_self, if_true, if_false, ite_true, ite_false, ↓reduceIte, Int32.add_zero, Bool.not_eq_false, Bool.and_true, Bool.true_and, Bool.and_false, Bool.false_and, Bool.false_eq_true, or_self]; done)
          rw [q4, q3] at hl
          exact ih16 (k + 1) (by omega) (by omega) _ _ hP hD hS ls (lv_sub hl [0, 1, 2, 3, 4] rfl)
        · skip
          simp only [ev31] at c33
          refine lv_aload_n hx hb dX12_nextOf_36 rfl (lv_at hl 3 rfl) ?_
          refine M_get hx hb hts hin hown hK hP 9 (by decide) rfl (index := 25) (by decide +kernel) rfl dX12_nextOf_37 ?_
          refine lv_iload hx hb dX12_nextOf_40 (lv_at hl 0 rfl) ?_
          have h42 : vp_in ((nI k)) 200 := by exact vp_in_nI (by omega) (by decide)
          refine va_iald hx hb hK hP 6 0 rfl rfl h42 dX12_nextOf_42 ?_
          refine lv_topi (fun v42 ev42 => ?_)
          rw [nI_clamp (by omega)] at ev42
          refine lv_if_le (tgt := 80) hx hb dX12_nextOf_43 (by decide) (fun c43 => ?_) (fun c43 => ?_)
          · skip
            simp only [ev42] at c43
            obtain ⟨x80, ex80⟩ : ∃ y : Int32, y = (nI k) + 1 := ⟨_, rfl⟩
            refine lv_iinc (v := x80) (lv' := [(4, .int x80), (3, .int (nextN x d x10 k)), (2, .int x10), (0, .ref (ad 0)), (1, .int d)]) hx hb dX12_nextOf_80 hl (k := 0) rfl (by rw [ex80]; rfl) (by decide) rfl (fun ls hl => ?_)
            refine lv_goto (tgt := 16) hx hb dX12_nextOf_83 (by decide) ?_
            have q4 : x80 = (nI (k + 1)) := by rw [ex80]; exact nI_1 k
            have q3 : (nextN x d x10 k) = (nextN x d x10 (k + 1)) := by first | (rw [ex79, nextN_s]; simp only [c22, c33, c43, not_true_eq_false, not_false_eq_true, and_true, true_and, and_false, false_and, and_self, if_true, if_false, ite_true, ite_false, ↓reduceIte, Int32.add_zero, Bool.not_eq_false, Bool.and_true, Bool.true_and, Bool.and_false, Bool.false_and, Bool.false_eq_true, true_or, or_true]; done) | (rw [nextN_s]; simp only [c22, c33, c43, not_true_eq_false, not_false_eq_true, and_true, true_and, and_false, false_and, and_self, if_true, if_false, ite_true, ite_false, ↓reduceIte, Int32.add_zero, Bool.not_eq_false, Bool.and_true, Bool.true_and, Bool.and_false, Bool.false_and, Bool.false_eq_true, or_self]; done)
            rw [q4, q3] at hl
            exact ih16 (k + 1) (by omega) (by omega) _ _ hP hD hS ls (lv_sub hl [0, 1, 2, 3, 4] rfl)
          · skip
            simp only [ev42] at c43
            refine lv_aload_n hx hb dX12_nextOf_46 rfl (lv_at hl 3 rfl) ?_
            refine M_get hx hb hts hin hown hK hP 7 (by decide) rfl (index := 19) (by decide +kernel) rfl dX12_nextOf_47 ?_
            refine lv_iload hx hb dX12_nextOf_50 (lv_at hl 0 rfl) ?_
            have h52 : vp_in ((nI k)) 200 := by exact vp_in_nI (by omega) (by decide)
            refine va_iald hx hb hK hP 4 0 rfl rfl h52 dX12_nextOf_52 ?_
            refine lv_topi (fun v52 ev52 => ?_)
            rw [nI_clamp (by omega)] at ev52
            refine lv_iload_n hx hb dX12_nextOf_53 rfl (lv_at hl 2 rfl) ?_
            refine lv_icmp_lt (tgt := 80) hx hb dX12_nextOf_54 (by decide) (fun c54 => ?_) (fun c54 => ?_)
            · skip
              simp only [ev52] at c54
              obtain ⟨x80, ex80⟩ : ∃ y : Int32, y = (nI k) + 1 := ⟨_, rfl⟩
              refine lv_iinc (v := x80) (lv' := [(4, .int x80), (3, .int (nextN x d x10 k)), (2, .int x10), (0, .ref (ad 0)), (1, .int d)]) hx hb dX12_nextOf_80 hl (k := 0) rfl (by rw [ex80]; rfl) (by decide) rfl (fun ls hl => ?_)
              refine lv_goto (tgt := 16) hx hb dX12_nextOf_83 (by decide) ?_
              have q4 : x80 = (nI (k + 1)) := by rw [ex80]; exact nI_1 k
              have q3 : (nextN x d x10 k) = (nextN x d x10 (k + 1)) := by first | (rw [ex79, nextN_s]; simp only [c22, c33, c43, c54, not_true_eq_false, not_false_eq_true, and_true, true_and, and_false, false_and, and_self, if_true, if_false, ite_true, ite_false, ↓reduceIte, Int32.add_zero, Bool.not_eq_false, Bool.and_true, Bool.true_and, Bool.and_false, Bool.false_and, Bool.false_eq_true, true_or, or_true]; done) | (rw [nextN_s]; simp only [c22, c33, c43, c54, not_true_eq_false, not_false_eq_true, and_true, true_and, and_false, false_and, and_self, if_true, if_false, ite_true, ite_false, ↓reduceIte, Int32.add_zero, Bool.not_eq_false, Bool.and_true, Bool.true_and, Bool.and_false, Bool.false_and, Bool.false_eq_true, or_self]; done)
              rw [q4, q3] at hl
              exact ih16 (k + 1) (by omega) (by omega) _ _ hP hD hS ls (lv_sub hl [0, 1, 2, 3, 4] rfl)
            · skip
              simp only [ev52] at c54
              refine lv_iload_n hx hb dX12_nextOf_57 rfl (lv_at hl 1 rfl) ?_
              refine lv_if_lt (tgt := 77) hx hb dX12_nextOf_58 (by decide) (fun c58 => ?_) (fun c58 => ?_)
              · skip
                refine lv_iload hx hb dX12_nextOf_77 (lv_at hl 0 rfl) ?_
                refine lv_topi (fun x79 ex79 => ?_)
                refine lv_istore_n (lv' := [(3, .int x79), (4, .int (nI k)), (2, .int x10), (0, .ref (ad 0)), (1, .int d)]) hx hb dX12_nextOf_79 rfl hl (by decide) rfl (fun ls hl => ?_)
                obtain ⟨x80, ex80⟩ : ∃ y : Int32, y = (nI k) + 1 := ⟨_, rfl⟩
                refine lv_iinc (v := x80) (lv' := [(4, .int x80), (3, .int x79), (2, .int x10), (0, .ref (ad 0)), (1, .int d)]) hx hb dX12_nextOf_80 hl (k := 1) rfl (by rw [ex80]; rfl) (by decide) rfl (fun ls hl => ?_)
                refine lv_goto (tgt := 16) hx hb dX12_nextOf_83 (by decide) ?_
                have q4 : x80 = (nI (k + 1)) := by rw [ex80]; exact nI_1 k
                have q3 : x79 = (nextN x d x10 (k + 1)) := by first | (rw [ex79, nextN_s]; simp only [c22, c33, c43, c54, c58, not_true_eq_false, not_false_eq_true, and_true, true_and, and_false, false_and, and_self, if_true, if_false, ite_true, ite_false, ↓reduceIte, Int32.add_zero, Bool.not_eq_false, Bool.and_true, Bool.true_and, Bool.and_false, Bool.false_and, Bool.false_eq_true, true_or, or_true]; done) | (rw [nextN_s]; simp only [c22, c33, c43, c54, c58, not_true_eq_false, not_false_eq_true, and_true, true_and, and_false, false_and, and_self, if_true, if_false, ite_true, ite_false, ↓reduceIte, Int32.add_zero, Bool.not_eq_false, Bool.and_true, Bool.true_and, Bool.and_false, Bool.false_and, Bool.false_eq_true, or_self]; done)
                rw [q4, q3] at hl
                exact ih16 (k + 1) (by omega) (by omega) _ _ hP hD hS ls (lv_sub hl [0, 1, 2, 3, 4] rfl)
              · skip
                refine lv_aload_n hx hb dX12_nextOf_61 rfl (lv_at hl 3 rfl) ?_
                refine M_get hx hb hts hin hown hK hP 7 (by decide) rfl (index := 19) (by decide +kernel) rfl dX12_nextOf_62 ?_
                refine lv_iload hx hb dX12_nextOf_65 (lv_at hl 0 rfl) ?_
                have h67 : vp_in ((nI k)) 200 := by exact vp_in_nI (by omega) (by decide)
                refine va_iald hx hb hK hP 4 0 rfl rfl h67 dX12_nextOf_67 ?_
                refine lv_topi (fun v67 ev67 => ?_)
                rw [nI_clamp (by omega)] at ev67
                refine lv_aload_n hx hb dX12_nextOf_68 rfl (lv_at hl 3 rfl) ?_
                refine M_get hx hb hts hin hown hK hP 7 (by decide) rfl (index := 19) (by decide +kernel) rfl dX12_nextOf_69 ?_
                refine lv_iload_n hx hb dX12_nextOf_72 rfl (lv_at hl 1 rfl) ?_
                have h73 : vp_in ((nextN x d x10 k)) 200 := by
                  rcases nextN_rng x d x10 k with h | ⟨i, hi, h⟩
                  · exact absurd (by rw [h]; decide) c58
                  · rw [h]; exact vp_in_nI (by omega) (by decide)
                refine va_iald hx hb hK hP 4 0 rfl rfl h73 dX12_nextOf_73 ?_
                refine lv_topi (fun v73 ev73 => ?_)
                refine lv_icmp_ge (tgt := 80) hx hb dX12_nextOf_74 (by decide) (fun c74 => ?_) (fun c74 => ?_)
                · skip
                  simp only [ev73, ev67] at c74
                  obtain ⟨x80, ex80⟩ : ∃ y : Int32, y = (nI k) + 1 := ⟨_, rfl⟩
                  refine lv_iinc (v := x80) (lv' := [(4, .int x80), (3, .int (nextN x d x10 k)), (2, .int x10), (0, .ref (ad 0)), (1, .int d)]) hx hb dX12_nextOf_80 hl (k := 0) rfl (by rw [ex80]; rfl) (by decide) rfl (fun ls hl => ?_)
                  refine lv_goto (tgt := 16) hx hb dX12_nextOf_83 (by decide) ?_
                  have q4 : x80 = (nI (k + 1)) := by rw [ex80]; exact nI_1 k
                  have q3 : (nextN x d x10 k) = (nextN x d x10 (k + 1)) := by first | (rw [ex79, nextN_s]; simp only [c22, c33, c43, c54, c58, c74, not_true_eq_false, not_false_eq_true, and_true, true_and, and_false, false_and, and_self, if_true, if_false, ite_true, ite_false, ↓reduceIte, Int32.add_zero, Bool.not_eq_false, Bool.and_true, Bool.true_and, Bool.and_false, Bool.false_and, Bool.false_eq_true, true_or, or_true]; done) | (rw [nextN_s]; simp only [c22, c33, c43, c54, c58, c74, not_true_eq_false, not_false_eq_true, and_true, true_and, and_false, false_and, and_self, if_true, if_false, ite_true, ite_false, ↓reduceIte, Int32.add_zero, Bool.not_eq_false, Bool.and_true, Bool.true_and, Bool.and_false, Bool.false_and, Bool.false_eq_true, or_self]; done)
                  rw [q4, q3] at hl
                  exact ih16 (k + 1) (by omega) (by omega) _ _ hP hD hS ls (lv_sub hl [0, 1, 2, 3, 4] rfl)
                · skip
                  simp only [ev73, ev67] at c74
                  refine lv_iload hx hb dX12_nextOf_77 (lv_at hl 0 rfl) ?_
                  refine lv_topi (fun x79 ex79 => ?_)
                  refine lv_istore_n (lv' := [(3, .int x79), (4, .int (nI k)), (2, .int x10), (0, .ref (ad 0)), (1, .int d)]) hx hb dX12_nextOf_79 rfl hl (by decide) rfl (fun ls hl => ?_)
                  obtain ⟨x80, ex80⟩ : ∃ y : Int32, y = (nI k) + 1 := ⟨_, rfl⟩
                  refine lv_iinc (v := x80) (lv' := [(4, .int x80), (3, .int x79), (2, .int x10), (0, .ref (ad 0)), (1, .int d)]) hx hb dX12_nextOf_80 hl (k := 1) rfl (by rw [ex80]; rfl) (by decide) rfl (fun ls hl => ?_)
                  refine lv_goto (tgt := 16) hx hb dX12_nextOf_83 (by decide) ?_
                  have q4 : x80 = (nI (k + 1)) := by rw [ex80]; exact nI_1 k
                  have q3 : x79 = (nextN x d x10 (k + 1)) := by first | (rw [ex79, nextN_s]; simp only [c22, c33, c43, c54, c58, c74, not_true_eq_false, not_false_eq_true, and_true, true_and, and_false, false_and, and_self, if_true, if_false, ite_true, ite_false, ↓reduceIte, Int32.add_zero, Bool.not_eq_false, Bool.and_true, Bool.true_and, Bool.and_false, Bool.false_and, Bool.false_eq_true, true_or, or_true]; done) | (rw [nextN_s]; simp only [c22, c33, c43, c54, c58, c74, not_true_eq_false, not_false_eq_true, and_true, true_and, and_false, false_and, and_self, if_true, if_false, ite_true, ite_false, ↓reduceIte, Int32.add_zero, Bool.not_eq_false, Bool.and_true, Bool.true_and, Bool.and_false, Bool.false_and, Bool.false_eq_true, or_self]; done)
                  rw [q4, q3] at hl
                  exact ih16 (k + 1) (by omega) (by omega) _ _ hP hD hS ls (lv_sub hl [0, 1, 2, 3, 4] rfl)
  have q4 : x14 = (nI 0) := by rw [ex14]; exact nI_0.symm
  have q3 : x12 = (nextN x d x10 0) := by rw [ex12]; rfl
  rw [q4, q3] at hl
  exact lp16 (nN x 4 + 1) 0 (by omega) (by omega) _ _ hP hD hS ls (lv_sub hl [0, 1, 2, 3, 4] rfl)

set_option maxHeartbeats 4000000 in
set_option maxRecDepth 100000 in
theorem c_go (l : Launch) (D : va_G) (cI cJ : ClassId) (ad : Nat → Nat) (x : MS) (a0 : Int32) (h0 : mI x 0 = 0) (h4 : okN x 4 200) : Mi l yX12_go wsX12_go { frames := 1, cells := 0, slots := 0, locals := 25 } D cI cJ ad [.int a0] x (fun r y => r = (goF x a0).1 ∧ y = (goF x a0).2) := by
  have hN := h4.1
  have hN2 := h4.2
  refine Mi_of (cc := cX12_go) (nL := 3) (ret := (some .int)) (by decide) rfl rfl (Nat.le_of_ble_eq_true rfl) ?_
  intro p e s m args below meth c A hx hb hr hlocks hml hts hown hA hK hP hD hS ls hl
  have hin : ∀ w ∈ wsX120, w ∈ wsX12_go := fun w h => List.mem_cons_of_mem _ (List.mem_append_right _ h)
  have hl : lv_has ls 3 [(0, .ref (ad 0)), (1, .int a0)] := hl
  refine lv_aload_n hx hb dX12_go_0 rfl (lv_at hl 0 rfl) ?_
  refine lv_iconst (v := 0) hx hb dX12_go_1 (by decide) ?_
  refine M_put hx hb hts hin hown hK hP hD hS 0 (by decide) rfl rfl (index := 156) (by decide +kernel) (ty := .int) (by decide +kernel) rfl rfl (pI_0 cI cJ ad x _) dX12_go_2 (fun y2 H locs ey2 hP hD hS => ?_)
  rw [ey2.trans (sI_0 h0)] at hP hD
  refine lv_iload_n hx hb dX12_go_5 rfl (lv_at hl 1 rfl) ?_
  refine lv_i2l hx hb dX12_go_6 rfl ?_
  refine lv_lconst (v := 1) hx hb dX12_go_7 (by decide) ?_
  refine lv_ldc2 (v := 60) hx hb hown (hts (.constantLong RX12 250 (60)) (by decide +kernel)) dX12_go_8 ?_
  refine S_calli (av := [.long a0.toInt64, .long (1 : Int64), .long (60 : Int64)]) (rest := []) ⟨hx, hb, hml, hown, hts⟩ (c_in l (a0.toInt64) ((1 : Int64)) ((60 : Int64)) ) (va_cwS 3 hts gX12_go_X12_in rfl rfl rfl (by decide +kernel) ⟨Nat.le_of_ble_eq_true rfl, Nat.le_of_ble_eq_true rfl⟩) rfl hl.1 rfl (Nat.le_of_ble_eq_true rfl) dX12_go_11 ⟨Nat.le_of_ble_eq_true rfl, Nat.le_of_ble_eq_true rfl⟩ (fun r11 hw11 => ?_)
  rw [show inL a0.toInt64 (1) 60 = isB a0 1 60 from inL_i a0 1 60] at hw11
  refine lv_if_eq (tgt := 29) hx hb dX12_go_14 (by decide) (fun c14 => ?_) (fun c14 => ?_)
  · skip
    simp only [hw11, bI_0, bI_1, Bool.not_eq_false] at c14
    refine lv_aload_n hx hb dX12_go_29 rfl (lv_at hl 0 rfl) ?_
    refine lv_iconst (v := -1) hx hb dX12_go_30 (by decide) ?_
    refine M_calli (av := [.int (-1 : Int32)]) (rest := []) ⟨hx, hb, hml, hown, hts⟩ hA hK hP hD hS (c_told l D cI cJ ad x ((-1 : Int32)) ) (cwV 1 hts gX12_go_X12_told rfl rfl rfl (by decide +kernel) ⟨Nat.le_of_ble_eq_true rfl, Nat.le_of_ble_eq_true rfl⟩) rfl hl.1 rfl (Nat.le_of_ble_eq_true rfl) dX12_go_31 ⟨Nat.le_of_ble_eq_true rfl, Nat.le_of_ble_eq_true rfl⟩ (fun r31 y31 H locs hw31 hP hD hS => ?_)
    obtain ⟨er31, ey31⟩ := hw31
    refine M_iret (v := r31) hx hb hr hlocks hK hP hD hS dX12_go_34 ?_
    simp only [hw11, er31, ey31, goF, c14, not_true_eq_false, not_false_eq_true, and_true, true_and, and_false, false_and, and_self, if_true, if_false, ite_true, ite_false, ↓reduceIte, Int32.add_zero, Bool.not_eq_false, Bool.and_true, Bool.true_and, Bool.and_false, Bool.false_and, Bool.false_eq_true, decide_false]
  · skip
    simp only [hw11, bI_0, bI_1, Bool.not_eq_false] at c14
    refine lv_aload_n hx hb dX12_go_17 rfl (lv_at hl 0 rfl) ?_
    refine M_get hx hb hts hin hown hK hP 2 (by decide) rfl (index := 189) (by decide +kernel) rfl dX12_go_18 ?_
    refine lv_topi (fun v18 ev18 => ?_)
    refine lv_iload_n hx hb dX12_go_21 rfl (lv_at hl 1 rfl) ?_
    refine lv_iadd hx hb dX12_go_22 ?_
    refine lv_sipush (v := 500) hx hb dX12_go_23 (by decide) ?_
    refine lv_icmp_le (tgt := 35) hx hb dX12_go_26 (by decide) (fun c26 => ?_) (fun c26 => ?_)
    · skip
      simp only [ev18] at c26
      refine lv_aload_n hx hb dX12_go_35 rfl (lv_at hl 0 rfl) ?_
      refine lv_dup hx hb dX12_go_36 rfl ?_
      refine M_get hx hb hts hin hown hK hP 2 (by decide) rfl (index := 189) (by decide +kernel) rfl dX12_go_37 ?_
      refine lv_topi (fun v37 ev37 => ?_)
      refine lv_iload_n hx hb dX12_go_40 rfl (lv_at hl 1 rfl) ?_
      refine lv_iadd hx hb dX12_go_41 ?_
      refine M_put hx hb hts hin hown hK hP hD hS 2 (by decide) rfl rfl (index := 189) (by decide +kernel) (ty := .int) (by decide +kernel) rfl rfl (pI_2 cI cJ ad x _) dX12_go_42 (fun y42 H locs ey42 hP hD hS => ?_)
      refine lv_iconst (v := 0) hx hb dX12_go_45 (by decide) ?_
      refine lv_topi (fun x46 ex46 => ?_)
      refine lv_istore_n (lv' := [(2, .int x46), (0, .ref (ad 0)), (1, .int a0)]) hx hb dX12_go_46 rfl hl (by decide) rfl (fun ls hl => ?_)
      have lp47 : ∀ (n : Nat) (k : Nat), (nN x 4 < k + n) → (k ≤ nN x 4) → ∀ (H : Heap) (locs : List Loc), va_P D vwCl (wsM cI cJ ad (goX x (mI x 2 + a0) k)) H → va_D A (wsM cI cJ ad (goX x (mI x 2 + a0) k)) → va_S A s.heap H locs → ∀ ls : Array Slot, lv_has ls 3 [(2, .int (nI k)), (0, .ref (ad 0)), (1, .int a0)] → W p l e { frames := 1, cells := 0, slots := 0, locals := 25 } s m args below meth c H locs 0 0 (MQ below (va_Qi (fun r y => r = (goF x a0).1 ∧ y = (goF x a0).2) (mAft D cI cJ ad A) A) args s 0 0 A) (F0 m 47 ls []) := by
        intro n
        induction n with
        | zero => intro k hn hk; exact absurd hn (by omega)
        | succ n ih47 =>
          intro k hn hk H locs hP hD hS ls hl
          refine lv_iload_n hx hb dX12_go_47 rfl (lv_at hl 0 rfl) ?_
          refine lv_aload_n hx hb dX12_go_48 rfl (lv_at hl 1 rfl) ?_
          refine M_get hx hb hts hin hown hK hP 4 (by decide) rfl (index := 168) (by decide +kernel) rfl dX12_go_49 ?_
          refine lv_topi (fun v49 ev49 => ?_)
          refine lv_icmp_ge (tgt := 96) hx hb dX12_go_52 (by decide) (fun c52 => ?_) (fun c52 => ?_)
          · skip
            simp only [ev49] at c52
            have hkN : k = nN x 4 := by simp only [goX, mI_sI, mI_sA, mI_sL, mI_sB, mL_sI, mL_sA, mL_sL, mL_sB, mA_sI, mA_sA, mA_sL, mA_sB, mB_sI, mB_sA, mB_sL, mB_sB] at c52; simp at c52; rw [hN] at c52; have := (nI_leI (by omega) (by omega)).mp c52; omega
            refine lv_aload_n hx hb dX12_go_96 rfl (lv_at hl 1 rfl) ?_
            refine lv_aload_n hx hb dX12_go_97 rfl (lv_at hl 1 rfl) ?_
            refine M_get hx hb hts hin hown hK hP 2 (by decide) rfl (index := 189) (by decide +kernel) rfl dX12_go_98 ?_
            refine lv_topi (fun v98 ev98 => ?_)
            refine M_calli (av := [.int v98]) (rest := []) ⟨hx, hb, hml, hown, hts⟩ hA hK hP hD hS (c_told l D cI cJ ad (goX x (mI x 2 + a0) k) (v98) ) (cwV 1 hts gX12_go_X12_told rfl rfl rfl (by decide +kernel) ⟨Nat.le_of_ble_eq_true rfl, Nat.le_of_ble_eq_true rfl⟩) rfl hl.1 rfl (Nat.le_of_ble_eq_true rfl) dX12_go_101 ⟨Nat.le_of_ble_eq_true rfl, Nat.le_of_ble_eq_true rfl⟩ (fun r101 y101 H locs hw101 hP hD hS => ?_)
            obtain ⟨er101, ey101⟩ := hw101
            refine M_iret (v := r101) hx hb hr hlocks hK hP hD hS dX12_go_104 ?_
            simp only [er101, ey101, ev98, hkN]; simp [goF, c14, c26, goX, mI_sI, mI_sA, mI_sL, mI_sB, mL_sI, mL_sA, mL_sL, mL_sB, mA_sI, mA_sA, mA_sL, mA_sB, mB_sI, mB_sA, mB_sL, mB_sB]
          · skip
            simp only [ev49] at c52
            have hkN : k < nN x 4 := by
              simp only [goX, mI_sI, mI_sA, mI_sL, mI_sB, mL_sI, mL_sA, mL_sL, mL_sB, mA_sI, mA_sA, mA_sL, mA_sB, mB_sI, mB_sA, mB_sL, mB_sB] at c52
              simp only [Nat.reduceEqDiff, if_false, ite_false, reduceIte] at c52
              rw [hN] at c52
              rcases Nat.lt_or_ge k (nN x 4) with q | q
              · exact q
              · exact absurd (nI_le q (by omega)) c52
            refine lv_aload_n hx hb dX12_go_55 rfl (lv_at hl 1 rfl) ?_
            refine M_get hx hb hts hin hown hK hP 7 (by decide) rfl (index := 19) (by decide +kernel) rfl dX12_go_56 ?_
            refine lv_iload_n hx hb dX12_go_59 rfl (lv_at hl 0 rfl) ?_
            have h60 : vp_in ((nI k)) 200 := by exact vp_in_nI (by omega) (by decide)
            refine va_iald hx hb hK hP 4 0 rfl rfl h60 dX12_go_60 ?_
            refine lv_topi (fun v60 ev60 => ?_)
            rw [nI_clamp (by omega)] at ev60
            refine lv_aload_n hx hb dX12_go_61 rfl (lv_at hl 1 rfl) ?_
            refine M_get hx hb hts hin hown hK hP 2 (by decide) rfl (index := 189) (by decide +kernel) rfl dX12_go_62 ?_
            refine lv_topi (fun v62 ev62 => ?_)
            refine lv_icmp_ge (tgt := 90) hx hb dX12_go_65 (by decide) (fun c65 => ?_) (fun c65 => ?_)
            · skip
              simp only [ev62, ev60] at c65
              obtain ⟨x90, ex90⟩ : ∃ y : Int32, y = (nI k) + 1 := ⟨_, rfl⟩
              refine lv_iinc (v := x90) (lv' := [(2, .int x90), (0, .ref (ad 0)), (1, .int a0)]) hx hb dX12_go_90 hl (k := 0) rfl (by rw [ex90]; rfl) (by decide) rfl (fun ls hl => ?_)
              refine lv_goto (tgt := 47) hx hb dX12_go_93 (by decide) ?_
              have q2 : x90 = (nI (k + 1)) := by rw [ex90]; exact nI_1 k
              rw [q2] at hl
              have qx : (goX x (mI x 2 + a0) k) = (goX x (mI x 2 + a0) (k + 1)) := by exact goX_keep x _ k (by simpa [goX, mI_sI, mI_sA, mI_sL, mI_sB, mL_sI, mL_sA, mL_sL, mL_sB, mA_sI, mA_sA, mA_sL, mA_sB, mB_sI, mB_sA, mB_sL, mB_sB] using c65)
              rw [qx] at hP hD
              exact ih47 (k + 1) (by omega) (by omega) _ _ hP hD hS ls (lv_sub hl [0, 1, 2] rfl)
            · skip
              simp only [ev62, ev60] at c65
              refine lv_aload_n hx hb dX12_go_68 rfl (lv_at hl 1 rfl) ?_
              refine M_get hx hb hts hin hown hK hP 12 (by decide) rfl (index := 34) (by decide +kernel) rfl dX12_go_69 ?_
              refine lv_iload_n hx hb dX12_go_72 rfl (lv_at hl 0 rfl) ?_
              refine lv_dup2_11 hx hb dX12_go_73 rfl rfl ?_
              have h74 : vp_in ((nI k)) 200 := by exact vp_in_nI (by omega) (by decide)
              refine va_iald hx hb hK hP 9 0 rfl rfl h74 dX12_go_74 ?_
              refine lv_topi (fun v74 ev74 => ?_)
              rw [nI_clamp (by omega)] at ev74
              refine lv_aload_n hx hb dX12_go_75 rfl (lv_at hl 1 rfl) ?_
              refine M_get hx hb hts hin hown hK hP 9 (by decide) rfl (index := 25) (by decide +kernel) rfl dX12_go_76 ?_
              refine lv_iload_n hx hb dX12_go_79 rfl (lv_at hl 0 rfl) ?_
              have h80 : vp_in ((nI k)) 200 := by exact vp_in_nI (by omega) (by decide)
              refine va_iald hx hb hK hP 6 0 rfl rfl h80 dX12_go_80 ?_
              refine lv_topi (fun v80 ev80 => ?_)
              rw [nI_clamp (by omega)] at ev80
              refine lv_iadd hx hb dX12_go_81 ?_
              have h82 : vp_in ((nI k)) 200 := by exact vp_in_nI (by omega) (by decide)
              refine M_iast hx hb hK hP hD hS 9 rfl h82 (pA_12 cI cJ ad (goX x (mI x 2 + a0) k) _) dX12_go_82 (fun y82 H locs ey82 hP hD hS => ?_)
              rw [nI_clamp (by omega)] at ey82
              refine lv_aload_n hx hb dX12_go_83 rfl (lv_at hl 1 rfl) ?_
              refine M_get hx hb hts hin hown hK hP 9 (by decide) rfl (index := 25) (by decide +kernel) rfl dX12_go_84 ?_
              refine lv_iload_n hx hb dX12_go_87 rfl (lv_at hl 0 rfl) ?_
              refine lv_iconst (v := 0) hx hb dX12_go_88 (by decide) ?_
              have h89 : vp_in ((nI k)) 200 := by exact vp_in_nI (by omega) (by decide)
              refine M_iast hx hb hK hP hD hS 6 rfl h89 (pA_9 cI cJ ad y82 _) dX12_go_89 (fun y89 H locs ey89 hP hD hS => ?_)
              rw [nI_clamp (by omega)] at ey89
              obtain ⟨x90, ex90⟩ : ∃ y : Int32, y = (nI k) + 1 := ⟨_, rfl⟩
              refine lv_iinc (v := x90) (lv' := [(2, .int x90), (0, .ref (ad 0)), (1, .int a0)]) hx hb dX12_go_90 hl (k := 0) rfl (by rw [ex90]; rfl) (by decide) rfl (fun ls hl => ?_)
              refine lv_goto (tgt := 47) hx hb dX12_go_93 (by decide) ?_
              have q2 : x90 = (nI (k + 1)) := by rw [ex90]; exact nI_1 k
              rw [q2] at hl
              have qx : y89 = (goX x (mI x 2 + a0) (k + 1)) := by rw [ey89, ey82, ev74, ev80]; exact goX_step x _ k (by simpa [goX, mI_sI, mI_sA, mI_sL, mI_sB, mL_sI, mL_sA, mL_sL, mL_sB, mA_sI, mA_sA, mA_sL, mA_sB, mB_sI, mB_sA, mB_sL, mB_sB] using c65)
              rw [qx] at hP hD
              exact ih47 (k + 1) (by omega) (by omega) _ _ hP hD hS ls (lv_sub hl [0, 1, 2] rfl)
      have q2 : x46 = (nI 0) := by rw [ex46]; exact nI_0.symm
      rw [q2] at hl
      have qx : y42 = (goX x (mI x 2 + a0) 0) := by rw [ey42, ev37]; exact goX_0 x _
      rw [qx] at hP hD
      exact lp47 (nN x 4 + 1) 0 (by omega) (by omega) _ _ hP hD hS ls (lv_sub hl [0, 1, 2] rfl)
    · skip
      simp only [ev18] at c26
      refine lv_aload_n hx hb dX12_go_29 rfl (lv_at hl 0 rfl) ?_
      refine lv_iconst (v := -1) hx hb dX12_go_30 (by decide) ?_
      refine M_calli (av := [.int (-1 : Int32)]) (rest := []) ⟨hx, hb, hml, hown, hts⟩ hA hK hP hD hS (c_told l D cI cJ ad x ((-1 : Int32)) ) (cwV 1 hts gX12_go_X12_told rfl rfl rfl (by decide +kernel) ⟨Nat.le_of_ble_eq_true rfl, Nat.le_of_ble_eq_true rfl⟩) rfl hl.1 rfl (Nat.le_of_ble_eq_true rfl) dX12_go_31 ⟨Nat.le_of_ble_eq_true rfl, Nat.le_of_ble_eq_true rfl⟩ (fun r31 y31 H locs hw31 hP hD hS => ?_)
      obtain ⟨er31, ey31⟩ := hw31
      refine M_iret (v := r31) hx hb hr hlocks hK hP hD hS dX12_go_34 ?_
      simp only [hw11, ev18, er31, ey31, goF, c14, c26, not_true_eq_false, not_false_eq_true, and_true, true_and, and_false, false_and, and_self, if_true, if_false, ite_true, ite_false, ↓reduceIte, Int32.add_zero, Bool.not_eq_false, Bool.and_true, Bool.true_and, Bool.and_false, Bool.false_and, Bool.false_eq_true, decide_false]

set_option maxHeartbeats 4000000 in
set_option maxRecDepth 100000 in
theorem c_want (l : Launch) (D : va_G) (cI cJ : ClassId) (ad : Nat → Nat) (x : MS) (a0 : Int32) (a1 : Int32) (a2 : Int32) (h0 : mI x 0 = 0) (h13 : okN x 13 12) : Mi l yX12_want wsX12_want { frames := 2, cells := 0, slots := 0, locals := 46 } D cI cJ ad [.int a0, .int a1, .int a2] x (fun r y => r = (wantF x a0 a1 a2).1 ∧ y = (wantF x a0 a1 a2).2) := by
  refine Mi_of (cc := cX12_want) (nL := 5) (ret := (some .int)) (by decide) rfl rfl (Nat.le_of_ble_eq_true rfl) ?_
  intro p e s m args below meth c A hx hb hr hlocks hml hts hown hA hK hP hD hS ls hl
  have hin : ∀ w ∈ wsX120, w ∈ wsX12_want := fun w h => List.mem_cons_of_mem _ (List.mem_append_right _ h)
  have hl : lv_has ls 5 [(0, .ref (ad 0)), (1, .int a0), (2, .int a1), (3, .int a2)] := hl
  refine lv_aload_n hx hb dX12_want_0 rfl (lv_at hl 0 rfl) ?_
  refine lv_iconst (v := 0) hx hb dX12_want_1 (by decide) ?_
  refine M_put hx hb hts hin hown hK hP hD hS 0 (by decide) rfl rfl (index := 156) (by decide +kernel) (ty := .int) (by decide +kernel) rfl rfl (pI_0 cI cJ ad x _) dX12_want_2 (fun y2 H locs ey2 hP hD hS => ?_)
  rw [ey2.trans (sI_0 h0)] at hP hD
  refine lv_iload_n hx hb dX12_want_5 rfl (lv_at hl 2 rfl) ?_
  refine S_calli (av := [.int a1]) (rest := []) ⟨hx, hb, hml, hown, hts⟩ (c_isKind l (a1) ) (va_cwS 1 hts gX12_want_X12_isKind rfl rfl rfl (by decide +kernel) ⟨Nat.le_of_ble_eq_true rfl, Nat.le_of_ble_eq_true rfl⟩) rfl hl.1 rfl (Nat.le_of_ble_eq_true rfl) dX12_want_6 ⟨Nat.le_of_ble_eq_true rfl, Nat.le_of_ble_eq_true rfl⟩ (fun r6 hw6 => ?_)
  refine lv_if_eq (tgt := 24) hx hb dX12_want_9 (by decide) (fun c9 => ?_) (fun c9 => ?_)
  · skip
    simp only [hw6, bI_0, bI_1, Bool.not_eq_false] at c9
    refine lv_aload_n hx hb dX12_want_24 rfl (lv_at hl 0 rfl) ?_
    refine lv_iconst (v := -1) hx hb dX12_want_25 (by decide) ?_
    refine M_calli (av := [.int (-1 : Int32)]) (rest := []) ⟨hx, hb, hml, hown, hts⟩ hA hK hP hD hS (c_told l D cI cJ ad x ((-1 : Int32)) ) (cwV 1 hts gX12_want_X12_told rfl rfl rfl (by decide +kernel) ⟨Nat.le_of_ble_eq_true rfl, Nat.le_of_ble_eq_true rfl⟩) rfl hl.1 rfl (Nat.le_of_ble_eq_true rfl) dX12_want_26 ⟨Nat.le_of_ble_eq_true rfl, Nat.le_of_ble_eq_true rfl⟩ (fun r26 y26 H locs hw26 hP hD hS => ?_)
    obtain ⟨er26, ey26⟩ := hw26
    refine M_iret (v := r26) hx hb hr hlocks hK hP hD hS dX12_want_29 ?_
    simp only [hw6, er26, ey26, wantF, c9, not_true_eq_false, not_false_eq_true, and_true, true_and, and_false, false_and, and_self, if_true, if_false, ite_true, ite_false, ↓reduceIte, Int32.add_zero, Bool.not_eq_false, Bool.and_true, Bool.true_and, Bool.and_false, Bool.false_and, Bool.false_eq_true]
  · skip
    simp only [hw6, bI_0, bI_1, Bool.not_eq_false] at c9
    refine lv_iload_n hx hb dX12_want_12 rfl (lv_at hl 3 rfl) ?_
    refine lv_i2l hx hb dX12_want_13 rfl ?_
    refine lv_lconst (v := 0) hx hb dX12_want_14 (by decide) ?_
    refine lv_ldc2 (v := 1000000) hx hb hown (hts (.constantLong RX12 187 (1000000)) (by decide +kernel)) dX12_want_15 ?_
    refine S_calli (av := [.long a2.toInt64, .long (0 : Int64), .long (1000000 : Int64)]) (rest := []) ⟨hx, hb, hml, hown, hts⟩ (c_in l (a2.toInt64) ((0 : Int64)) ((1000000 : Int64)) ) (va_cwS 3 hts gX12_want_X12_in rfl rfl rfl (by decide +kernel) ⟨Nat.le_of_ble_eq_true rfl, Nat.le_of_ble_eq_true rfl⟩) rfl hl.1 rfl (Nat.le_of_ble_eq_true rfl) dX12_want_18 ⟨Nat.le_of_ble_eq_true rfl, Nat.le_of_ble_eq_true rfl⟩ (fun r18 hw18 => ?_)
    rw [show inL a2.toInt64 (0) 1000000 = isB a2 0 1000000 from inL_i a2 0 1000000] at hw18
    refine lv_if_ne (tgt := 30) hx hb dX12_want_21 (by decide) (fun c21 => ?_) (fun c21 => ?_)
    · skip
      simp only [hw18, bI_0, bI_1, Bool.not_eq_false] at c21
      refine lv_aload_n hx hb dX12_want_30 rfl (lv_at hl 0 rfl) ?_
      refine lv_iload_n hx hb dX12_want_31 rfl (lv_at hl 1 rfl) ?_
      refine M_callr (av := [.int a0]) (rest := []) ⟨hx, hb, hml, hown, hts⟩ hA hK hP hD hS (c_isTable l D cI cJ ad x (a0) ) (cwV 1 hts gX12_want_X12_isTable rfl rfl rfl (by decide +kernel) ⟨Nat.le_of_ble_eq_true rfl, Nat.le_of_ble_eq_true rfl⟩) rfl hl.1 rfl (Nat.le_of_ble_eq_true rfl) dX12_want_32 ⟨Nat.le_of_ble_eq_true rfl, Nat.le_of_ble_eq_true rfl⟩ (fun r32 H locs hw32 hP hD hS => ?_)
      refine lv_if_ne (tgt := 45) hx hb dX12_want_35 (by decide) (fun c35 => ?_) (fun c35 => ?_)
      · skip
        simp only [hw32, bI_0, bI_1, Bool.not_eq_false] at c35
        refine lv_aload_n hx hb dX12_want_45 rfl (lv_at hl 0 rfl) ?_
        refine M_get hx hb hts hin hown hK hP 14 (by decide) rfl (index := 37) (by decide +kernel) rfl dX12_want_46 ?_
        refine lv_bipush (v := 10) hx hb dX12_want_49 (by decide) ?_
        refine lv_iload_n hx hb dX12_want_51 rfl (lv_at hl 1 rfl) ?_
        refine lv_imul hx hb dX12_want_52 ?_
        refine lv_iload_n hx hb dX12_want_53 rfl (lv_at hl 2 rfl) ?_
        refine lv_iadd hx hb dX12_want_54 ?_
        have h55 : vp_in ((((10 : Int32) * a0) + a1)) 120 := by exact w_in h13 c35 c9
        refine va_iald hx hb hK hP 10 0 rfl rfl h55 dX12_want_55 ?_
        refine lv_topi (fun v55 ev55 => ?_)
        refine lv_topi (fun x56 ex56 => ?_)
        refine lv_istore (lv' := [(4, .int x56), (0, .ref (ad 0)), (1, .int a0), (2, .int a1), (3, .int a2)]) hx hb dX12_want_56 hl (by decide) rfl (fun ls hl => ?_)
        refine lv_aload_n hx hb dX12_want_58 rfl (lv_at hl 1 rfl) ?_
        refine M_get hx hb hts hin hown hK hP 14 (by decide) rfl (index := 37) (by decide +kernel) rfl dX12_want_59 ?_
        refine lv_bipush (v := 10) hx hb dX12_want_62 (by decide) ?_
        refine lv_iload_n hx hb dX12_want_64 rfl (lv_at hl 2 rfl) ?_
        refine lv_imul hx hb dX12_want_65 ?_
        refine lv_iload_n hx hb dX12_want_66 rfl (lv_at hl 3 rfl) ?_
        refine lv_iadd hx hb dX12_want_67 ?_
        refine lv_iload_n hx hb dX12_want_68 rfl (lv_at hl 4 rfl) ?_
        have h69 : vp_in ((((10 : Int32) * a0) + a1)) 120 := by exact w_in h13 c35 c9
        refine M_iast hx hb hK hP hD hS 10 rfl h69 (pA_14 cI cJ ad x _) dX12_want_69 (fun y69 H locs ey69 hP hD hS => ?_)
        refine lv_aload_n hx hb dX12_want_70 rfl (lv_at hl 1 rfl) ?_
        refine lv_iload hx hb dX12_want_71 (lv_at hl 0 rfl) ?_
        refine M_calli (av := [.int x56]) (rest := []) ⟨hx, hb, hml, hown, hts⟩ hA hK hP hD hS (c_told l D cI cJ ad y69 (x56) ) (cwV 1 hts gX12_want_X12_told rfl rfl rfl (by decide +kernel) ⟨Nat.le_of_ble_eq_true rfl, Nat.le_of_ble_eq_true rfl⟩) rfl hl.1 rfl (Nat.le_of_ble_eq_true rfl) dX12_want_73 ⟨Nat.le_of_ble_eq_true rfl, Nat.le_of_ble_eq_true rfl⟩ (fun r73 y73 H locs hw73 hP hD hS => ?_)
        obtain ⟨er73, ey73⟩ := hw73
        refine M_iret (v := r73) hx hb hr hlocks hK hP hD hS dX12_want_76 ?_
        simp only [hw6, hw18, hw32, ev55, ex56, ey69, er73, ey73, wantF, c9, c21, c35, not_true_eq_false, not_false_eq_true, and_true, true_and, and_false, false_and, and_self, if_true, if_false, ite_true, ite_false, ↓reduceIte, Int32.add_zero, Bool.not_eq_false, Bool.and_true, Bool.true_and, Bool.and_false, Bool.false_and, Bool.false_eq_true]
      · skip
        simp only [hw32, bI_0, bI_1, Bool.not_eq_false] at c35
        refine lv_aload_n hx hb dX12_want_38 rfl (lv_at hl 0 rfl) ?_
        refine lv_bipush (v := -2) hx hb dX12_want_39 (by decide) ?_
        refine M_calli (av := [.int (-2 : Int32)]) (rest := []) ⟨hx, hb, hml, hown, hts⟩ hA hK hP hD hS (c_told l D cI cJ ad x ((-2 : Int32)) ) (cwV 1 hts gX12_want_X12_told rfl rfl rfl (by decide +kernel) ⟨Nat.le_of_ble_eq_true rfl, Nat.le_of_ble_eq_true rfl⟩) rfl hl.1 rfl (Nat.le_of_ble_eq_true rfl) dX12_want_41 ⟨Nat.le_of_ble_eq_true rfl, Nat.le_of_ble_eq_true rfl⟩ (fun r41 y41 H locs hw41 hP hD hS => ?_)
        obtain ⟨er41, ey41⟩ := hw41
        refine M_iret (v := r41) hx hb hr hlocks hK hP hD hS dX12_want_44 ?_
        simp only [hw6, hw18, hw32, er41, ey41, wantF, c9, c21, c35, not_true_eq_false, not_false_eq_true, and_true, true_and, and_false, false_and, and_self, if_true, if_false, ite_true, ite_false, ↓reduceIte, Int32.add_zero, Bool.not_eq_false, Bool.and_true, Bool.true_and, Bool.and_false, Bool.false_and, Bool.false_eq_true]
    · skip
      simp only [hw18, bI_0, bI_1, Bool.not_eq_false] at c21
      refine lv_aload_n hx hb dX12_want_24 rfl (lv_at hl 0 rfl) ?_
      refine lv_iconst (v := -1) hx hb dX12_want_25 (by decide) ?_
      refine M_calli (av := [.int (-1 : Int32)]) (rest := []) ⟨hx, hb, hml, hown, hts⟩ hA hK hP hD hS (c_told l D cI cJ ad x ((-1 : Int32)) ) (cwV 1 hts gX12_want_X12_told rfl rfl rfl (by decide +kernel) ⟨Nat.le_of_ble_eq_true rfl, Nat.le_of_ble_eq_true rfl⟩) rfl hl.1 rfl (Nat.le_of_ble_eq_true rfl) dX12_want_26 ⟨Nat.le_of_ble_eq_true rfl, Nat.le_of_ble_eq_true rfl⟩ (fun r26 y26 H locs hw26 hP hD hS => ?_)
      obtain ⟨er26, ey26⟩ := hw26
      refine M_iret (v := r26) hx hb hr hlocks hK hP hD hS dX12_want_29 ?_
      simp only [hw6, hw18, er26, ey26, wantF, c9, c21, not_true_eq_false, not_false_eq_true, and_true, true_and, and_false, false_and, and_self, if_true, if_false, ite_true, ite_false, ↓reduceIte, Int32.add_zero, Bool.not_eq_false, Bool.and_true, Bool.true_and, Bool.and_false, Bool.false_and, Bool.false_eq_true]

set_option maxHeartbeats 4000000 in
set_option maxRecDepth 100000 in
theorem c_upTo (l : Launch) (D : va_G) (cI cJ : ClassId) (ad : Nat → Nat) (x : MS) (q : Nat) (lv : Int64) (hq : q < 10) (h13 : okN x 13 12) : Ml l yX12_upTo wsX12_upTo { frames := 0, cells := 0, slots := 0, locals := 0 } D cI cJ ad [.int (nI q), .long lv] x (fun r y => y = x ∧ r = upN x q lv (nN x 13)) := by
  have hN := h13.1
  have hN2 := h13.2
  refine Ml_of (cc := cX12_upTo) (nL := 8) (ret := (some .long)) (by decide) rfl rfl (Nat.le_of_ble_eq_true rfl) ?_
  intro p e s m args below meth c A hx hb hr hlocks hml hts hown hA hK hP hD hS ls hl
  have hin : ∀ w ∈ wsX120, w ∈ wsX12_upTo := fun w h => List.mem_cons_of_mem _ (List.mem_append_right _ h)
  have hl : lv_has ls 8 [(0, .ref (ad 0)), (1, .int (nI q)), (2, .long lv)] := hl
  refine lv_lconst (v := 0) hx hb dX12_upTo_0 (by decide) ?_
  refine lv_topl (fun x1 ex1 => ?_)
  refine lv_lstore (lv' := [(4, .long x1), (0, .ref (ad 0)), (1, .int (nI q)), (2, .long lv)]) hx hb dX12_upTo_1 hl (by decide) rfl (fun ls hl => ?_)
  refine lv_iconst (v := 0) hx hb dX12_upTo_3 (by decide) ?_
  refine lv_topi (fun x4 ex4 => ?_)
  refine lv_istore (lv' := [(6, .int x4), (4, .long x1), (0, .ref (ad 0)), (1, .int (nI q)), (2, .long lv)]) hx hb dX12_upTo_4 hl (by decide) rfl (fun ls hl => ?_)
  have lp6 : ∀ (n : Nat) (k : Nat), (nN x 13 < k + n) → (k ≤ nN x 13) → ∀ (H : Heap) (locs : List Loc), va_P D vwCl (wsM cI cJ ad x) H → va_D A (wsM cI cJ ad x) → va_S A s.heap H locs → ∀ ls : Array Slot, lv_has ls 8 [(6, .int (nI k)), (4, .long (upN x q lv k)), (0, .ref (ad 0)), (1, .int (nI q)), (2, .long lv)] → W p l e { frames := 0, cells := 0, slots := 0, locals := 0 } s m args below meth c H locs 0 0 (MQ below (va_Ql (fun r y => y = x ∧ r = upN x q lv (nN x 13)) (mAft D cI cJ ad A) A) args s 0 0 A) (F0 m 6 ls []) := by
    intro n
    induction n with
    | zero => intro k hn hk; exact absurd hn (by omega)
    | succ n ih6 =>
      intro k hn hk H locs hP hD hS ls hl
      refine lv_iload hx hb dX12_upTo_6 (lv_at hl 0 rfl) ?_
      refine lv_aload_n hx hb dX12_upTo_8 rfl (lv_at hl 2 rfl) ?_
      refine M_get hx hb hts hin hown hK hP 13 (by decide) rfl (index := 171) (by decide +kernel) rfl dX12_upTo_9 ?_
      refine lv_topi (fun v9 ev9 => ?_)
      refine lv_icmp_ge (tgt := 55) hx hb dX12_upTo_12 (by decide) (fun c12 => ?_) (fun c12 => ?_)
      · skip
        simp only [ev9] at c12
        have hkN : k = nN x 13 := by rw [hN] at c12; have := (nI_leI (by omega) (by omega)).mp c12; omega
        refine lv_lload hx hb dX12_upTo_55 (lv_at hl 1 rfl) ?_
        refine M_lret (v := (upN x q lv k)) hx hb hr hlocks hK hP hD hS dX12_upTo_57 ?_
        simp only [hkN, not_true_eq_false, not_false_eq_true, and_true, true_and, and_false, false_and, and_self, if_true, if_false, ite_true, ite_false, ↓reduceIte, Int32.add_zero, Bool.not_eq_false, Bool.and_true, Bool.true_and, Bool.and_false, Bool.false_and, Bool.false_eq_true]
      · skip
        simp only [ev9] at c12
        have hkN : k < nN x 13 := by
          rw [hN] at c12
          rcases Nat.lt_or_ge k (nN x 13) with q | q
          · exact q
          · exact absurd (nI_le q (by omega)) c12
        refine lv_aload_n hx hb dX12_upTo_15 rfl (lv_at hl 2 rfl) ?_
        refine M_get hx hb hts hin hown hK hP 14 (by decide) rfl (index := 37) (by decide +kernel) rfl dX12_upTo_16 ?_
        refine lv_bipush (v := 10) hx hb dX12_upTo_19 (by decide) ?_
        refine lv_iload hx hb dX12_upTo_21 (lv_at hl 0 rfl) ?_
        refine lv_imul hx hb dX12_upTo_23 ?_
        refine lv_iload_n hx hb dX12_upTo_24 rfl (lv_at hl 3 rfl) ?_
        refine lv_iadd hx hb dX12_upTo_25 ?_
        rw [wI10 k q]
        have h26 : vp_in ((nI (10 * k + q))) 120 := by exact vp_in_nI (by omega) (by decide)
        refine va_iald hx hb hK hP 10 0 rfl rfl h26 dX12_upTo_26 ?_
        refine lv_topi (fun v26 ev26 => ?_)
        rw [nI_clamp (by omega)] at ev26
        refine lv_topi (fun x27 ex27 => ?_)
        refine lv_istore (lv' := [(7, .int x27), (6, .int (nI k)), (4, .long (upN x q lv k)), (0, .ref (ad 0)), (1, .int (nI q)), (2, .long lv)]) hx hb dX12_upTo_27 hl (by decide) rfl (fun ls hl => ?_)
        refine lv_lload hx hb dX12_upTo_29 (lv_at hl 2 rfl) ?_
        refine lv_iload hx hb dX12_upTo_31 (lv_at hl 0 rfl) ?_
        refine lv_i2l hx hb dX12_upTo_33 rfl ?_
        refine lv_lload_n hx hb dX12_upTo_34 rfl (lv_at hl 5 rfl) ?_
        refine W.lcmp hx hb dX12_upTo_35 ?_
        refine lv_if_ge (tgt := 45) hx hb dX12_upTo_36 (by decide) (fun c36 => ?_) (fun c36 => ?_)
        · skip
          simp only [ex27, ev26, lg_cmp_lt, lg_cmp_le, lg_cmp_gt, lg_cmp_ge, lg_cmp_eq] at c36
          refine lv_lload_n hx hb dX12_upTo_45 rfl (lv_at hl 5 rfl) ?_
          refine lv_ladd hx hb dX12_upTo_46 ?_
          refine lv_topl (fun x47 ex47 => ?_)
          refine lv_lstore (lv' := [(4, .long x47), (7, .int x27), (6, .int (nI k)), (0, .ref (ad 0)), (1, .int (nI q)), (2, .long lv)]) hx hb dX12_upTo_47 hl (by decide) rfl (fun ls hl => ?_)
          obtain ⟨x49, ex49⟩ : ∃ y : Int32, y = (nI k) + 1 := ⟨_, rfl⟩
          refine lv_iinc (v := x49) (lv' := [(6, .int x49), (4, .long x47), (7, .int x27), (0, .ref (ad 0)), (1, .int (nI q)), (2, .long lv)]) hx hb dX12_upTo_49 hl (k := 2) rfl (by rw [ex49]; rfl) (by decide) rfl (fun ls hl => ?_)
          refine lv_goto (tgt := 6) hx hb dX12_upTo_52 (by decide) ?_
          have q6 : x49 = (nI (k + 1)) := by rw [ex49]; exact nI_1 k
          have q4 : x47 = (upN x q lv (k + 1)) := by simp only [ex1, ex4, ev9, ev26, ex27, ex47, ex49, upN_s, c12, c36, not_true_eq_false, not_false_eq_true, and_true, true_and, and_false, false_and, and_self, if_true, if_false, ite_true, ite_false, ↓reduceIte, Int32.add_zero, Bool.not_eq_false, Bool.and_true, Bool.true_and, Bool.and_false, Bool.false_and, Bool.false_eq_true]
          rw [q6, q4] at hl
          exact ih6 (k + 1) (by omega) (by omega) _ _ hP hD hS ls (lv_sub hl [0, 1, 3, 4, 5] rfl)
        · skip
          simp only [ex27, ev26, lg_cmp_lt, lg_cmp_le, lg_cmp_gt, lg_cmp_ge, lg_cmp_eq] at c36
          refine lv_iload hx hb dX12_upTo_39 (lv_at hl 0 rfl) ?_
          refine lv_i2l hx hb dX12_upTo_41 rfl ?_
          refine lv_goto (tgt := 46) hx hb dX12_upTo_42 (by decide) ?_
          refine lv_ladd hx hb dX12_upTo_46 ?_
          refine lv_topl (fun x47 ex47 => ?_)
          refine lv_lstore (lv' := [(4, .long x47), (7, .int x27), (6, .int (nI k)), (0, .ref (ad 0)), (1, .int (nI q)), (2, .long lv)]) hx hb dX12_upTo_47 hl (by decide) rfl (fun ls hl => ?_)
          obtain ⟨x49, ex49⟩ : ∃ y : Int32, y = (nI k) + 1 := ⟨_, rfl⟩
          refine lv_iinc (v := x49) (lv' := [(6, .int x49), (4, .long x47), (7, .int x27), (0, .ref (ad 0)), (1, .int (nI q)), (2, .long lv)]) hx hb dX12_upTo_49 hl (k := 2) rfl (by rw [ex49]; rfl) (by decide) rfl (fun ls hl => ?_)
          refine lv_goto (tgt := 6) hx hb dX12_upTo_52 (by decide) ?_
          have q6 : x49 = (nI (k + 1)) := by rw [ex49]; exact nI_1 k
          have q4 : x47 = (upN x q lv (k + 1)) := by simp only [ex1, ex4, ev9, ev26, ex27, ex47, ex49, upN_s, c12, c36, not_true_eq_false, not_false_eq_true, and_true, true_and, and_false, false_and, and_self, if_true, if_false, ite_true, ite_false, ↓reduceIte, Int32.add_zero, Bool.not_eq_false, Bool.and_true, Bool.true_and, Bool.and_false, Bool.false_and, Bool.false_eq_true]
          rw [q6, q4] at hl
          exact ih6 (k + 1) (by omega) (by omega) _ _ hP hD hS ls (lv_sub hl [0, 1, 3, 4, 5] rfl)
  have q6 : x4 = (nI 0) := by rw [ex4]; exact nI_0.symm
  have q4 : x1 = (upN x q lv 0) := by rw [ex1]; rfl
  rw [q6, q4] at hl
  exact lp6 (nN x 13 + 1) 0 (by omega) (by omega) _ _ hP hD hS ls (lv_sub hl [0, 1, 2, 3, 4] rfl)

set_option maxHeartbeats 4000000 in
set_option maxRecDepth 100000 in
theorem c_got (l : Launch) (D : va_G) (cI cJ : ClassId) (ad : Nat → Nat) (x : MS) (a0 : Int32) (a1 : Int32) (h0 : mI x 0 = 0) (h13 : okN x 13 12) : Mi l yX12_got wsX12_got { frames := 2, cells := 0, slots := 0, locals := 46 } D cI cJ ad [.int a0, .int a1] x (fun r y => y = x ∧ r = gotF x a0 a1) := by
  refine Mi_of (cc := cX12_got) (nL := 3) (ret := (some .int)) (by decide) rfl rfl (Nat.le_of_ble_eq_true rfl) ?_
  intro p e s m args below meth c A hx hb hr hlocks hml hts hown hA hK hP hD hS ls hl
  have hin : ∀ w ∈ wsX120, w ∈ wsX12_got := fun w h => List.mem_cons_of_mem _ (List.mem_append_right _ h)
  have hl : lv_has ls 3 [(0, .ref (ad 0)), (1, .int a0), (2, .int a1)] := hl
  refine lv_aload_n hx hb dX12_got_0 rfl (lv_at hl 0 rfl) ?_
  refine lv_iconst (v := 0) hx hb dX12_got_1 (by decide) ?_
  refine M_put hx hb hts hin hown hK hP hD hS 0 (by decide) rfl rfl (index := 156) (by decide +kernel) (ty := .int) (by decide +kernel) rfl rfl (pI_0 cI cJ ad x _) dX12_got_2 (fun y2 H locs ey2 hP hD hS => ?_)
  rw [ey2.trans (sI_0 h0)] at hP hD
  refine lv_aload_n hx hb dX12_got_5 rfl (lv_at hl 0 rfl) ?_
  refine lv_iload_n hx hb dX12_got_6 rfl (lv_at hl 1 rfl) ?_
  refine M_callr (av := [.int a0]) (rest := []) ⟨hx, hb, hml, hown, hts⟩ hA hK hP hD hS (c_isTable l D cI cJ ad x (a0) ) (cwV 1 hts gX12_got_X12_isTable rfl rfl rfl (by decide +kernel) ⟨Nat.le_of_ble_eq_true rfl, Nat.le_of_ble_eq_true rfl⟩) rfl hl.1 rfl (Nat.le_of_ble_eq_true rfl) dX12_got_7 ⟨Nat.le_of_ble_eq_true rfl, Nat.le_of_ble_eq_true rfl⟩ (fun r7 H locs hw7 hP hD hS => ?_)
  refine lv_if_eq (tgt := 35) hx hb dX12_got_10 (by decide) (fun c10 => ?_) (fun c10 => ?_)
  · skip
    simp only [hw7, bI_0, bI_1, Bool.not_eq_false] at c10
    refine lv_iconst (v := -1) hx hb dX12_got_35 (by decide) ?_
    refine M_iret (v := (-1 : Int32)) hx hb hr hlocks hK hP hD hS dX12_got_36 ?_
    simp only [hw7, gotF, c10, not_true_eq_false, not_false_eq_true, and_true, true_and, and_false, false_and, and_self, if_true, if_false, ite_true, ite_false, ↓reduceIte, Int32.add_zero, Bool.not_eq_false, Bool.and_true, Bool.true_and, Bool.and_false, Bool.false_and, Bool.false_eq_true]
  · skip
    simp only [hw7, bI_0, bI_1, Bool.not_eq_false] at c10
    refine lv_iload_n hx hb dX12_got_13 rfl (lv_at hl 2 rfl) ?_
    refine S_calli (av := [.int a1]) (rest := []) ⟨hx, hb, hml, hown, hts⟩ (c_isKind l (a1) ) (va_cwS 1 hts gX12_got_X12_isKind rfl rfl rfl (by decide +kernel) ⟨Nat.le_of_ble_eq_true rfl, Nat.le_of_ble_eq_true rfl⟩) rfl hl.1 rfl (Nat.le_of_ble_eq_true rfl) dX12_got_14 ⟨Nat.le_of_ble_eq_true rfl, Nat.le_of_ble_eq_true rfl⟩ (fun r14 hw14 => ?_)
    refine lv_if_eq (tgt := 35) hx hb dX12_got_17 (by decide) (fun c17 => ?_) (fun c17 => ?_)
    · skip
      simp only [hw14, bI_0, bI_1, Bool.not_eq_false] at c17
      refine lv_iconst (v := -1) hx hb dX12_got_35 (by decide) ?_
      refine M_iret (v := (-1 : Int32)) hx hb hr hlocks hK hP hD hS dX12_got_36 ?_
      simp only [hw7, hw14, gotF, c10, c17, not_true_eq_false, not_false_eq_true, and_true, true_and, and_false, false_and, and_self, if_true, if_false, ite_true, ite_false, ↓reduceIte, Int32.add_zero, Bool.not_eq_false, Bool.and_true, Bool.true_and, Bool.and_false, Bool.false_and, Bool.false_eq_true]
    · skip
      simp only [hw14, bI_0, bI_1, Bool.not_eq_false] at c17
      refine lv_aload_n hx hb dX12_got_20 rfl (lv_at hl 0 rfl) ?_
      refine M_get hx hb hts hin hown hK hP 15 (by decide) rfl (index := 40) (by decide +kernel) rfl dX12_got_21 ?_
      refine lv_bipush (v := 10) hx hb dX12_got_24 (by decide) ?_
      refine lv_iload_n hx hb dX12_got_26 rfl (lv_at hl 1 rfl) ?_
      refine lv_imul hx hb dX12_got_27 ?_
      refine lv_iload_n hx hb dX12_got_28 rfl (lv_at hl 2 rfl) ?_
      refine lv_iadd hx hb dX12_got_29 ?_
      have h30 : vp_in ((((10 : Int32) * a0) + a1)) 120 := by exact w_in h13 c10 c17
      refine va_lald hx hb hK hP 11 1 rfl rfl h30 dX12_got_30 ?_
      refine lv_topl (fun v30 ev30 => ?_)
      refine lv_l2i hx hb dX12_got_31 rfl ?_
      refine lv_goto (tgt := 36) hx hb dX12_got_32 (by decide) ?_
      refine M_iret (v := v30.toInt32) hx hb hr hlocks hK hP hD hS dX12_got_36 ?_
      simp only [hw7, hw14, ev30, gotF, c10, c17, not_true_eq_false, not_false_eq_true, and_true, true_and, and_false, false_and, and_self, if_true, if_false, ite_true, ite_false, ↓reduceIte, Int32.add_zero, Bool.not_eq_false, Bool.and_true, Bool.true_and, Bool.and_false, Bool.false_and, Bool.false_eq_true]

set_option maxHeartbeats 4000000 in
set_option maxRecDepth 100000 in
theorem c_road (l : Launch) (D : va_G) (cI cJ : ClassId) (ad : Nat → Nat) (x : MS) (a0 : Int32) (a1 : Int32) (a2 : Int32) (h0 : mI x 0 = 0)  : Mi l yX12_road wsX12_road { frames := 1, cells := 0, slots := 0, locals := 25 } D cI cJ ad [.int a0, .int a1, .int a2] x (fun r y => r = (roadF x a0 a1 a2).1 ∧ y = (roadF x a0 a1 a2).2) := by
  refine Mi_of (cc := cX12_road) (nL := 4) (ret := (some .int)) (by decide) rfl rfl (Nat.le_of_ble_eq_true rfl) ?_
  intro p e s m args below meth c A hx hb hr hlocks hml hts hown hA hK hP hD hS ls hl
  have hin : ∀ w ∈ wsX120, w ∈ wsX12_road := fun w h => List.mem_cons_of_mem _ (List.mem_append_right _ h)
  have hl : lv_has ls 4 [(0, .ref (ad 0)), (1, .int a0), (2, .int a1), (3, .int a2)] := hl
  refine lv_aload_n hx hb dX12_road_0 rfl (lv_at hl 0 rfl) ?_
  refine lv_iconst (v := 0) hx hb dX12_road_1 (by decide) ?_
  refine M_put hx hb hts hin hown hK hP hD hS 0 (by decide) rfl rfl (index := 156) (by decide +kernel) (ty := .int) (by decide +kernel) rfl rfl (pI_0 cI cJ ad x _) dX12_road_2 (fun y2 H locs ey2 hP hD hS => ?_)
  rw [ey2.trans (sI_0 h0)] at hP hD
  refine lv_iload_n hx hb dX12_road_5 rfl (lv_at hl 1 rfl) ?_
  refine lv_i2l hx hb dX12_road_6 rfl ?_
  refine lv_lconst (v := 0) hx hb dX12_road_7 (by decide) ?_
  refine lv_ldc2 (v := 12) hx hb hown (hts (.constantLong RX12 199 (12)) (by decide +kernel)) dX12_road_8 ?_
  refine S_calli (av := [.long a0.toInt64, .long (0 : Int64), .long (12 : Int64)]) (rest := []) ⟨hx, hb, hml, hown, hts⟩ (c_in l (a0.toInt64) ((0 : Int64)) ((12 : Int64)) ) (va_cwS 3 hts gX12_road_X12_in rfl rfl rfl (by decide +kernel) ⟨Nat.le_of_ble_eq_true rfl, Nat.le_of_ble_eq_true rfl⟩) rfl hl.1 rfl (Nat.le_of_ble_eq_true rfl) dX12_road_11 ⟨Nat.le_of_ble_eq_true rfl, Nat.le_of_ble_eq_true rfl⟩ (fun r11 hw11 => ?_)
  rw [show inL a0.toInt64 (0) 12 = isB a0 0 12 from inL_i a0 0 12] at hw11
  refine lv_if_eq (tgt := 46) hx hb dX12_road_14 (by decide) (fun c14 => ?_) (fun c14 => ?_)
  · skip
    simp only [hw11, bI_0, bI_1, Bool.not_eq_false] at c14
    refine lv_aload_n hx hb dX12_road_46 rfl (lv_at hl 0 rfl) ?_
    refine lv_iconst (v := -1) hx hb dX12_road_47 (by decide) ?_
    refine M_calli (av := [.int (-1 : Int32)]) (rest := []) ⟨hx, hb, hml, hown, hts⟩ hA hK hP hD hS (c_told l D cI cJ ad x ((-1 : Int32)) ) (cwV 1 hts gX12_road_X12_told rfl rfl rfl (by decide +kernel) ⟨Nat.le_of_ble_eq_true rfl, Nat.le_of_ble_eq_true rfl⟩) rfl hl.1 rfl (Nat.le_of_ble_eq_true rfl) dX12_road_48 ⟨Nat.le_of_ble_eq_true rfl, Nat.le_of_ble_eq_true rfl⟩ (fun r48 y48 H locs hw48 hP hD hS => ?_)
    obtain ⟨er48, ey48⟩ := hw48
    refine M_iret (v := r48) hx hb hr hlocks hK hP hD hS dX12_road_51 ?_
    simp [hw11, er48, ey48, roadF, roadX, c14, mI_sI, mI_sA, mI_sL, mI_sB, mL_sI, mL_sA, mL_sL, mL_sB, mA_sI, mA_sA, mA_sL, mA_sB, mB_sI, mB_sA, mB_sL, mB_sB]
  · skip
    simp only [hw11, bI_0, bI_1, Bool.not_eq_false] at c14
    refine lv_iload_n hx hb dX12_road_17 rfl (lv_at hl 2 rfl) ?_
    refine lv_i2l hx hb dX12_road_18 rfl ?_
    refine lv_lconst (v := 0) hx hb dX12_road_19 (by decide) ?_
    refine lv_ldc2 (v := 12) hx hb hown (hts (.constantLong RX12 199 (12)) (by decide +kernel)) dX12_road_20 ?_
    refine S_calli (av := [.long a1.toInt64, .long (0 : Int64), .long (12 : Int64)]) (rest := []) ⟨hx, hb, hml, hown, hts⟩ (c_in l (a1.toInt64) ((0 : Int64)) ((12 : Int64)) ) (va_cwS 3 hts gX12_road_X12_in rfl rfl rfl (by decide +kernel) ⟨Nat.le_of_ble_eq_true rfl, Nat.le_of_ble_eq_true rfl⟩) rfl hl.1 rfl (Nat.le_of_ble_eq_true rfl) dX12_road_23 ⟨Nat.le_of_ble_eq_true rfl, Nat.le_of_ble_eq_true rfl⟩ (fun r23 hw23 => ?_)
    rw [show inL a1.toInt64 (0) 12 = isB a1 0 12 from inL_i a1 0 12] at hw23
    refine lv_if_eq (tgt := 46) hx hb dX12_road_26 (by decide) (fun c26 => ?_) (fun c26 => ?_)
    · skip
      simp only [hw23, bI_0, bI_1, Bool.not_eq_false] at c26
      refine lv_aload_n hx hb dX12_road_46 rfl (lv_at hl 0 rfl) ?_
      refine lv_iconst (v := -1) hx hb dX12_road_47 (by decide) ?_
      refine M_calli (av := [.int (-1 : Int32)]) (rest := []) ⟨hx, hb, hml, hown, hts⟩ hA hK hP hD hS (c_told l D cI cJ ad x ((-1 : Int32)) ) (cwV 1 hts gX12_road_X12_told rfl rfl rfl (by decide +kernel) ⟨Nat.le_of_ble_eq_true rfl, Nat.le_of_ble_eq_true rfl⟩) rfl hl.1 rfl (Nat.le_of_ble_eq_true rfl) dX12_road_48 ⟨Nat.le_of_ble_eq_true rfl, Nat.le_of_ble_eq_true rfl⟩ (fun r48 y48 H locs hw48 hP hD hS => ?_)
      obtain ⟨er48, ey48⟩ := hw48
      refine M_iret (v := r48) hx hb hr hlocks hK hP hD hS dX12_road_51 ?_
      simp [hw11, hw23, er48, ey48, roadF, roadX, c14, c26, mI_sI, mI_sA, mI_sL, mI_sB, mL_sI, mL_sA, mL_sL, mL_sB, mA_sI, mA_sA, mA_sL, mA_sB, mB_sI, mB_sA, mB_sL, mB_sB]
    · skip
      simp only [hw23, bI_0, bI_1, Bool.not_eq_false] at c26
      refine lv_iload_n hx hb dX12_road_29 rfl (lv_at hl 1 rfl) ?_
      refine lv_iload_n hx hb dX12_road_30 rfl (lv_at hl 2 rfl) ?_
      refine lv_icmp_eq (tgt := 46) hx hb dX12_road_31 (by decide) (fun c31 => ?_) (fun c31 => ?_)
      · skip
        refine lv_aload_n hx hb dX12_road_46 rfl (lv_at hl 0 rfl) ?_
        refine lv_iconst (v := -1) hx hb dX12_road_47 (by decide) ?_
        refine M_calli (av := [.int (-1 : Int32)]) (rest := []) ⟨hx, hb, hml, hown, hts⟩ hA hK hP hD hS (c_told l D cI cJ ad x ((-1 : Int32)) ) (cwV 1 hts gX12_road_X12_told rfl rfl rfl (by decide +kernel) ⟨Nat.le_of_ble_eq_true rfl, Nat.le_of_ble_eq_true rfl⟩) rfl hl.1 rfl (Nat.le_of_ble_eq_true rfl) dX12_road_48 ⟨Nat.le_of_ble_eq_true rfl, Nat.le_of_ble_eq_true rfl⟩ (fun r48 y48 H locs hw48 hP hD hS => ?_)
        obtain ⟨er48, ey48⟩ := hw48
        refine M_iret (v := r48) hx hb hr hlocks hK hP hD hS dX12_road_51 ?_
        simp [hw11, hw23, er48, ey48, roadF, roadX, c14, c26, c31, mI_sI, mI_sA, mI_sL, mI_sB, mL_sI, mL_sA, mL_sL, mL_sB, mA_sI, mA_sA, mA_sL, mA_sB, mB_sI, mB_sA, mB_sL, mB_sB]
      · skip
        refine lv_iload_n hx hb dX12_road_34 rfl (lv_at hl 3 rfl) ?_
        refine lv_i2l hx hb dX12_road_35 rfl ?_
        refine lv_lconst (v := 0) hx hb dX12_road_36 (by decide) ?_
        refine lv_ldc2 (v := 600) hx hb hown (hts (.constantLong RX12 262 (600)) (by decide +kernel)) dX12_road_37 ?_
        refine S_calli (av := [.long a2.toInt64, .long (0 : Int64), .long (600 : Int64)]) (rest := []) ⟨hx, hb, hml, hown, hts⟩ (c_in l (a2.toInt64) ((0 : Int64)) ((600 : Int64)) ) (va_cwS 3 hts gX12_road_X12_in rfl rfl rfl (by decide +kernel) ⟨Nat.le_of_ble_eq_true rfl, Nat.le_of_ble_eq_true rfl⟩) rfl hl.1 rfl (Nat.le_of_ble_eq_true rfl) dX12_road_40 ⟨Nat.le_of_ble_eq_true rfl, Nat.le_of_ble_eq_true rfl⟩ (fun r40 hw40 => ?_)
        rw [show inL a2.toInt64 (0) 600 = isB a2 0 600 from inL_i a2 0 600] at hw40
        refine lv_if_ne (tgt := 52) hx hb dX12_road_43 (by decide) (fun c43 => ?_) (fun c43 => ?_)
        · skip
          simp only [hw40, bI_0, bI_1, Bool.not_eq_false] at c43
          refine lv_aload_n hx hb dX12_road_52 rfl (lv_at hl 0 rfl) ?_
          refine M_get hx hb hts hin hown hK hP 42 (by decide) rfl (index := 101) (by decide +kernel) rfl dX12_road_53 ?_
          refine lv_bipush (v := 13) hx hb dX12_road_56 (by decide) ?_
          refine lv_iload_n hx hb dX12_road_58 rfl (lv_at hl 1 rfl) ?_
          refine lv_imul hx hb dX12_road_59 ?_
          refine lv_iload_n hx hb dX12_road_60 rfl (lv_at hl 2 rfl) ?_
          refine lv_iadd hx hb dX12_road_61 ?_
          refine lv_iload_n hx hb dX12_road_62 rfl (lv_at hl 3 rfl) ?_
          have h63 : vp_in ((((13 : Int32) * a0) + a1)) 169 := by exact r_in c14 c26
          refine M_iast hx hb hK hP hD hS 31 rfl h63 (pA_42 cI cJ ad x _) dX12_road_63 (fun y63 H locs ey63 hP hD hS => ?_)
          refine lv_aload_n hx hb dX12_road_64 rfl (lv_at hl 0 rfl) ?_
          refine M_get hx hb hts hin hown hK hP 42 (by decide) rfl (index := 101) (by decide +kernel) rfl dX12_road_65 ?_
          refine lv_bipush (v := 13) hx hb dX12_road_68 (by decide) ?_
          refine lv_iload_n hx hb dX12_road_70 rfl (lv_at hl 2 rfl) ?_
          refine lv_imul hx hb dX12_road_71 ?_
          refine lv_iload_n hx hb dX12_road_72 rfl (lv_at hl 1 rfl) ?_
          refine lv_iadd hx hb dX12_road_73 ?_
          refine lv_iload_n hx hb dX12_road_74 rfl (lv_at hl 3 rfl) ?_
          have h75 : vp_in ((((13 : Int32) * a1) + a0)) 169 := by exact r_in c26 c14
          refine M_iast hx hb hK hP hD hS 31 rfl h75 (pA_42 cI cJ ad y63 _) dX12_road_75 (fun y75 H locs ey75 hP hD hS => ?_)
          refine lv_aload_n hx hb dX12_road_76 rfl (lv_at hl 0 rfl) ?_
          refine lv_iconst (v := 0) hx hb dX12_road_77 (by decide) ?_
          refine M_calli (av := [.int (0 : Int32)]) (rest := []) ⟨hx, hb, hml, hown, hts⟩ hA hK hP hD hS (c_told l D cI cJ ad y75 ((0 : Int32)) ) (cwV 1 hts gX12_road_X12_told rfl rfl rfl (by decide +kernel) ⟨Nat.le_of_ble_eq_true rfl, Nat.le_of_ble_eq_true rfl⟩) rfl hl.1 rfl (Nat.le_of_ble_eq_true rfl) dX12_road_78 ⟨Nat.le_of_ble_eq_true rfl, Nat.le_of_ble_eq_true rfl⟩ (fun r78 y78 H locs hw78 hP hD hS => ?_)
          obtain ⟨er78, ey78⟩ := hw78
          refine M_iret (v := r78) hx hb hr hlocks hK hP hD hS dX12_road_81 ?_
          simp [hw11, hw23, hw40, ey63, ey75, er78, ey78, roadF, roadX, c14, c26, c31, c43, mI_sI, mI_sA, mI_sL, mI_sB, mL_sI, mL_sA, mL_sL, mL_sB, mA_sI, mA_sA, mA_sL, mA_sB, mB_sI, mB_sA, mB_sL, mB_sB]
        · skip
          simp only [hw40, bI_0, bI_1, Bool.not_eq_false] at c43
          refine lv_aload_n hx hb dX12_road_46 rfl (lv_at hl 0 rfl) ?_
          refine lv_iconst (v := -1) hx hb dX12_road_47 (by decide) ?_
          refine M_calli (av := [.int (-1 : Int32)]) (rest := []) ⟨hx, hb, hml, hown, hts⟩ hA hK hP hD hS (c_told l D cI cJ ad x ((-1 : Int32)) ) (cwV 1 hts gX12_road_X12_told rfl rfl rfl (by decide +kernel) ⟨Nat.le_of_ble_eq_true rfl, Nat.le_of_ble_eq_true rfl⟩) rfl hl.1 rfl (Nat.le_of_ble_eq_true rfl) dX12_road_48 ⟨Nat.le_of_ble_eq_true rfl, Nat.le_of_ble_eq_true rfl⟩ (fun r48 y48 H locs hw48 hP hD hS => ?_)
          obtain ⟨er48, ey48⟩ := hw48
          refine M_iret (v := r48) hx hb hr hlocks hK hP hD hS dX12_road_51 ?_
          simp [hw11, hw23, hw40, er48, ey48, roadF, roadX, c14, c26, c31, c43, mI_sI, mI_sA, mI_sL, mI_sB, mL_sI, mL_sA, mL_sL, mL_sB, mA_sI, mA_sA, mA_sL, mA_sB, mB_sI, mB_sA, mB_sL, mB_sB]

set_option maxHeartbeats 4000000 in
set_option maxRecDepth 100000 in
theorem c_load (l : Launch) (D : va_G) (cI cJ : ClassId) (ad : Nat → Nat) (x : MS) (a0 : Int32) (a1 : Int32) (h0 : mI x 0 = 0) (h13 : okN x 13 12) : Mi l yX12_load wsX12_load { frames := 2, cells := 0, slots := 0, locals := 46 } D cI cJ ad [.int a0, .int a1] x (fun r y => r = (loadF x a0 a1).1 ∧ y = (loadF x a0 a1).2) := by
  refine Mi_of (cc := cX12_load) (nL := 3) (ret := (some .int)) (by decide) rfl rfl (Nat.le_of_ble_eq_true rfl) ?_
  intro p e s m args below meth c A hx hb hr hlocks hml hts hown hA hK hP hD hS ls hl
  have hin : ∀ w ∈ wsX120, w ∈ wsX12_load := fun w h => List.mem_cons_of_mem _ (List.mem_append_right _ h)
  have hl : lv_has ls 3 [(0, .ref (ad 0)), (1, .int a0), (2, .int a1)] := hl
  refine lv_aload_n hx hb dX12_load_0 rfl (lv_at hl 0 rfl) ?_
  refine lv_iconst (v := 0) hx hb dX12_load_1 (by decide) ?_
  refine M_put hx hb hts hin hown hK hP hD hS 0 (by decide) rfl rfl (index := 156) (by decide +kernel) (ty := .int) (by decide +kernel) rfl rfl (pI_0 cI cJ ad x _) dX12_load_2 (fun y2 H locs ey2 hP hD hS => ?_)
  rw [ey2.trans (sI_0 h0)] at hP hD
  refine lv_iload_n hx hb dX12_load_5 rfl (lv_at hl 2 rfl) ?_
  refine lv_i2l hx hb dX12_load_6 rfl ?_
  refine lv_lconst (v := 0) hx hb dX12_load_7 (by decide) ?_
  refine lv_ldc2 (v := 1000000) hx hb hown (hts (.constantLong RX12 187 (1000000)) (by decide +kernel)) dX12_load_8 ?_
  refine S_calli (av := [.long a1.toInt64, .long (0 : Int64), .long (1000000 : Int64)]) (rest := []) ⟨hx, hb, hml, hown, hts⟩ (c_in l (a1.toInt64) ((0 : Int64)) ((1000000 : Int64)) ) (va_cwS 3 hts gX12_load_X12_in rfl rfl rfl (by decide +kernel) ⟨Nat.le_of_ble_eq_true rfl, Nat.le_of_ble_eq_true rfl⟩) rfl hl.1 rfl (Nat.le_of_ble_eq_true rfl) dX12_load_11 ⟨Nat.le_of_ble_eq_true rfl, Nat.le_of_ble_eq_true rfl⟩ (fun r11 hw11 => ?_)
  rw [show inL a1.toInt64 (0) 1000000 = isB a1 0 1000000 from inL_i a1 0 1000000] at hw11
  refine lv_if_ne (tgt := 23) hx hb dX12_load_14 (by decide) (fun c14 => ?_) (fun c14 => ?_)
  · skip
    simp only [hw11, bI_0, bI_1, Bool.not_eq_false] at c14
    refine lv_aload_n hx hb dX12_load_23 rfl (lv_at hl 0 rfl) ?_
    refine lv_iload_n hx hb dX12_load_24 rfl (lv_at hl 1 rfl) ?_
    refine M_callr (av := [.int a0]) (rest := []) ⟨hx, hb, hml, hown, hts⟩ hA hK hP hD hS (c_isTable l D cI cJ ad x (a0) ) (cwV 1 hts gX12_load_X12_isTable rfl rfl rfl (by decide +kernel) ⟨Nat.le_of_ble_eq_true rfl, Nat.le_of_ble_eq_true rfl⟩) rfl hl.1 rfl (Nat.le_of_ble_eq_true rfl) dX12_load_25 ⟨Nat.le_of_ble_eq_true rfl, Nat.le_of_ble_eq_true rfl⟩ (fun r25 H locs hw25 hP hD hS => ?_)
    refine lv_if_ne (tgt := 38) hx hb dX12_load_28 (by decide) (fun c28 => ?_) (fun c28 => ?_)
    · skip
      simp only [hw25, bI_0, bI_1, Bool.not_eq_false] at c28
      refine lv_iload_n hx hb dX12_load_38 rfl (lv_at hl 2 rfl) ?_
      refine lv_if_le (tgt := 67) hx hb dX12_load_39 (by decide) (fun c39 => ?_) (fun c39 => ?_)
      · skip
        refine lv_aload_n hx hb dX12_load_67 rfl (lv_at hl 0 rfl) ?_
        refine lv_dup hx hb dX12_load_68 rfl ?_
        refine M_get hx hb hts hin hown hK hP 44 (by decide) rfl (index := 264) (by decide +kernel) rfl dX12_load_69 ?_
        refine lv_topi (fun v69 ev69 => ?_)
        refine lv_iload_n hx hb dX12_load_72 rfl (lv_at hl 2 rfl) ?_
        refine lv_if_le (tgt := 80) hx hb dX12_load_73 (by decide) (fun c73 => ?_) (fun c73 => ?_)
        · skip
          refine lv_iconst (v := 0) hx hb dX12_load_80 (by decide) ?_
          refine lv_aload_n hx hb dX12_load_81 rfl (lv_at hl 0 rfl) ?_
          refine M_get hx hb hts hin hown hK hP 43 (by decide) rfl (index := 104) (by decide +kernel) rfl dX12_load_82 ?_
          refine lv_iload_n hx hb dX12_load_85 rfl (lv_at hl 1 rfl) ?_
          have h86 : vp_in a0 12 := by exact ixB_le h13 c28 (by decide)
          refine va_iald hx hb hK hP 32 0 rfl rfl h86 dX12_load_86 ?_
          refine lv_topi (fun v86 ev86 => ?_)
          refine lv_if_le (tgt := 94) hx hb dX12_load_87 (by decide) (fun c87 => ?_) (fun c87 => ?_)
          · skip
            simp only [ev86] at c87
            refine lv_iconst (v := 0) hx hb dX12_load_94 (by decide) ?_
            refine lv_isub hx hb dX12_load_95 ?_
            refine lv_iadd hx hb dX12_load_96 ?_
            refine M_put hx hb hts hin hown hK hP hD hS 44 (by decide) rfl rfl (index := 264) (by decide +kernel) (ty := .int) (by decide +kernel) rfl rfl (pI_44 cI cJ ad x _) dX12_load_97 (fun y97 H locs ey97 hP hD hS => ?_)
            refine lv_aload_n hx hb dX12_load_100 rfl (lv_at hl 0 rfl) ?_
            refine M_get hx hb hts hin hown hK hP 43 (by decide) rfl (index := 104) (by decide +kernel) rfl dX12_load_101 ?_
            refine lv_iload_n hx hb dX12_load_104 rfl (lv_at hl 1 rfl) ?_
            refine lv_iload_n hx hb dX12_load_105 rfl (lv_at hl 2 rfl) ?_
            have h106 : vp_in a0 12 := by exact ixB_le h13 c28 (by decide)
            refine M_iast hx hb hK hP hD hS 32 rfl h106 (pA_43 cI cJ ad y97 _) dX12_load_106 (fun y106 H locs ey106 hP hD hS => ?_)
            refine lv_aload_n hx hb dX12_load_107 rfl (lv_at hl 0 rfl) ?_
            refine lv_aload_n hx hb dX12_load_108 rfl (lv_at hl 0 rfl) ?_
            refine M_get hx hb hts hin hown hK hP 44 (by decide) rfl (index := 264) (by decide +kernel) rfl dX12_load_109 ?_
            refine lv_topi (fun v109 ev109 => ?_)
            refine M_calli (av := [.int v109]) (rest := []) ⟨hx, hb, hml, hown, hts⟩ hA hK hP hD hS (c_told l D cI cJ ad y106 (v109) ) (cwV 1 hts gX12_load_X12_told rfl rfl rfl (by decide +kernel) ⟨Nat.le_of_ble_eq_true rfl, Nat.le_of_ble_eq_true rfl⟩) rfl hl.1 rfl (Nat.le_of_ble_eq_true rfl) dX12_load_112 ⟨Nat.le_of_ble_eq_true rfl, Nat.le_of_ble_eq_true rfl⟩ (fun r112 y112 H locs hw112 hP hD hS => ?_)
            obtain ⟨er112, ey112⟩ := hw112
            refine M_iret (v := r112) hx hb hr hlocks hK hP hD hS dX12_load_115 ?_
            first | (simp [hw11, hw25, ev69, ev86, ey97, ey106, ev109, er112, ey112, loadF, loadX, c14, c28, c39, c73, c87, mI_sI, mI_sA, mI_sL, mI_sB, mL_sI, mL_sA, mL_sL, mL_sB, mA_sI, mA_sA, mA_sL, mA_sB, mB_sI, mB_sA, mB_sL, mB_sB]; done) | exact absurd c39 c73 | exact absurd c73 c39 | exact absurd (by rw [c48]; decide) c87
          · skip
            simp only [ev86] at c87
            refine lv_iconst (v := 1) hx hb dX12_load_90 (by decide) ?_
            refine lv_goto (tgt := 95) hx hb dX12_load_91 (by decide) ?_
            refine lv_isub hx hb dX12_load_95 ?_
            refine lv_iadd hx hb dX12_load_96 ?_
            refine M_put hx hb hts hin hown hK hP hD hS 44 (by decide) rfl rfl (index := 264) (by decide +kernel) (ty := .int) (by decide +kernel) rfl rfl (pI_44 cI cJ ad x _) dX12_load_97 (fun y97 H locs ey97 hP hD hS => ?_)
            refine lv_aload_n hx hb dX12_load_100 rfl (lv_at hl 0 rfl) ?_
            refine M_get hx hb hts hin hown hK hP 43 (by decide) rfl (index := 104) (by decide +kernel) rfl dX12_load_101 ?_
            refine lv_iload_n hx hb dX12_load_104 rfl (lv_at hl 1 rfl) ?_
            refine lv_iload_n hx hb dX12_load_105 rfl (lv_at hl 2 rfl) ?_
            have h106 : vp_in a0 12 := by exact ixB_le h13 c28 (by decide)
            refine M_iast hx hb hK hP hD hS 32 rfl h106 (pA_43 cI cJ ad y97 _) dX12_load_106 (fun y106 H locs ey106 hP hD hS => ?_)
            refine lv_aload_n hx hb dX12_load_107 rfl (lv_at hl 0 rfl) ?_
            refine lv_aload_n hx hb dX12_load_108 rfl (lv_at hl 0 rfl) ?_
            refine M_get hx hb hts hin hown hK hP 44 (by decide) rfl (index := 264) (by decide +kernel) rfl dX12_load_109 ?_
            refine lv_topi (fun v109 ev109 => ?_)
            refine M_calli (av := [.int v109]) (rest := []) ⟨hx, hb, hml, hown, hts⟩ hA hK hP hD hS (c_told l D cI cJ ad y106 (v109) ) (cwV 1 hts gX12_load_X12_told rfl rfl rfl (by decide +kernel) ⟨Nat.le_of_ble_eq_true rfl, Nat.le_of_ble_eq_true rfl⟩) rfl hl.1 rfl (Nat.le_of_ble_eq_true rfl) dX12_load_112 ⟨Nat.le_of_ble_eq_true rfl, Nat.le_of_ble_eq_true rfl⟩ (fun r112 y112 H locs hw112 hP hD hS => ?_)
            obtain ⟨er112, ey112⟩ := hw112
            refine M_iret (v := r112) hx hb hr hlocks hK hP hD hS dX12_load_115 ?_
            first | (simp [hw11, hw25, ev69, ev86, ey97, ey106, ev109, er112, ey112, loadF, loadX, c14, c28, c39, c73, c87, mI_sI, mI_sA, mI_sL, mI_sB, mL_sI, mL_sA, mL_sL, mL_sB, mA_sI, mA_sA, mA_sL, mA_sB, mB_sI, mB_sA, mB_sL, mB_sB]; done) | exact absurd c39 c73 | exact absurd c73 c39 | exact absurd (by rw [c48]; decide) c87
        · skip
          refine lv_iconst (v := 1) hx hb dX12_load_76 (by decide) ?_
          refine lv_goto (tgt := 81) hx hb dX12_load_77 (by decide) ?_
          refine lv_aload_n hx hb dX12_load_81 rfl (lv_at hl 0 rfl) ?_
          refine M_get hx hb hts hin hown hK hP 43 (by decide) rfl (index := 104) (by decide +kernel) rfl dX12_load_82 ?_
          refine lv_iload_n hx hb dX12_load_85 rfl (lv_at hl 1 rfl) ?_
          have h86 : vp_in a0 12 := by exact ixB_le h13 c28 (by decide)
          refine va_iald hx hb hK hP 32 0 rfl rfl h86 dX12_load_86 ?_
          refine lv_topi (fun v86 ev86 => ?_)
          refine lv_if_le (tgt := 94) hx hb dX12_load_87 (by decide) (fun c87 => ?_) (fun c87 => ?_)
          · skip
            simp only [ev86] at c87
            refine lv_iconst (v := 0) hx hb dX12_load_94 (by decide) ?_
            refine lv_isub hx hb dX12_load_95 ?_
            refine lv_iadd hx hb dX12_load_96 ?_
            refine M_put hx hb hts hin hown hK hP hD hS 44 (by decide) rfl rfl (index := 264) (by decide +kernel) (ty := .int) (by decide +kernel) rfl rfl (pI_44 cI cJ ad x _) dX12_load_97 (fun y97 H locs ey97 hP hD hS => ?_)
            refine lv_aload_n hx hb dX12_load_100 rfl (lv_at hl 0 rfl) ?_
            refine M_get hx hb hts hin hown hK hP 43 (by decide) rfl (index := 104) (by decide +kernel) rfl dX12_load_101 ?_
            refine lv_iload_n hx hb dX12_load_104 rfl (lv_at hl 1 rfl) ?_
            refine lv_iload_n hx hb dX12_load_105 rfl (lv_at hl 2 rfl) ?_
            have h106 : vp_in a0 12 := by exact ixB_le h13 c28 (by decide)
            refine M_iast hx hb hK hP hD hS 32 rfl h106 (pA_43 cI cJ ad y97 _) dX12_load_106 (fun y106 H locs ey106 hP hD hS => ?_)
            refine lv_aload_n hx hb dX12_load_107 rfl (lv_at hl 0 rfl) ?_
            refine lv_aload_n hx hb dX12_load_108 rfl (lv_at hl 0 rfl) ?_
            refine M_get hx hb hts hin hown hK hP 44 (by decide) rfl (index := 264) (by decide +kernel) rfl dX12_load_109 ?_
            refine lv_topi (fun v109 ev109 => ?_)
            refine M_calli (av := [.int v109]) (rest := []) ⟨hx, hb, hml, hown, hts⟩ hA hK hP hD hS (c_told l D cI cJ ad y106 (v109) ) (cwV 1 hts gX12_load_X12_told rfl rfl rfl (by decide +kernel) ⟨Nat.le_of_ble_eq_true rfl, Nat.le_of_ble_eq_true rfl⟩) rfl hl.1 rfl (Nat.le_of_ble_eq_true rfl) dX12_load_112 ⟨Nat.le_of_ble_eq_true rfl, Nat.le_of_ble_eq_true rfl⟩ (fun r112 y112 H locs hw112 hP hD hS => ?_)
            obtain ⟨er112, ey112⟩ := hw112
            refine M_iret (v := r112) hx hb hr hlocks hK hP hD hS dX12_load_115 ?_
            first | (simp [hw11, hw25, ev69, ev86, ey97, ey106, ev109, er112, ey112, loadF, loadX, c14, c28, c39, c73, c87, mI_sI, mI_sA, mI_sL, mI_sB, mL_sI, mL_sA, mL_sL, mL_sB, mA_sI, mA_sA, mA_sL, mA_sB, mB_sI, mB_sA, mB_sL, mB_sB]; done) | exact absurd c39 c73 | exact absurd c73 c39 | exact absurd (by rw [c48]; decide) c87
          · skip
            simp only [ev86] at c87
            refine lv_iconst (v := 1) hx hb dX12_load_90 (by decide) ?_
            refine lv_goto (tgt := 95) hx hb dX12_load_91 (by decide) ?_
            refine lv_isub hx hb dX12_load_95 ?_
            refine lv_iadd hx hb dX12_load_96 ?_
            refine M_put hx hb hts hin hown hK hP hD hS 44 (by decide) rfl rfl (index := 264) (by decide +kernel) (ty := .int) (by decide +kernel) rfl rfl (pI_44 cI cJ ad x _) dX12_load_97 (fun y97 H locs ey97 hP hD hS => ?_)
            refine lv_aload_n hx hb dX12_load_100 rfl (lv_at hl 0 rfl) ?_
            refine M_get hx hb hts hin hown hK hP 43 (by decide) rfl (index := 104) (by decide +kernel) rfl dX12_load_101 ?_
            refine lv_iload_n hx hb dX12_load_104 rfl (lv_at hl 1 rfl) ?_
            refine lv_iload_n hx hb dX12_load_105 rfl (lv_at hl 2 rfl) ?_
            have h106 : vp_in a0 12 := by exact ixB_le h13 c28 (by decide)
            refine M_iast hx hb hK hP hD hS 32 rfl h106 (pA_43 cI cJ ad y97 _) dX12_load_106 (fun y106 H locs ey106 hP hD hS => ?_)
            refine lv_aload_n hx hb dX12_load_107 rfl (lv_at hl 0 rfl) ?_
            refine lv_aload_n hx hb dX12_load_108 rfl (lv_at hl 0 rfl) ?_
            refine M_get hx hb hts hin hown hK hP 44 (by decide) rfl (index := 264) (by decide +kernel) rfl dX12_load_109 ?_
            refine lv_topi (fun v109 ev109 => ?_)
            refine M_calli (av := [.int v109]) (rest := []) ⟨hx, hb, hml, hown, hts⟩ hA hK hP hD hS (c_told l D cI cJ ad y106 (v109) ) (cwV 1 hts gX12_load_X12_told rfl rfl rfl (by decide +kernel) ⟨Nat.le_of_ble_eq_true rfl, Nat.le_of_ble_eq_true rfl⟩) rfl hl.1 rfl (Nat.le_of_ble_eq_true rfl) dX12_load_112 ⟨Nat.le_of_ble_eq_true rfl, Nat.le_of_ble_eq_true rfl⟩ (fun r112 y112 H locs hw112 hP hD hS => ?_)
            obtain ⟨er112, ey112⟩ := hw112
            refine M_iret (v := r112) hx hb hr hlocks hK hP hD hS dX12_load_115 ?_
            first | (simp [hw11, hw25, ev69, ev86, ey97, ey106, ev109, er112, ey112, loadF, loadX, c14, c28, c39, c73, c87, mI_sI, mI_sA, mI_sL, mI_sB, mL_sI, mL_sA, mL_sL, mL_sB, mA_sI, mA_sA, mA_sL, mA_sB, mB_sI, mB_sA, mB_sL, mB_sB]; done) | exact absurd c39 c73 | exact absurd c73 c39 | exact absurd (by rw [c48]; decide) c87
      · skip
        refine lv_aload_n hx hb dX12_load_42 rfl (lv_at hl 0 rfl) ?_
        refine M_get hx hb hts hin hown hK hP 43 (by decide) rfl (index := 104) (by decide +kernel) rfl dX12_load_43 ?_
        refine lv_iload_n hx hb dX12_load_46 rfl (lv_at hl 1 rfl) ?_
        have h47 : vp_in a0 12 := by exact ixB_le h13 c28 (by decide)
        refine va_iald hx hb hK hP 32 0 rfl rfl h47 dX12_load_47 ?_
        refine lv_topi (fun v47 ev47 => ?_)
        refine lv_if_ne (tgt := 67) hx hb dX12_load_48 (by decide) (fun c48 => ?_) (fun c48 => ?_)
        · skip
          simp only [ev47] at c48
          refine lv_aload_n hx hb dX12_load_67 rfl (lv_at hl 0 rfl) ?_
          refine lv_dup hx hb dX12_load_68 rfl ?_
          refine M_get hx hb hts hin hown hK hP 44 (by decide) rfl (index := 264) (by decide +kernel) rfl dX12_load_69 ?_
          refine lv_topi (fun v69 ev69 => ?_)
          refine lv_iload_n hx hb dX12_load_72 rfl (lv_at hl 2 rfl) ?_
          refine lv_if_le (tgt := 80) hx hb dX12_load_73 (by decide) (fun c73 => ?_) (fun c73 => ?_)
          · skip
            refine lv_iconst (v := 0) hx hb dX12_load_80 (by decide) ?_
            refine lv_aload_n hx hb dX12_load_81 rfl (lv_at hl 0 rfl) ?_
            refine M_get hx hb hts hin hown hK hP 43 (by decide) rfl (index := 104) (by decide +kernel) rfl dX12_load_82 ?_
            refine lv_iload_n hx hb dX12_load_85 rfl (lv_at hl 1 rfl) ?_
            have h86 : vp_in a0 12 := by exact ixB_le h13 c28 (by decide)
            refine va_iald hx hb hK hP 32 0 rfl rfl h86 dX12_load_86 ?_
            refine lv_topi (fun v86 ev86 => ?_)
            refine lv_if_le (tgt := 94) hx hb dX12_load_87 (by decide) (fun c87 => ?_) (fun c87 => ?_)
            · skip
              simp only [ev86] at c87
              refine lv_iconst (v := 0) hx hb dX12_load_94 (by decide) ?_
              refine lv_isub hx hb dX12_load_95 ?_
              refine lv_iadd hx hb dX12_load_96 ?_
              refine M_put hx hb hts hin hown hK hP hD hS 44 (by decide) rfl rfl (index := 264) (by decide +kernel) (ty := .int) (by decide +kernel) rfl rfl (pI_44 cI cJ ad x _) dX12_load_97 (fun y97 H locs ey97 hP hD hS => ?_)
              refine lv_aload_n hx hb dX12_load_100 rfl (lv_at hl 0 rfl) ?_
              refine M_get hx hb hts hin hown hK hP 43 (by decide) rfl (index := 104) (by decide +kernel) rfl dX12_load_101 ?_
              refine lv_iload_n hx hb dX12_load_104 rfl (lv_at hl 1 rfl) ?_
              refine lv_iload_n hx hb dX12_load_105 rfl (lv_at hl 2 rfl) ?_
              have h106 : vp_in a0 12 := by exact ixB_le h13 c28 (by decide)
              refine M_iast hx hb hK hP hD hS 32 rfl h106 (pA_43 cI cJ ad y97 _) dX12_load_106 (fun y106 H locs ey106 hP hD hS => ?_)
              refine lv_aload_n hx hb dX12_load_107 rfl (lv_at hl 0 rfl) ?_
              refine lv_aload_n hx hb dX12_load_108 rfl (lv_at hl 0 rfl) ?_
              refine M_get hx hb hts hin hown hK hP 44 (by decide) rfl (index := 264) (by decide +kernel) rfl dX12_load_109 ?_
              refine lv_topi (fun v109 ev109 => ?_)
              refine M_calli (av := [.int v109]) (rest := []) ⟨hx, hb, hml, hown, hts⟩ hA hK hP hD hS (c_told l D cI cJ ad y106 (v109) ) (cwV 1 hts gX12_load_X12_told rfl rfl rfl (by decide +kernel) ⟨Nat.le_of_ble_eq_true rfl, Nat.le_of_ble_eq_true rfl⟩) rfl hl.1 rfl (Nat.le_of_ble_eq_true rfl) dX12_load_112 ⟨Nat.le_of_ble_eq_true rfl, Nat.le_of_ble_eq_true rfl⟩ (fun r112 y112 H locs hw112 hP hD hS => ?_)
              obtain ⟨er112, ey112⟩ := hw112
              refine M_iret (v := r112) hx hb hr hlocks hK hP hD hS dX12_load_115 ?_
              first | (simp [hw11, hw25, ev47, ev69, ev86, ey97, ey106, ev109, er112, ey112, loadF, loadX, c14, c28, c39, c48, c73, c87, mI_sI, mI_sA, mI_sL, mI_sB, mL_sI, mL_sA, mL_sL, mL_sB, mA_sI, mA_sA, mA_sL, mA_sB, mB_sI, mB_sA, mB_sL, mB_sB]; done) | exact absurd c39 c73 | exact absurd c73 c39 | exact absurd (by rw [c48]; decide) c87
            · skip
              simp only [ev86] at c87
              refine lv_iconst (v := 1) hx hb dX12_load_90 (by decide) ?_
              refine lv_goto (tgt := 95) hx hb dX12_load_91 (by decide) ?_
              refine lv_isub hx hb dX12_load_95 ?_
              refine lv_iadd hx hb dX12_load_96 ?_
              refine M_put hx hb hts hin hown hK hP hD hS 44 (by decide) rfl rfl (index := 264) (by decide +kernel) (ty := .int) (by decide +kernel) rfl rfl (pI_44 cI cJ ad x _) dX12_load_97 (fun y97 H locs ey97 hP hD hS => ?_)
              refine lv_aload_n hx hb dX12_load_100 rfl (lv_at hl 0 rfl) ?_
              refine M_get hx hb hts hin hown hK hP 43 (by decide) rfl (index := 104) (by decide +kernel) rfl dX12_load_101 ?_
              refine lv_iload_n hx hb dX12_load_104 rfl (lv_at hl 1 rfl) ?_
              refine lv_iload_n hx hb dX12_load_105 rfl (lv_at hl 2 rfl) ?_
              have h106 : vp_in a0 12 := by exact ixB_le h13 c28 (by decide)
              refine M_iast hx hb hK hP hD hS 32 rfl h106 (pA_43 cI cJ ad y97 _) dX12_load_106 (fun y106 H locs ey106 hP hD hS => ?_)
              refine lv_aload_n hx hb dX12_load_107 rfl (lv_at hl 0 rfl) ?_
              refine lv_aload_n hx hb dX12_load_108 rfl (lv_at hl 0 rfl) ?_
              refine M_get hx hb hts hin hown hK hP 44 (by decide) rfl (index := 264) (by decide +kernel) rfl dX12_load_109 ?_
              refine lv_topi (fun v109 ev109 => ?_)
              refine M_calli (av := [.int v109]) (rest := []) ⟨hx, hb, hml, hown, hts⟩ hA hK hP hD hS (c_told l D cI cJ ad y106 (v109) ) (cwV 1 hts gX12_load_X12_told rfl rfl rfl (by decide +kernel) ⟨Nat.le_of_ble_eq_true rfl, Nat.le_of_ble_eq_true rfl⟩) rfl hl.1 rfl (Nat.le_of_ble_eq_true rfl) dX12_load_112 ⟨Nat.le_of_ble_eq_true rfl, Nat.le_of_ble_eq_true rfl⟩ (fun r112 y112 H locs hw112 hP hD hS => ?_)
              obtain ⟨er112, ey112⟩ := hw112
              refine M_iret (v := r112) hx hb hr hlocks hK hP hD hS dX12_load_115 ?_
              first | (simp [hw11, hw25, ev47, ev69, ev86, ey97, ey106, ev109, er112, ey112, loadF, loadX, c14, c28, c39, c48, c73, c87, mI_sI, mI_sA, mI_sL, mI_sB, mL_sI, mL_sA, mL_sL, mL_sB, mA_sI, mA_sA, mA_sL, mA_sB, mB_sI, mB_sA, mB_sL, mB_sB]; done) | exact absurd c39 c73 | exact absurd c73 c39 | exact absurd (by rw [c48]; decide) c87
          · skip
            refine lv_iconst (v := 1) hx hb dX12_load_76 (by decide) ?_
            refine lv_goto (tgt := 81) hx hb dX12_load_77 (by decide) ?_
            refine lv_aload_n hx hb dX12_load_81 rfl (lv_at hl 0 rfl) ?_
            refine M_get hx hb hts hin hown hK hP 43 (by decide) rfl (index := 104) (by decide +kernel) rfl dX12_load_82 ?_
            refine lv_iload_n hx hb dX12_load_85 rfl (lv_at hl 1 rfl) ?_
            have h86 : vp_in a0 12 := by exact ixB_le h13 c28 (by decide)
            refine va_iald hx hb hK hP 32 0 rfl rfl h86 dX12_load_86 ?_
            refine lv_topi (fun v86 ev86 => ?_)
            refine lv_if_le (tgt := 94) hx hb dX12_load_87 (by decide) (fun c87 => ?_) (fun c87 => ?_)
            · skip
              simp only [ev86] at c87
              refine lv_iconst (v := 0) hx hb dX12_load_94 (by decide) ?_
              refine lv_isub hx hb dX12_load_95 ?_
              refine lv_iadd hx hb dX12_load_96 ?_
              refine M_put hx hb hts hin hown hK hP hD hS 44 (by decide) rfl rfl (index := 264) (by decide +kernel) (ty := .int) (by decide +kernel) rfl rfl (pI_44 cI cJ ad x _) dX12_load_97 (fun y97 H locs ey97 hP hD hS => ?_)
              refine lv_aload_n hx hb dX12_load_100 rfl (lv_at hl 0 rfl) ?_
              refine M_get hx hb hts hin hown hK hP 43 (by decide) rfl (index := 104) (by decide +kernel) rfl dX12_load_101 ?_
              refine lv_iload_n hx hb dX12_load_104 rfl (lv_at hl 1 rfl) ?_
              refine lv_iload_n hx hb dX12_load_105 rfl (lv_at hl 2 rfl) ?_
              have h106 : vp_in a0 12 := by exact ixB_le h13 c28 (by decide)
              refine M_iast hx hb hK hP hD hS 32 rfl h106 (pA_43 cI cJ ad y97 _) dX12_load_106 (fun y106 H locs ey106 hP hD hS => ?_)
              refine lv_aload_n hx hb dX12_load_107 rfl (lv_at hl 0 rfl) ?_
              refine lv_aload_n hx hb dX12_load_108 rfl (lv_at hl 0 rfl) ?_
              refine M_get hx hb hts hin hown hK hP 44 (by decide) rfl (index := 264) (by decide +kernel) rfl dX12_load_109 ?_
              refine lv_topi (fun v109 ev109 => ?_)
              refine M_calli (av := [.int v109]) (rest := []) ⟨hx, hb, hml, hown, hts⟩ hA hK hP hD hS (c_told l D cI cJ ad y106 (v109) ) (cwV 1 hts gX12_load_X12_told rfl rfl rfl (by decide +kernel) ⟨Nat.le_of_ble_eq_true rfl, Nat.le_of_ble_eq_true rfl⟩) rfl hl.1 rfl (Nat.le_of_ble_eq_true rfl) dX12_load_112 ⟨Nat.le_of_ble_eq_true rfl, Nat.le_of_ble_eq_true rfl⟩ (fun r112 y112 H locs hw112 hP hD hS => ?_)
              obtain ⟨er112, ey112⟩ := hw112
              refine M_iret (v := r112) hx hb hr hlocks hK hP hD hS dX12_load_115 ?_
              first | (simp [hw11, hw25, ev47, ev69, ev86, ey97, ey106, ev109, er112, ey112, loadF, loadX, c14, c28, c39, c48, c73, c87, mI_sI, mI_sA, mI_sL, mI_sB, mL_sI, mL_sA, mL_sL, mL_sB, mA_sI, mA_sA, mA_sL, mA_sB, mB_sI, mB_sA, mB_sL, mB_sB]; done) | exact absurd c39 c73 | exact absurd c73 c39 | exact absurd (by rw [c48]; decide) c87
            · skip
              simp only [ev86] at c87
              refine lv_iconst (v := 1) hx hb dX12_load_90 (by decide) ?_
              refine lv_goto (tgt := 95) hx hb dX12_load_91 (by decide) ?_
              refine lv_isub hx hb dX12_load_95 ?_
              refine lv_iadd hx hb dX12_load_96 ?_
              refine M_put hx hb hts hin hown hK hP hD hS 44 (by decide) rfl rfl (index := 264) (by decide +kernel) (ty := .int) (by decide +kernel) rfl rfl (pI_44 cI cJ ad x _) dX12_load_97 (fun y97 H locs ey97 hP hD hS => ?_)
              refine lv_aload_n hx hb dX12_load_100 rfl (lv_at hl 0 rfl) ?_
              refine M_get hx hb hts hin hown hK hP 43 (by decide) rfl (index := 104) (by decide +kernel) rfl dX12_load_101 ?_
              refine lv_iload_n hx hb dX12_load_104 rfl (lv_at hl 1 rfl) ?_
              refine lv_iload_n hx hb dX12_load_105 rfl (lv_at hl 2 rfl) ?_
              have h106 : vp_in a0 12 := by exact ixB_le h13 c28 (by decide)
              refine M_iast hx hb hK hP hD hS 32 rfl h106 (pA_43 cI cJ ad y97 _) dX12_load_106 (fun y106 H locs ey106 hP hD hS => ?_)
              refine lv_aload_n hx hb dX12_load_107 rfl (lv_at hl 0 rfl) ?_
              refine lv_aload_n hx hb dX12_load_108 rfl (lv_at hl 0 rfl) ?_
              refine M_get hx hb hts hin hown hK hP 44 (by decide) rfl (index := 264) (by decide +kernel) rfl dX12_load_109 ?_
              refine lv_topi (fun v109 ev109 => ?_)
              refine M_calli (av := [.int v109]) (rest := []) ⟨hx, hb, hml, hown, hts⟩ hA hK hP hD hS (c_told l D cI cJ ad y106 (v109) ) (cwV 1 hts gX12_load_X12_told rfl rfl rfl (by decide +kernel) ⟨Nat.le_of_ble_eq_true rfl, Nat.le_of_ble_eq_true rfl⟩) rfl hl.1 rfl (Nat.le_of_ble_eq_true rfl) dX12_load_112 ⟨Nat.le_of_ble_eq_true rfl, Nat.le_of_ble_eq_true rfl⟩ (fun r112 y112 H locs hw112 hP hD hS => ?_)
              obtain ⟨er112, ey112⟩ := hw112
              refine M_iret (v := r112) hx hb hr hlocks hK hP hD hS dX12_load_115 ?_
              first | (simp [hw11, hw25, ev47, ev69, ev86, ey97, ey106, ev109, er112, ey112, loadF, loadX, c14, c28, c39, c48, c73, c87, mI_sI, mI_sA, mI_sL, mI_sB, mL_sI, mL_sA, mL_sL, mL_sB, mA_sI, mA_sA, mA_sL, mA_sB, mB_sI, mB_sA, mB_sL, mB_sB]; done) | exact absurd c39 c73 | exact absurd c73 c39 | exact absurd (by rw [c48]; decide) c87
        · skip
          simp only [ev47] at c48
          refine lv_aload_n hx hb dX12_load_51 rfl (lv_at hl 0 rfl) ?_
          refine M_get hx hb hts hin hown hK hP 44 (by decide) rfl (index := 264) (by decide +kernel) rfl dX12_load_52 ?_
          refine lv_topi (fun v52 ev52 => ?_)
          refine lv_bipush (v := 8) hx hb dX12_load_55 (by decide) ?_
          refine lv_icmp_ne (tgt := 67) hx hb dX12_load_57 (by decide) (fun c57 => ?_) (fun c57 => ?_)
          · skip
            simp only [ev52] at c57
            refine lv_aload_n hx hb dX12_load_67 rfl (lv_at hl 0 rfl) ?_
            refine lv_dup hx hb dX12_load_68 rfl ?_
            refine M_get hx hb hts hin hown hK hP 44 (by decide) rfl (index := 264) (by decide +kernel) rfl dX12_load_69 ?_
            refine lv_topi (fun v69 ev69 => ?_)
            refine lv_iload_n hx hb dX12_load_72 rfl (lv_at hl 2 rfl) ?_
            refine lv_if_le (tgt := 80) hx hb dX12_load_73 (by decide) (fun c73 => ?_) (fun c73 => ?_)
            · skip
              refine lv_iconst (v := 0) hx hb dX12_load_80 (by decide) ?_
              refine lv_aload_n hx hb dX12_load_81 rfl (lv_at hl 0 rfl) ?_
              refine M_get hx hb hts hin hown hK hP 43 (by decide) rfl (index := 104) (by decide +kernel) rfl dX12_load_82 ?_
              refine lv_iload_n hx hb dX12_load_85 rfl (lv_at hl 1 rfl) ?_
              have h86 : vp_in a0 12 := by exact ixB_le h13 c28 (by decide)
              refine va_iald hx hb hK hP 32 0 rfl rfl h86 dX12_load_86 ?_
              refine lv_topi (fun v86 ev86 => ?_)
              refine lv_if_le (tgt := 94) hx hb dX12_load_87 (by decide) (fun c87 => ?_) (fun c87 => ?_)
              · skip
                simp only [ev86] at c87
                refine lv_iconst (v := 0) hx hb dX12_load_94 (by decide) ?_
                refine lv_isub hx hb dX12_load_95 ?_
                refine lv_iadd hx hb dX12_load_96 ?_
                refine M_put hx hb hts hin hown hK hP hD hS 44 (by decide) rfl rfl (index := 264) (by decide +kernel) (ty := .int) (by decide +kernel) rfl rfl (pI_44 cI cJ ad x _) dX12_load_97 (fun y97 H locs ey97 hP hD hS => ?_)
                refine lv_aload_n hx hb dX12_load_100 rfl (lv_at hl 0 rfl) ?_
                refine M_get hx hb hts hin hown hK hP 43 (by decide) rfl (index := 104) (by decide +kernel) rfl dX12_load_101 ?_
                refine lv_iload_n hx hb dX12_load_104 rfl (lv_at hl 1 rfl) ?_
                refine lv_iload_n hx hb dX12_load_105 rfl (lv_at hl 2 rfl) ?_
                have h106 : vp_in a0 12 := by exact ixB_le h13 c28 (by decide)
                refine M_iast hx hb hK hP hD hS 32 rfl h106 (pA_43 cI cJ ad y97 _) dX12_load_106 (fun y106 H locs ey106 hP hD hS => ?_)
                refine lv_aload_n hx hb dX12_load_107 rfl (lv_at hl 0 rfl) ?_
                refine lv_aload_n hx hb dX12_load_108 rfl (lv_at hl 0 rfl) ?_
                refine M_get hx hb hts hin hown hK hP 44 (by decide) rfl (index := 264) (by decide +kernel) rfl dX12_load_109 ?_
                refine lv_topi (fun v109 ev109 => ?_)
                refine M_calli (av := [.int v109]) (rest := []) ⟨hx, hb, hml, hown, hts⟩ hA hK hP hD hS (c_told l D cI cJ ad y106 (v109) ) (cwV 1 hts gX12_load_X12_told rfl rfl rfl (by decide +kernel) ⟨Nat.le_of_ble_eq_true rfl, Nat.le_of_ble_eq_true rfl⟩) rfl hl.1 rfl (Nat.le_of_ble_eq_true rfl) dX12_load_112 ⟨Nat.le_of_ble_eq_true rfl, Nat.le_of_ble_eq_true rfl⟩ (fun r112 y112 H locs hw112 hP hD hS => ?_)
                obtain ⟨er112, ey112⟩ := hw112
                refine M_iret (v := r112) hx hb hr hlocks hK hP hD hS dX12_load_115 ?_
                first | (simp [hw11, hw25, ev47, ev52, ev69, ev86, ey97, ey106, ev109, er112, ey112, loadF, loadX, c14, c28, c39, c48, c57, c73, c87, mI_sI, mI_sA, mI_sL, mI_sB, mL_sI, mL_sA, mL_sL, mL_sB, mA_sI, mA_sA, mA_sL, mA_sB, mB_sI, mB_sA, mB_sL, mB_sB]; done) | exact absurd c39 c73 | exact absurd c73 c39 | exact absurd (by rw [c48]; decide) c87
              · skip
                simp only [ev86] at c87
                refine lv_iconst (v := 1) hx hb dX12_load_90 (by decide) ?_
                refine lv_goto (tgt := 95) hx hb dX12_load_91 (by decide) ?_
                refine lv_isub hx hb dX12_load_95 ?_
                refine lv_iadd hx hb dX12_load_96 ?_
                refine M_put hx hb hts hin hown hK hP hD hS 44 (by decide) rfl rfl (index := 264) (by decide +kernel) (ty := .int) (by decide +kernel) rfl rfl (pI_44 cI cJ ad x _) dX12_load_97 (fun y97 H locs ey97 hP hD hS => ?_)
                refine lv_aload_n hx hb dX12_load_100 rfl (lv_at hl 0 rfl) ?_
                refine M_get hx hb hts hin hown hK hP 43 (by decide) rfl (index := 104) (by decide +kernel) rfl dX12_load_101 ?_
                refine lv_iload_n hx hb dX12_load_104 rfl (lv_at hl 1 rfl) ?_
                refine lv_iload_n hx hb dX12_load_105 rfl (lv_at hl 2 rfl) ?_
                have h106 : vp_in a0 12 := by exact ixB_le h13 c28 (by decide)
                refine M_iast hx hb hK hP hD hS 32 rfl h106 (pA_43 cI cJ ad y97 _) dX12_load_106 (fun y106 H locs ey106 hP hD hS => ?_)
                refine lv_aload_n hx hb dX12_load_107 rfl (lv_at hl 0 rfl) ?_
                refine lv_aload_n hx hb dX12_load_108 rfl (lv_at hl 0 rfl) ?_
                refine M_get hx hb hts hin hown hK hP 44 (by decide) rfl (index := 264) (by decide +kernel) rfl dX12_load_109 ?_
                refine lv_topi (fun v109 ev109 => ?_)
                refine M_calli (av := [.int v109]) (rest := []) ⟨hx, hb, hml, hown, hts⟩ hA hK hP hD hS (c_told l D cI cJ ad y106 (v109) ) (cwV 1 hts gX12_load_X12_told rfl rfl rfl (by decide +kernel) ⟨Nat.le_of_ble_eq_true rfl, Nat.le_of_ble_eq_true rfl⟩) rfl hl.1 rfl (Nat.le_of_ble_eq_true rfl) dX12_load_112 ⟨Nat.le_of_ble_eq_true rfl, Nat.le_of_ble_eq_true rfl⟩ (fun r112 y112 H locs hw112 hP hD hS => ?_)
                obtain ⟨er112, ey112⟩ := hw112
                refine M_iret (v := r112) hx hb hr hlocks hK hP hD hS dX12_load_115 ?_
                first | (simp [hw11, hw25, ev47, ev52, ev69, ev86, ey97, ey106, ev109, er112, ey112, loadF, loadX, c14, c28, c39, c48, c57, c73, c87, mI_sI, mI_sA, mI_sL, mI_sB, mL_sI, mL_sA, mL_sL, mL_sB, mA_sI, mA_sA, mA_sL, mA_sB, mB_sI, mB_sA, mB_sL, mB_sB]; done) | exact absurd c39 c73 | exact absurd c73 c39 | exact absurd (by rw [c48]; decide) c87
            · skip
              refine lv_iconst (v := 1) hx hb dX12_load_76 (by decide) ?_
              refine lv_goto (tgt := 81) hx hb dX12_load_77 (by decide) ?_
              refine lv_aload_n hx hb dX12_load_81 rfl (lv_at hl 0 rfl) ?_
              refine M_get hx hb hts hin hown hK hP 43 (by decide) rfl (index := 104) (by decide +kernel) rfl dX12_load_82 ?_
              refine lv_iload_n hx hb dX12_load_85 rfl (lv_at hl 1 rfl) ?_
              have h86 : vp_in a0 12 := by exact ixB_le h13 c28 (by decide)
              refine va_iald hx hb hK hP 32 0 rfl rfl h86 dX12_load_86 ?_
              refine lv_topi (fun v86 ev86 => ?_)
              refine lv_if_le (tgt := 94) hx hb dX12_load_87 (by decide) (fun c87 => ?_) (fun c87 => ?_)
              · skip
                simp only [ev86] at c87
                refine lv_iconst (v := 0) hx hb dX12_load_94 (by decide) ?_
                refine lv_isub hx hb dX12_load_95 ?_
                refine lv_iadd hx hb dX12_load_96 ?_
                refine M_put hx hb hts hin hown hK hP hD hS 44 (by decide) rfl rfl (index := 264) (by decide +kernel) (ty := .int) (by decide +kernel) rfl rfl (pI_44 cI cJ ad x _) dX12_load_97 (fun y97 H locs ey97 hP hD hS => ?_)
                refine lv_aload_n hx hb dX12_load_100 rfl (lv_at hl 0 rfl) ?_
                refine M_get hx hb hts hin hown hK hP 43 (by decide) rfl (index := 104) (by decide +kernel) rfl dX12_load_101 ?_
                refine lv_iload_n hx hb dX12_load_104 rfl (lv_at hl 1 rfl) ?_
                refine lv_iload_n hx hb dX12_load_105 rfl (lv_at hl 2 rfl) ?_
                have h106 : vp_in a0 12 := by exact ixB_le h13 c28 (by decide)
                refine M_iast hx hb hK hP hD hS 32 rfl h106 (pA_43 cI cJ ad y97 _) dX12_load_106 (fun y106 H locs ey106 hP hD hS => ?_)
                refine lv_aload_n hx hb dX12_load_107 rfl (lv_at hl 0 rfl) ?_
                refine lv_aload_n hx hb dX12_load_108 rfl (lv_at hl 0 rfl) ?_
                refine M_get hx hb hts hin hown hK hP 44 (by decide) rfl (index := 264) (by decide +kernel) rfl dX12_load_109 ?_
                refine lv_topi (fun v109 ev109 => ?_)
                refine M_calli (av := [.int v109]) (rest := []) ⟨hx, hb, hml, hown, hts⟩ hA hK hP hD hS (c_told l D cI cJ ad y106 (v109) ) (cwV 1 hts gX12_load_X12_told rfl rfl rfl (by decide +kernel) ⟨Nat.le_of_ble_eq_true rfl, Nat.le_of_ble_eq_true rfl⟩) rfl hl.1 rfl (Nat.le_of_ble_eq_true rfl) dX12_load_112 ⟨Nat.le_of_ble_eq_true rfl, Nat.le_of_ble_eq_true rfl⟩ (fun r112 y112 H locs hw112 hP hD hS => ?_)
                obtain ⟨er112, ey112⟩ := hw112
                refine M_iret (v := r112) hx hb hr hlocks hK hP hD hS dX12_load_115 ?_
                first | (simp [hw11, hw25, ev47, ev52, ev69, ev86, ey97, ey106, ev109, er112, ey112, loadF, loadX, c14, c28, c39, c48, c57, c73, c87, mI_sI, mI_sA, mI_sL, mI_sB, mL_sI, mL_sA, mL_sL, mL_sB, mA_sI, mA_sA, mA_sL, mA_sB, mB_sI, mB_sA, mB_sL, mB_sB]; done) | exact absurd c39 c73 | exact absurd c73 c39 | exact absurd (by rw [c48]; decide) c87
              · skip
                simp only [ev86] at c87
                refine lv_iconst (v := 1) hx hb dX12_load_90 (by decide) ?_
                refine lv_goto (tgt := 95) hx hb dX12_load_91 (by decide) ?_
                refine lv_isub hx hb dX12_load_95 ?_
                refine lv_iadd hx hb dX12_load_96 ?_
                refine M_put hx hb hts hin hown hK hP hD hS 44 (by decide) rfl rfl (index := 264) (by decide +kernel) (ty := .int) (by decide +kernel) rfl rfl (pI_44 cI cJ ad x _) dX12_load_97 (fun y97 H locs ey97 hP hD hS => ?_)
                refine lv_aload_n hx hb dX12_load_100 rfl (lv_at hl 0 rfl) ?_
                refine M_get hx hb hts hin hown hK hP 43 (by decide) rfl (index := 104) (by decide +kernel) rfl dX12_load_101 ?_
                refine lv_iload_n hx hb dX12_load_104 rfl (lv_at hl 1 rfl) ?_
                refine lv_iload_n hx hb dX12_load_105 rfl (lv_at hl 2 rfl) ?_
                have h106 : vp_in a0 12 := by exact ixB_le h13 c28 (by decide)
                refine M_iast hx hb hK hP hD hS 32 rfl h106 (pA_43 cI cJ ad y97 _) dX12_load_106 (fun y106 H locs ey106 hP hD hS => ?_)
                refine lv_aload_n hx hb dX12_load_107 rfl (lv_at hl 0 rfl) ?_
                refine lv_aload_n hx hb dX12_load_108 rfl (lv_at hl 0 rfl) ?_
                refine M_get hx hb hts hin hown hK hP 44 (by decide) rfl (index := 264) (by decide +kernel) rfl dX12_load_109 ?_
                refine lv_topi (fun v109 ev109 => ?_)
                refine M_calli (av := [.int v109]) (rest := []) ⟨hx, hb, hml, hown, hts⟩ hA hK hP hD hS (c_told l D cI cJ ad y106 (v109) ) (cwV 1 hts gX12_load_X12_told rfl rfl rfl (by decide +kernel) ⟨Nat.le_of_ble_eq_true rfl, Nat.le_of_ble_eq_true rfl⟩) rfl hl.1 rfl (Nat.le_of_ble_eq_true rfl) dX12_load_112 ⟨Nat.le_of_ble_eq_true rfl, Nat.le_of_ble_eq_true rfl⟩ (fun r112 y112 H locs hw112 hP hD hS => ?_)
                obtain ⟨er112, ey112⟩ := hw112
                refine M_iret (v := r112) hx hb hr hlocks hK hP hD hS dX12_load_115 ?_
                first | (simp [hw11, hw25, ev47, ev52, ev69, ev86, ey97, ey106, ev109, er112, ey112, loadF, loadX, c14, c28, c39, c48, c57, c73, c87, mI_sI, mI_sA, mI_sL, mI_sB, mL_sI, mL_sA, mL_sL, mL_sB, mA_sI, mA_sA, mA_sL, mA_sB, mB_sI, mB_sA, mB_sL, mB_sB]; done) | exact absurd c39 c73 | exact absurd c73 c39 | exact absurd (by rw [c48]; decide) c87
          · skip
            simp only [ev52] at c57
            refine lv_aload_n hx hb dX12_load_60 rfl (lv_at hl 0 rfl) ?_
            refine lv_bipush (v := -5) hx hb dX12_load_61 (by decide) ?_
            refine M_calli (av := [.int (-5 : Int32)]) (rest := []) ⟨hx, hb, hml, hown, hts⟩ hA hK hP hD hS (c_told l D cI cJ ad x ((-5 : Int32)) ) (cwV 1 hts gX12_load_X12_told rfl rfl rfl (by decide +kernel) ⟨Nat.le_of_ble_eq_true rfl, Nat.le_of_ble_eq_true rfl⟩) rfl hl.1 rfl (Nat.le_of_ble_eq_true rfl) dX12_load_63 ⟨Nat.le_of_ble_eq_true rfl, Nat.le_of_ble_eq_true rfl⟩ (fun r63 y63 H locs hw63 hP hD hS => ?_)
            obtain ⟨er63, ey63⟩ := hw63
            refine M_iret (v := r63) hx hb hr hlocks hK hP hD hS dX12_load_66 ?_
            first | (simp [hw11, hw25, ev47, ev52, er63, ey63, loadF, loadX, c14, c28, c39, c48, c57, mI_sI, mI_sA, mI_sL, mI_sB, mL_sI, mL_sA, mL_sL, mL_sB, mA_sI, mA_sA, mA_sL, mA_sB, mB_sI, mB_sA, mB_sL, mB_sB]; done) | exact absurd c39 c73 | exact absurd c73 c39 | exact absurd (by rw [c48]; decide) c87
    · skip
      simp only [hw25, bI_0, bI_1, Bool.not_eq_false] at c28
      refine lv_aload_n hx hb dX12_load_31 rfl (lv_at hl 0 rfl) ?_
      refine lv_bipush (v := -2) hx hb dX12_load_32 (by decide) ?_
      refine M_calli (av := [.int (-2 : Int32)]) (rest := []) ⟨hx, hb, hml, hown, hts⟩ hA hK hP hD hS (c_told l D cI cJ ad x ((-2 : Int32)) ) (cwV 1 hts gX12_load_X12_told rfl rfl rfl (by decide +kernel) ⟨Nat.le_of_ble_eq_true rfl, Nat.le_of_ble_eq_true rfl⟩) rfl hl.1 rfl (Nat.le_of_ble_eq_true rfl) dX12_load_34 ⟨Nat.le_of_ble_eq_true rfl, Nat.le_of_ble_eq_true rfl⟩ (fun r34 y34 H locs hw34 hP hD hS => ?_)
      obtain ⟨er34, ey34⟩ := hw34
      refine M_iret (v := r34) hx hb hr hlocks hK hP hD hS dX12_load_37 ?_
      first | (simp [hw11, hw25, er34, ey34, loadF, loadX, c14, c28, mI_sI, mI_sA, mI_sL, mI_sB, mL_sI, mL_sA, mL_sL, mL_sB, mA_sI, mA_sA, mA_sL, mA_sB, mB_sI, mB_sA, mB_sL, mB_sB]; done) | exact absurd c39 c73 | exact absurd c73 c39 | exact absurd (by rw [c48]; decide) c87
  · skip
    simp only [hw11, bI_0, bI_1, Bool.not_eq_false] at c14
    refine lv_aload_n hx hb dX12_load_17 rfl (lv_at hl 0 rfl) ?_
    refine lv_iconst (v := -1) hx hb dX12_load_18 (by decide) ?_
    refine M_calli (av := [.int (-1 : Int32)]) (rest := []) ⟨hx, hb, hml, hown, hts⟩ hA hK hP hD hS (c_told l D cI cJ ad x ((-1 : Int32)) ) (cwV 1 hts gX12_load_X12_told rfl rfl rfl (by decide +kernel) ⟨Nat.le_of_ble_eq_true rfl, Nat.le_of_ble_eq_true rfl⟩) rfl hl.1 rfl (Nat.le_of_ble_eq_true rfl) dX12_load_19 ⟨Nat.le_of_ble_eq_true rfl, Nat.le_of_ble_eq_true rfl⟩ (fun r19 y19 H locs hw19 hP hD hS => ?_)
    obtain ⟨er19, ey19⟩ := hw19
    refine M_iret (v := r19) hx hb hr hlocks hK hP hD hS dX12_load_22 ?_
    first | (simp [hw11, er19, ey19, loadF, loadX, c14, mI_sI, mI_sA, mI_sL, mI_sB, mL_sI, mL_sA, mL_sL, mL_sB, mA_sI, mA_sA, mA_sL, mA_sB, mB_sI, mB_sA, mB_sL, mB_sB]; done) | exact absurd c39 c73 | exact absurd c73 c39 | exact absurd (by rw [c48]; decide) c87

set_option maxHeartbeats 4000000 in
set_option maxRecDepth 100000 in
theorem c_way (l : Launch) (D : va_G) (cI cJ : ClassId) (ad : Nat → Nat) (x : MS) (a0 : Int32) (a1 : Int32) (hw : whoOk x) (h1 : a0 < 0 ∨ vp_in a0 8) (h2 : a1 < 0 ∨ vp_in a1 8) : Mi l yX12_way wsX12_way { frames := 0, cells := 0, slots := 0, locals := 0 } D cI cJ ad [.int a0, .int a1] x (fun r y => y = x ∧ r = wayF x a0 a1) := by
  refine Mi_of (cc := cX12_way) (nL := 3) (ret := (some .int)) (by decide) rfl rfl (Nat.le_of_ble_eq_true rfl) ?_
  intro p e s m args below meth c A hx hb hr hlocks hml hts hown hA hK hP hD hS ls hl
  have hin : ∀ w ∈ wsX120, w ∈ wsX12_way := fun w h => List.mem_cons_of_mem _ (List.mem_append_right _ h)
  have hl : lv_has ls 3 [(0, .ref (ad 0)), (1, .int a0), (2, .int a1)] := hl
  refine lv_aload_n hx hb dX12_way_0 rfl (lv_at hl 0 rfl) ?_
  refine M_get hx hb hts hin hown hK hP 42 (by decide) rfl (index := 101) (by decide +kernel) rfl dX12_way_1 ?_
  refine lv_bipush (v := 13) hx hb dX12_way_4 (by decide) ?_
  refine lv_iload_n hx hb dX12_way_6 rfl (lv_at hl 1 rfl) ?_
  refine lv_if_ge (tgt := 15) hx hb dX12_way_7 (by decide) (fun c7 => ?_) (fun c7 => ?_)
  · skip
    refine lv_aload_n hx hb dX12_way_15 rfl (lv_at hl 0 rfl) ?_
    refine M_get hx hb hts hin hown hK hP 45 (by decide) rfl (index := 107) (by decide +kernel) rfl dX12_way_16 ?_
    refine lv_iload_n hx hb dX12_way_19 rfl (lv_at hl 1 rfl) ?_
    have h20 : vp_in a0 8 := by
      rcases h1 with h | h
      · exact absurd c7 (Int32.not_le.mpr h)
      · exact h
    refine va_iald hx hb hK hP 33 0 rfl rfl h20 dX12_way_20 ?_
    refine lv_topi (fun v20 ev20 => ?_)
    refine lv_imul hx hb dX12_way_21 ?_
    refine lv_iload_n hx hb dX12_way_22 rfl (lv_at hl 2 rfl) ?_
    refine lv_if_ge (tgt := 31) hx hb dX12_way_23 (by decide) (fun c23 => ?_) (fun c23 => ?_)
    · skip
      refine lv_aload_n hx hb dX12_way_31 rfl (lv_at hl 0 rfl) ?_
      refine M_get hx hb hts hin hown hK hP 45 (by decide) rfl (index := 107) (by decide +kernel) rfl dX12_way_32 ?_
      refine lv_iload_n hx hb dX12_way_35 rfl (lv_at hl 2 rfl) ?_
      have h36 : vp_in a1 8 := by
        rcases h2 with h | h
        · exact absurd c23 (Int32.not_le.mpr h)
        · exact h
      refine va_iald hx hb hK hP 33 0 rfl rfl h36 dX12_way_36 ?_
      refine lv_topi (fun v36 ev36 => ?_)
      refine lv_iadd hx hb dX12_way_37 ?_
      have h38 : vp_in ((((13 : Int32) * v20) + v36)) 169 := by have q := way_in (whoF_in hw h1) (whoF_in hw h2); simpa only [whoF, ev20, ev36, c7, c23, not_true_eq_false, not_false_eq_true, and_true, true_and, and_false, false_and, and_self, if_true, if_false, ite_true, ite_false, ↓reduceIte, Int32.add_zero, Bool.not_eq_false, Bool.and_true, Bool.true_and, Bool.and_false, Bool.false_and, Bool.false_eq_true] using q
      refine va_iald hx hb hK hP 31 0 rfl rfl h38 dX12_way_38 ?_
      refine lv_topi (fun v38 ev38 => ?_)
      refine M_iret (v := v38) hx hb hr hlocks hK hP hD hS dX12_way_39 ?_
      simp only [ev20, ev36, ev38, wayF, whoF, c7, c23, not_true_eq_false, not_false_eq_true, and_true, true_and, and_false, false_and, and_self, if_true, if_false, ite_true, ite_false, ↓reduceIte, Int32.add_zero, Bool.not_eq_false, Bool.and_true, Bool.true_and, Bool.and_false, Bool.false_and, Bool.false_eq_true]
    · skip
      refine lv_bipush (v := 12) hx hb dX12_way_26 (by decide) ?_
      refine lv_goto (tgt := 37) hx hb dX12_way_28 (by decide) ?_
      refine lv_iadd hx hb dX12_way_37 ?_
      have h38 : vp_in ((((13 : Int32) * v20) + (12 : Int32))) 169 := by have q := way_in (whoF_in hw h1) (whoF_in hw h2); simpa only [whoF, ev20, c7, c23, not_true_eq_false, not_false_eq_true, and_true, true_and, and_false, false_and, and_self, if_true, if_false, ite_true, ite_false, ↓reduceIte, Int32.add_zero, Bool.not_eq_false, Bool.and_true, Bool.true_and, Bool.and_false, Bool.false_and, Bool.false_eq_true] using q
      refine va_iald hx hb hK hP 31 0 rfl rfl h38 dX12_way_38 ?_
      refine lv_topi (fun v38 ev38 => ?_)
      refine M_iret (v := v38) hx hb hr hlocks hK hP hD hS dX12_way_39 ?_
      simp only [ev20, ev38, wayF, whoF, c7, c23, not_true_eq_false, not_false_eq_true, and_true, true_and, and_false, false_and, and_self, if_true, if_false, ite_true, ite_false, ↓reduceIte, Int32.add_zero, Bool.not_eq_false, Bool.and_true, Bool.true_and, Bool.and_false, Bool.false_and, Bool.false_eq_true]
  · skip
    refine lv_bipush (v := 12) hx hb dX12_way_10 (by decide) ?_
    refine lv_goto (tgt := 21) hx hb dX12_way_12 (by decide) ?_
    refine lv_imul hx hb dX12_way_21 ?_
    refine lv_iload_n hx hb dX12_way_22 rfl (lv_at hl 2 rfl) ?_
    refine lv_if_ge (tgt := 31) hx hb dX12_way_23 (by decide) (fun c23 => ?_) (fun c23 => ?_)
    · skip
      refine lv_aload_n hx hb dX12_way_31 rfl (lv_at hl 0 rfl) ?_
      refine M_get hx hb hts hin hown hK hP 45 (by decide) rfl (index := 107) (by decide +kernel) rfl dX12_way_32 ?_
      refine lv_iload_n hx hb dX12_way_35 rfl (lv_at hl 2 rfl) ?_
      have h36 : vp_in a1 8 := by
        rcases h2 with h | h
        · exact absurd c23 (Int32.not_le.mpr h)
        · exact h
      refine va_iald hx hb hK hP 33 0 rfl rfl h36 dX12_way_36 ?_
      refine lv_topi (fun v36 ev36 => ?_)
      refine lv_iadd hx hb dX12_way_37 ?_
      have h38 : vp_in ((((13 : Int32) * (12 : Int32)) + v36)) 169 := by have q := way_in (whoF_in hw h1) (whoF_in hw h2); simpa only [whoF, ev36, c7, c23, not_true_eq_false, not_false_eq_true, and_true, true_and, and_false, false_and, and_self, if_true, if_false, ite_true, ite_false, ↓reduceIte, Int32.add_zero, Bool.not_eq_false, Bool.and_true, Bool.true_and, Bool.and_false, Bool.false_and, Bool.false_eq_true] using q
      refine va_iald hx hb hK hP 31 0 rfl rfl h38 dX12_way_38 ?_
      refine lv_topi (fun v38 ev38 => ?_)
      refine M_iret (v := v38) hx hb hr hlocks hK hP hD hS dX12_way_39 ?_
      simp only [ev36, ev38, wayF, whoF, c7, c23, not_true_eq_false, not_false_eq_true, and_true, true_and, and_false, false_and, and_self, if_true, if_false, ite_true, ite_false, ↓reduceIte, Int32.add_zero, Bool.not_eq_false, Bool.and_true, Bool.true_and, Bool.and_false, Bool.false_and, Bool.false_eq_true]
    · skip
      refine lv_bipush (v := 12) hx hb dX12_way_26 (by decide) ?_
      refine lv_goto (tgt := 37) hx hb dX12_way_28 (by decide) ?_
      refine lv_iadd hx hb dX12_way_37 ?_
      have h38 : vp_in ((((13 : Int32) * (12 : Int32)) + (12 : Int32))) 169 := by have q := way_in (whoF_in hw h1) (whoF_in hw h2); simpa only [whoF, and_true, c7, c23, not_true_eq_false, not_false_eq_true, and_true, true_and, and_false, false_and, and_self, if_true, if_false, ite_true, ite_false, ↓reduceIte, Int32.add_zero, Bool.not_eq_false, Bool.and_true, Bool.true_and, Bool.and_false, Bool.false_and, Bool.false_eq_true] using q
      refine va_iald hx hb hK hP 31 0 rfl rfl h38 dX12_way_38 ?_
      refine lv_topi (fun v38 ev38 => ?_)
      refine M_iret (v := v38) hx hb hr hlocks hK hP hD hS dX12_way_39 ?_
      simp only [ev38, wayF, whoF, c7, c23, not_true_eq_false, not_false_eq_true, and_true, true_and, and_false, false_and, and_self, if_true, if_false, ite_true, ite_false, ↓reduceIte, Int32.add_zero, Bool.not_eq_false, Bool.and_true, Bool.true_and, Bool.and_false, Bool.false_and, Bool.false_eq_true]
