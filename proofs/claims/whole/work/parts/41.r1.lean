def fX12_in (a0 : Int64) (a2 : Int64) (a4 : Int64) : Int32 :=
  if (lg_cmp a0 a2) < 0 then 
    (0 : Int32)
    else if 0 < (lg_cmp a0 a4) then 
      (0 : Int32)
      else (1 : Int32)
theorem fX12_in_nar (a0 : Int64) (a2 : Int64) (a4 : Int64) : narrow .boolean (.int (fX12_in a0 a2 a4)) = .int (fX12_in a0 a2 a4) := by
  unfold fX12_in
  (repeat' split) <;> rfl
set_option maxHeartbeats 8000000 in
set_option maxRecDepth 100000 in
theorem cX12_in_ok (l : Launch) (a0 : Int64) (a2 : Int64) (a4 : Int64) : Si l yX12_in wsX12_in { frames := 0, cells := 0, slots := 0, locals := 0 } [.long a0, .long a2, .long a4] (fun r => r = fX12_in a0 a2 a4) := by
  obtain ⟨r, h⟩ : ∃ r, fX12_in a0 a2 a4 = r := ⟨_, rfl⟩
  rw [h]
  refine Si_of (own := RX12) (cc := cX12_in) (nL := 6) (ret := (some .boolean)) (by decide) rfl rfl (Nat.le_of_ble_eq_true rfl) ?_
  intro p e s m args below meth c hx hb hr hlocks hml hts hown ls hl
  unfold fX12_in at h
  have hl : lv_has ls 6 [(0, .long a0), (2, .long a2), (4, .long a4)] := hl
  refine lv_lload_n hx hb dX12_in_0 rfl (lv_at hl 0 rfl) ?_
  refine lv_lload_n hx hb dX12_in_1 rfl (lv_at hl 1 rfl) ?_
  refine W.lcmp hx hb dX12_in_2 ?_
  refine lv_if_lt (tgt := 17) hx hb dX12_in_3 (by decide) (fun c3 => ?_) (fun c3 => ?_)
  · have h := of_it h c3
    refine lv_iconst (v := 0) hx hb dX12_in_17 (by decide) ?_
    exact S_iret (v := (0 : Int32)) hx hb hr hlocks dX12_in_18 (by first | rfl | decide) h
  · have h := of_if h c3
    refine lv_lload_n hx hb dX12_in_6 rfl (lv_at hl 0 rfl) ?_
    refine lv_lload hx hb dX12_in_7 (lv_at hl 2 rfl) ?_
    refine W.lcmp hx hb dX12_in_9 ?_
    refine lv_if_gt (tgt := 17) hx hb dX12_in_10 (by decide) (fun c10 => ?_) (fun c10 => ?_)
    · have h := of_it h c10
      refine lv_iconst (v := 0) hx hb dX12_in_17 (by decide) ?_
      exact S_iret (v := (0 : Int32)) hx hb hr hlocks dX12_in_18 (by first | rfl | decide) h
    · have h := of_if h c10
      refine lv_iconst (v := 1) hx hb dX12_in_13 (by decide) ?_
      refine lv_goto (tgt := 18) hx hb dX12_in_14 (by decide) ?_
      exact S_iret (v := (1 : Int32)) hx hb hr hlocks dX12_in_18 (by first | rfl | decide) h

def fX12_told (n : Nat × Nat) (S : MS) (a1 : Int32) : Option (Int32 × MS) :=
  if 0 ≤ a1 then 
    bnd (sI S 1 (0 : Int32)) (fun S10 => some (a1, S10))
    else bnd (sI S 1 a1) (fun S10 => some (a1, S10))
set_option maxHeartbeats 8000000 in
set_option maxRecDepth 100000 in
theorem cX12_told_ok (l : Launch) (D : va_G) (cI cJ : ClassId) (ad : Nat → Nat) (n : Nat × Nat) (S : MS) (a1 : Int32) {r : Int32} {T : MS} (h : fX12_told n S a1 = some (r, T)) : Mi l yX12_told wsX12_told (cRm 0 0 0 0) D cI cJ ad [.int a1] S (fun r1 u => r1 = r ∧ u = T) := by
  refine Mi_of (cc := cX12_told) (nL := 2) (ret := (some .int)) (by decide) rfl rfl (Nat.le_of_ble_eq_true rfl) ?_
  intro p e s m args below meth c A hx hb hr hlocks hml hts hown hA hK hP hD hS ls hl
  have hw : mWd D cI cJ ad A s.heap S s.heap [] := ⟨hP, hD, hS⟩
  unfold fX12_told at h
  have hin : ∀ w ∈ wsX120, w ∈ wsX12_told := fun w h => List.mem_cons_of_mem _ (List.mem_append_right _ h)
  have hl : lv_has ls 2 [(0, .ref (ad 0)), (1, .int a1)] := hl
  refine lv_aload_n hx hb dX12_told_0 rfl (lv_at hl 0 rfl) ?_
  refine lv_iload_n hx hb dX12_told_1 rfl (lv_at hl 1 rfl) ?_
  refine lv_if_ge (tgt := 9) hx hb dX12_told_2 (by decide) (fun c2 => ?_) (fun c2 => ?_)
  · have h := of_it h c2
    refine lv_iconst (v := 0) hx hb dX12_told_9 (by decide) ?_
    refine N_put hx hb hts hin hown hK hw 1 (by decide) rfl rfl (index := 159) (by decide +kernel) (ty := .int) (by decide +kernel) rfl rfl (pI_1 cI cJ ad S _) dX12_told_10 (fun S10 H locs eS10 hw => ?_)
    have h := of_bnd h eS10
    refine lv_iload_n hx hb dX12_told_13 rfl (lv_at hl 1 rfl) ?_
    obtain ⟨rfl, rfl⟩ := of_ret2 h
    exact M_iret hx hb hr hlocks hK hw.1 hw.2.1 hw.2.2 dX12_told_14 ⟨rfl, rfl⟩
  · have h := of_if h c2
    refine lv_iload_n hx hb dX12_told_5 rfl (lv_at hl 1 rfl) ?_
    refine lv_goto (tgt := 10) hx hb dX12_told_6 (by decide) ?_
    refine N_put hx hb hts hin hown hK hw 1 (by decide) rfl rfl (index := 159) (by decide +kernel) (ty := .int) (by decide +kernel) rfl rfl (pI_1 cI cJ ad S _) dX12_told_10 (fun S10 H locs eS10 hw => ?_)
    have h := of_bnd h eS10
    refine lv_iload_n hx hb dX12_told_13 rfl (lv_at hl 1 rfl) ?_
    obtain ⟨rfl, rfl⟩ := of_ret2 h
    exact M_iret hx hb hr hlocks hK hw.1 hw.2.1 hw.2.2 dX12_told_14 ⟨rfl, rfl⟩

def fX12_isKind (a0 : Int32) : Int32 :=
  bnd (fX12_in a0.toInt64 (0 : Int64) (9 : Int64)) (fun r6 => r6)
theorem fX12_isKind_nar (a0 : Int32) : narrow .boolean (.int (fX12_isKind a0)) = .int (fX12_isKind a0) := by
  unfold fX12_isKind
  unfold bnd
  exact fX12_in_nar _ _ _
set_option maxHeartbeats 8000000 in
set_option maxRecDepth 100000 in
theorem cX12_isKind_ok (l : Launch) (a0 : Int32) : Si l yX12_isKind wsX12_isKind { frames := 1, cells := 0, slots := 0, locals := 25 } [.int a0] (fun r => r = fX12_isKind a0) := by
  obtain ⟨r, h⟩ : ∃ r, fX12_isKind a0 = r := ⟨_, rfl⟩
  rw [h]
  refine Si_of (own := RX12) (cc := cX12_isKind) (nL := 1) (ret := (some .boolean)) (by decide) rfl rfl (Nat.le_of_ble_eq_true rfl) ?_
  intro p e s m args below meth c hx hb hr hlocks hml hts hown ls hl
  unfold fX12_isKind at h
  have hl : lv_has ls 1 [(0, .int a0)] := hl
  refine lv_iload_n hx hb dX12_isKind_0 rfl (lv_at hl 0 rfl) ?_
  refine lv_i2l hx hb dX12_isKind_1 rfl ?_
  refine lv_lconst (v := 0) hx hb dX12_isKind_2 (by decide) ?_
  refine lv_ldc2 (v := 9) hx hb hown (hts (.constantLong RX12 162 (9)) (by decide +kernel)) dX12_isKind_3 ?_
  refine C_s (va_runS (As := [.long a0.toInt64, .long (0 : Int64), .long (9 : Int64)]) (rest := []) ⟨hx, hb, hml, hown, hts⟩ (cX12_in_ok l a0.toInt64 (0 : Int64) (9 : Int64)) (va_cwS 3 hts gX12_isKind_X12_in rfl rfl rfl (by decide +kernel) ⟨Nat.le_of_ble_eq_true rfl, Nat.le_of_ble_eq_true rfl⟩) ⟨fun a U g mk q => ⟨q.1, trivial⟩, fun U hU hW => ⟨rfl, trivial⟩⟩ rfl rfl hl.1 rfl (lv_room (Nat.le_of_ble_eq_true rfl)) dX12_isKind_6 ⟨Nat.le_refl _, Nat.le_refl _⟩) (fun r6 er6 => ?_)
  have h := of_bnd h er6
  exact S_iret (v := r6) hx hb hr hlocks dX12_isKind_9 (by rw [er6]; exact fX12_in_nar _ _ _) h

def fX12_isLot (n : Nat × Nat) (S : MS) (a1 : Int32) : Option Int32 :=
  bnd (mI S 4) (fun v4 => bnd (fX12_in a1.toInt64 (0 : Int64) (v4.toInt64 - (1 : Int64))) (fun r10 => some r10))
set_option maxHeartbeats 8000000 in
set_option maxRecDepth 100000 in
theorem cX12_isLot_ok (l : Launch) (D : va_G) (cI cJ : ClassId) (ad : Nat → Nat) (n : Nat × Nat) (S : MS) (a1 : Int32) {r : Int32} (h : fX12_isLot n S a1 = some r) : Mi l yX12_isLot wsX12_isLot (cRm 1 25 0 0) D cI cJ ad [.int a1] S (fun r1 u => r1 = r ∧ u = S) := by
  refine Mi_of (cc := cX12_isLot) (nL := 2) (ret := (some .boolean)) (by decide) rfl rfl (Nat.le_of_ble_eq_true rfl) ?_
  intro p e s m args below meth c A hx hb hr hlocks hml hts hown hA hK hP hD hS ls hl
  have hw : mWd D cI cJ ad A s.heap S s.heap [] := ⟨hP, hD, hS⟩
  unfold fX12_isLot at h
  have hin : ∀ w ∈ wsX120, w ∈ wsX12_isLot := fun w h => List.mem_cons_of_mem _ (List.mem_append_right _ h)
  have hl : lv_has ls 2 [(0, .ref (ad 0)), (1, .int a1)] := hl
  refine lv_iload_n hx hb dX12_isLot_0 rfl (lv_at hl 1 rfl) ?_
  refine lv_i2l hx hb dX12_isLot_1 rfl ?_
  refine lv_lconst (v := 0) hx hb dX12_isLot_2 (by decide) ?_
  refine lv_aload_n hx hb dX12_isLot_3 rfl (lv_at hl 0 rfl) ?_
  refine N_get hx hb hts hin hown hK hw 4 (by decide) rfl (index := 168) (by decide +kernel) rfl dX12_isLot_4 ?_
  refine lv_topi (fun v4 ev4 => ?_)
  have h := of_bnd h ev4
  refine lv_i2l hx hb dX12_isLot_7 rfl ?_
  refine lv_lconst (v := 1) hx hb dX12_isLot_8 (by decide) ?_
  refine lv_lsub hx hb dX12_isLot_9 ?_
  refine C_s (va_runS (As := [.long a1.toInt64, .long (0 : Int64), .long (v4.toInt64 - (1 : Int64))]) (rest := []) ⟨hx, hb, hml, hown, hts⟩ (cX12_in_ok l a1.toInt64 (0 : Int64) (v4.toInt64 - (1 : Int64))) (va_cwS 3 hts gX12_isLot_X12_in rfl rfl rfl (by decide +kernel) ⟨Nat.le_of_ble_eq_true rfl, Nat.le_of_ble_eq_true rfl⟩) ⟨fun a U g mk q => ⟨q.1, trivial⟩, fun U hU hW => ⟨rfl, trivial⟩⟩ rfl rfl hl.1 rfl (lv_room (Nat.le_of_ble_eq_true rfl)) dX12_isLot_10 ⟨Nat.le_refl _, Nat.le_refl _⟩) (fun r10 er10 => ?_)
  have h := of_bnd h er10
  obtain rfl := Option.some.inj h
  exact M_zret hx hb hr hlocks hK hw.1 hw.2.1 hw.2.2 dX12_isLot_13 (by rw [er10]; exact fX12_in_nar _ _ _) ⟨rfl, rfl⟩

def fX12_isTable (n : Nat × Nat) (S : MS) (a1 : Int32) : Option Int32 :=
  bnd (mI S 13) (fun v4 => bnd (fX12_in a1.toInt64 (0 : Int64) (v4.toInt64 - (1 : Int64))) (fun r10 => some r10))
set_option maxHeartbeats 8000000 in
set_option maxRecDepth 100000 in
theorem cX12_isTable_ok (l : Launch) (D : va_G) (cI cJ : ClassId) (ad : Nat → Nat) (n : Nat × Nat) (S : MS) (a1 : Int32) {r : Int32} (h : fX12_isTable n S a1 = some r) : Mi l yX12_isTable wsX12_isTable (cRm 1 25 0 0) D cI cJ ad [.int a1] S (fun r1 u => r1 = r ∧ u = S) := by
  refine Mi_of (cc := cX12_isTable) (nL := 2) (ret := (some .boolean)) (by decide) rfl rfl (Nat.le_of_ble_eq_true rfl) ?_
  intro p e s m args below meth c A hx hb hr hlocks hml hts hown hA hK hP hD hS ls hl
  have hw : mWd D cI cJ ad A s.heap S s.heap [] := ⟨hP, hD, hS⟩
  unfold fX12_isTable at h
  have hin : ∀ w ∈ wsX120, w ∈ wsX12_isTable := fun w h => List.mem_cons_of_mem _ (List.mem_append_right _ h)
  have hl : lv_has ls 2 [(0, .ref (ad 0)), (1, .int a1)] := hl
  refine lv_iload_n hx hb dX12_isTable_0 rfl (lv_at hl 1 rfl) ?_
  refine lv_i2l hx hb dX12_isTable_1 rfl ?_
  refine lv_lconst (v := 0) hx hb dX12_isTable_2 (by decide) ?_
  refine lv_aload_n hx hb dX12_isTable_3 rfl (lv_at hl 0 rfl) ?_
  refine N_get hx hb hts hin hown hK hw 13 (by decide) rfl (index := 171) (by decide +kernel) rfl dX12_isTable_4 ?_
  refine lv_topi (fun v4 ev4 => ?_)
  have h := of_bnd h ev4
  refine lv_i2l hx hb dX12_isTable_7 rfl ?_
  refine lv_lconst (v := 1) hx hb dX12_isTable_8 (by decide) ?_
  refine lv_lsub hx hb dX12_isTable_9 ?_
  refine C_s (va_runS (As := [.long a1.toInt64, .long (0 : Int64), .long (v4.toInt64 - (1 : Int64))]) (rest := []) ⟨hx, hb, hml, hown, hts⟩ (cX12_in_ok l a1.toInt64 (0 : Int64) (v4.toInt64 - (1 : Int64))) (va_cwS 3 hts gX12_isTable_X12_in rfl rfl rfl (by decide +kernel) ⟨Nat.le_of_ble_eq_true rfl, Nat.le_of_ble_eq_true rfl⟩) ⟨fun a U g mk q => ⟨q.1, trivial⟩, fun U hU hW => ⟨rfl, trivial⟩⟩ rfl rfl hl.1 rfl (lv_room (Nat.le_of_ble_eq_true rfl)) dX12_isTable_10 ⟨Nat.le_refl _, Nat.le_refl _⟩) (fun r10 er10 => ?_)
  have h := of_bnd h er10
  obtain rfl := Option.some.inj h
  exact M_zret hx hb hr hlocks hK hw.1 hw.2.1 hw.2.2 dX12_isTable_13 (by rw [er10]; exact fX12_in_nar _ _ _) ⟨rfl, rfl⟩

def fX12_isFamily (n : Nat × Nat) (S : MS) (a1 : Int32) : Option Int32 :=
  bnd (mI S 16) (fun v4 => bnd (fX12_in a1.toInt64 (0 : Int64) (v4.toInt64 - (1 : Int64))) (fun r10 => some r10))
set_option maxHeartbeats 8000000 in
set_option maxRecDepth 100000 in
theorem cX12_isFamily_ok (l : Launch) (D : va_G) (cI cJ : ClassId) (ad : Nat → Nat) (n : Nat × Nat) (S : MS) (a1 : Int32) {r : Int32} (h : fX12_isFamily n S a1 = some r) : Mi l yX12_isFamily wsX12_isFamily (cRm 1 25 0 0) D cI cJ ad [.int a1] S (fun r1 u => r1 = r ∧ u = S) := by
  refine Mi_of (cc := cX12_isFamily) (nL := 2) (ret := (some .boolean)) (by decide) rfl rfl (Nat.le_of_ble_eq_true rfl) ?_
  intro p e s m args below meth c A hx hb hr hlocks hml hts hown hA hK hP hD hS ls hl
  have hw : mWd D cI cJ ad A s.heap S s.heap [] := ⟨hP, hD, hS⟩
  unfold fX12_isFamily at h
  have hin : ∀ w ∈ wsX120, w ∈ wsX12_isFamily := fun w h => List.mem_cons_of_mem _ (List.mem_append_right _ h)
  have hl : lv_has ls 2 [(0, .ref (ad 0)), (1, .int a1)] := hl
  refine lv_iload_n hx hb dX12_isFamily_0 rfl (lv_at hl 1 rfl) ?_
  refine lv_i2l hx hb dX12_isFamily_1 rfl ?_
  refine lv_lconst (v := 0) hx hb dX12_isFamily_2 (by decide) ?_
  refine lv_aload_n hx hb dX12_isFamily_3 rfl (lv_at hl 0 rfl) ?_
  refine N_get hx hb hts hin hown hK hw 16 (by decide) rfl (index := 174) (by decide +kernel) rfl dX12_isFamily_4 ?_
  refine lv_topi (fun v4 ev4 => ?_)
  have h := of_bnd h ev4
  refine lv_i2l hx hb dX12_isFamily_7 rfl ?_
  refine lv_lconst (v := 1) hx hb dX12_isFamily_8 (by decide) ?_
  refine lv_lsub hx hb dX12_isFamily_9 ?_
  refine C_s (va_runS (As := [.long a1.toInt64, .long (0 : Int64), .long (v4.toInt64 - (1 : Int64))]) (rest := []) ⟨hx, hb, hml, hown, hts⟩ (cX12_in_ok l a1.toInt64 (0 : Int64) (v4.toInt64 - (1 : Int64))) (va_cwS 3 hts gX12_isFamily_X12_in rfl rfl rfl (by decide +kernel) ⟨Nat.le_of_ble_eq_true rfl, Nat.le_of_ble_eq_true rfl⟩) ⟨fun a U g mk q => ⟨q.1, trivial⟩, fun U hU hW => ⟨rfl, trivial⟩⟩ rfl rfl hl.1 rfl (lv_room (Nat.le_of_ble_eq_true rfl)) dX12_isFamily_10 ⟨Nat.le_refl _, Nat.le_refl _⟩) (fun r10 er10 => ?_)
  have h := of_bnd h er10
  obtain rfl := Option.some.inj h
  exact M_zret hx hb hr hlocks hK hw.1 hw.2.1 hw.2.2 dX12_isFamily_13 (by rw [er10]; exact fX12_in_nar _ _ _) ⟨rfl, rfl⟩

def fX12_contents (n : Nat × Nat) (S : MS) (a1 : Int32) (a2 : Int32) : Option (Int32 × MS) :=
  bnd (sI S 0 (0 : Int32)) (fun S2 => bnd (fX12_isKind a1) (fun r6 => if r6 = 0 then 
    cal (fX12_told n S2 (-1 : Int32)) (un2 fun r26 S26 => some (r26, S26))
    else bnd (fX12_in a2.toInt64 (0 : Int64) (255 : Int64)) (fun r18 => if r18 = 0 then 
      cal (fX12_told n S2 (-1 : Int32)) (un2 fun r26 S26 => some (r26, S26))
      else grd (¬ (a1 < 0 ∨ 10 ≤ a1.toNatClampNeg)) (bnd (sA S2 3 (upd (mA S2 3) a1.toNatClampNeg a2)) (fun S36 => cal (fX12_told n S36 (0 : Int32)) (un2 fun r39 S39 => some (r39, S39)))))))
set_option maxHeartbeats 8000000 in
set_option maxRecDepth 100000 in
theorem cX12_contents_ok (l : Launch) (D : va_G) (cI cJ : ClassId) (ad : Nat → Nat) (n : Nat × Nat) (S : MS) (a1 : Int32) (a2 : Int32) {r : Int32} {T : MS} (h : fX12_contents n S a1 a2 = some (r, T)) : Mi l yX12_contents wsX12_contents (cRm 2 45 0 0) D cI cJ ad [.int a1, .int a2] S (fun r1 u => r1 = r ∧ u = T) := by
  refine Mi_of (cc := cX12_contents) (nL := 3) (ret := (some .int)) (by decide) rfl rfl (Nat.le_of_ble_eq_true rfl) ?_
  intro p e s m args below meth c A hx hb hr hlocks hml hts hown hA hK hP hD hS ls hl
  have hw : mWd D cI cJ ad A s.heap S s.heap [] := ⟨hP, hD, hS⟩
  unfold fX12_contents at h
  have hin : ∀ w ∈ wsX120, w ∈ wsX12_contents := fun w h => List.mem_cons_of_mem _ (List.mem_append_right _ h)
  have hl : lv_has ls 3 [(0, .ref (ad 0)), (1, .int a1), (2, .int a2)] := hl
  refine lv_aload_n hx hb dX12_contents_0 rfl (lv_at hl 0 rfl) ?_
  refine lv_iconst (v := 0) hx hb dX12_contents_1 (by decide) ?_
  refine N_put hx hb hts hin hown hK hw 0 (by decide) rfl rfl (index := 156) (by decide +kernel) (ty := .int) (by decide +kernel) rfl rfl (pI_0 cI cJ ad S _) dX12_contents_2 (fun S2 H locs eS2 hw => ?_)
  have h := of_bnd h eS2
  refine lv_iload_n hx hb dX12_contents_5 rfl (lv_at hl 1 rfl) ?_
  refine C_s (va_runS (As := [.int a1]) (rest := []) ⟨hx, hb, hml, hown, hts⟩ (cX12_isKind_ok l a1) (va_cwS 1 hts gX12_contents_X12_isKind rfl rfl rfl (by decide +kernel) ⟨Nat.le_of_ble_eq_true rfl, Nat.le_of_ble_eq_true rfl⟩) ⟨fun a U g mk q => ⟨q.1, trivial⟩, fun U hU hW => ⟨rfl, trivial⟩⟩ rfl rfl hl.1 rfl (lv_room (Nat.le_of_ble_eq_true rfl)) dX12_contents_6 ⟨Nat.le_refl _, Nat.le_refl _⟩) (fun r6 er6 => ?_)
  have h := of_bnd h er6
  refine lv_if_eq (tgt := 24) hx hb dX12_contents_9 (by decide) (fun c9 => ?_) (fun c9 => ?_)
  · have h := of_it h c9
    refine lv_aload_n hx hb dX12_contents_24 rfl (lv_at hl 0 rfl) ?_
    refine lv_iconst (v := -1) hx hb dX12_contents_25 (by decide) ?_
    obtain ⟨q26, hq26, h⟩ := of_cal h
    obtain ⟨r26, S26⟩ := q26
    have h := of_un2 h
    refine N_calli (av := [.int (-1 : Int32)]) (rest := []) ⟨hx, hb, hml, hown, hts⟩ hA hK hw (cX12_told_ok l D cI cJ ad n S2 (-1 : Int32) hq26) (cwV 1 hts gX12_contents_X12_told rfl rfl rfl (by decide +kernel) ⟨Nat.le_of_ble_eq_true rfl, Nat.le_of_ble_eq_true rfl⟩) rfl hl.1 rfl (Nat.le_of_ble_eq_true rfl) dX12_contents_26 ⟨Nat.le_refl _, Nat.le_refl _⟩ (fun H locs hw => ?_)
    obtain ⟨rfl, rfl⟩ := of_ret2 h
    exact M_iret hx hb hr hlocks hK hw.1 hw.2.1 hw.2.2 dX12_contents_29 ⟨rfl, rfl⟩
  · have h := of_if h c9
    refine lv_iload_n hx hb dX12_contents_12 rfl (lv_at hl 2 rfl) ?_
    refine lv_i2l hx hb dX12_contents_13 rfl ?_
    refine lv_lconst (v := 0) hx hb dX12_contents_14 (by decide) ?_
    refine lv_ldc2 (v := 255) hx hb hown (hts (.constantLong RX12 181 (255)) (by decide +kernel)) dX12_contents_15 ?_
    refine C_s (va_runS (As := [.long a2.toInt64, .long (0 : Int64), .long (255 : Int64)]) (rest := []) ⟨hx, hb, hml, hown, hts⟩ (cX12_in_ok l a2.toInt64 (0 : Int64) (255 : Int64)) (va_cwS 3 hts gX12_contents_X12_in rfl rfl rfl (by decide +kernel) ⟨Nat.le_of_ble_eq_true rfl, Nat.le_of_ble_eq_true rfl⟩) ⟨fun a U g mk q => ⟨q.1, trivial⟩, fun U hU hW => ⟨rfl, trivial⟩⟩ rfl rfl hl.1 rfl (lv_room (Nat.le_of_ble_eq_true rfl)) dX12_contents_18 ⟨Nat.le_refl _, Nat.le_refl _⟩) (fun r18 er18 => ?_)
    have h := of_bnd h er18
    refine lv_if_ne (tgt := 30) hx hb dX12_contents_21 (by decide) (fun c21 => ?_) (fun c21 => ?_)
    · have h := of_if h c21
      refine lv_aload_n hx hb dX12_contents_30 rfl (lv_at hl 0 rfl) ?_
      refine N_get hx hb hts hin hown hK hw 3 (by decide) rfl (index := 7) (by decide +kernel) rfl dX12_contents_31 ?_
      refine lv_iload_n hx hb dX12_contents_34 rfl (lv_at hl 1 rfl) ?_
      refine lv_iload_n hx hb dX12_contents_35 rfl (lv_at hl 2 rfl) ?_
      obtain ⟨hi36, h⟩ := of_grd h
      refine N_iast hx hb hK hw 1 rfl hi36 (pA_3 cI cJ ad S2 _) dX12_contents_36 (fun S36 H locs eS36 hw => ?_)
      have h := of_bnd h eS36
      refine lv_aload_n hx hb dX12_contents_37 rfl (lv_at hl 0 rfl) ?_
      refine lv_iconst (v := 0) hx hb dX12_contents_38 (by decide) ?_
      obtain ⟨q39, hq39, h⟩ := of_cal h
      obtain ⟨r39, S39⟩ := q39
      have h := of_un2 h
      refine N_calli (av := [.int (0 : Int32)]) (rest := []) ⟨hx, hb, hml, hown, hts⟩ hA hK hw (cX12_told_ok l D cI cJ ad n S36 (0 : Int32) hq39) (cwV 1 hts gX12_contents_X12_told rfl rfl rfl (by decide +kernel) ⟨Nat.le_of_ble_eq_true rfl, Nat.le_of_ble_eq_true rfl⟩) rfl hl.1 rfl (Nat.le_of_ble_eq_true rfl) dX12_contents_39 ⟨Nat.le_refl _, Nat.le_refl _⟩ (fun H locs hw => ?_)
      obtain ⟨rfl, rfl⟩ := of_ret2 h
      exact M_iret hx hb hr hlocks hK hw.1 hw.2.1 hw.2.2 dX12_contents_42 ⟨rfl, rfl⟩
    · have h := of_it h c21
      refine lv_aload_n hx hb dX12_contents_24 rfl (lv_at hl 0 rfl) ?_
      refine lv_iconst (v := -1) hx hb dX12_contents_25 (by decide) ?_
      obtain ⟨q26, hq26, h⟩ := of_cal h
      obtain ⟨r26, S26⟩ := q26
      have h := of_un2 h
      refine N_calli (av := [.int (-1 : Int32)]) (rest := []) ⟨hx, hb, hml, hown, hts⟩ hA hK hw (cX12_told_ok l D cI cJ ad n S2 (-1 : Int32) hq26) (cwV 1 hts gX12_contents_X12_told rfl rfl rfl (by decide +kernel) ⟨Nat.le_of_ble_eq_true rfl, Nat.le_of_ble_eq_true rfl⟩) rfl hl.1 rfl (Nat.le_of_ble_eq_true rfl) dX12_contents_26 ⟨Nat.le_refl _, Nat.le_refl _⟩ (fun H locs hw => ?_)
      obtain ⟨rfl, rfl⟩ := of_ret2 h
      exact M_iret hx hb hr hlocks hK hw.1 hw.2.1 hw.2.2 dX12_contents_29 ⟨rfl, rfl⟩

def fX12_gift (n : Nat × Nat) (S : MS) (a1 : Int32) (a2 : Int32) (a3 : Int32) (a4 : Int32) : Option (Int32 × MS) :=
  bnd (sI S 0 (0 : Int32)) (fun S2 => bnd (fX12_isKind a1) (fun r6 => if r6 = 0 then 
    cal (fX12_told n S2 (-1 : Int32)) (un2 fun r55 S55 => some (r55, S55))
    else bnd (fX12_in a2.toInt64 (1 : Int64) (1000000 : Int64)) (fun r18 => if r18 = 0 then 
      cal (fX12_told n S2 (-1 : Int32)) (un2 fun r55 S55 => some (r55, S55))
      else bnd (mI S2 2) (fun v27 => bnd (fX12_in a3.toInt64 v27.toInt64 (1000 : Int64)) (fun r34 => if r34 = 0 then 
        cal (fX12_told n S2 (-1 : Int32)) (un2 fun r55 S55 => some (r55, S55))
        else bnd (fX12_in a4.toInt64 (0 : Int64) (19 : Int64)) (fun r47 => if r47 = 0 then 
          cal (fX12_told n S2 (-1 : Int32)) (un2 fun r55 S55 => some (r55, S55))
          else bnd (mI S2 4) (fun v60 => if v60 = (200 : Int32) then 
            cal (fX12_told n S2 (-5 : Int32)) (un2 fun r72 S72 => some (r72, S72))
            else bnd (mI S2 4) (fun v81 => grd (¬ (v81 < 0 ∨ 200 ≤ v81.toNatClampNeg)) (bnd (sA S2 5 (upd (mA S2 5) v81.toNatClampNeg a1)) (fun S85 => bnd (mI S85 4) (fun v91 => grd (¬ (v91 < 0 ∨ 200 ≤ v91.toNatClampNeg)) (bnd (sA S85 6 (upd (mA S85 6) v91.toNatClampNeg a2)) (fun S95 => bnd (mI S95 4) (fun v101 => grd (¬ (v101 < 0 ∨ 200 ≤ v101.toNatClampNeg)) (bnd (sA S95 7 (upd (mA S95 7) v101.toNatClampNeg a3)) (fun S105 => bnd (mI S105 4) (fun v111 => grd (¬ (v111 < 0 ∨ 200 ≤ v111.toNatClampNeg)) (bnd (sA S105 8 (upd (mA S105 8) v111.toNatClampNeg a4)) (fun S116 => bnd (mI S116 4) (fun v122 => grd (¬ (v122 < 0 ∨ 200 ≤ v122.toNatClampNeg)) (bnd (sA S116 9 (upd (mA S116 9) v122.toNatClampNeg a2)) (fun S126 => bnd (mI S126 4) (fun v129 => bnd (sI S126 4 (v129 + (1 : Int32))) (fun S134 => bnd (mI S134 4) (fun v139 => cal (fX12_told n S134 (v139 - (1 : Int32))) (un2 fun r144 S144 => some (r144, S144)))))))))))))))))))))))))))
set_option maxHeartbeats 8000000 in
set_option maxRecDepth 100000 in
theorem cX12_gift_ok (l : Launch) (D : va_G) (cI cJ : ClassId) (ad : Nat → Nat) (n : Nat × Nat) (S : MS) (a1 : Int32) (a2 : Int32) (a3 : Int32) (a4 : Int32) {r : Int32} {T : MS} (h : fX12_gift n S a1 a2 a3 a4 = some (r, T)) : Mi l yX12_gift wsX12_gift (cRm 2 45 0 0) D cI cJ ad [.int a1, .int a2, .int a3, .int a4] S (fun r1 u => r1 = r ∧ u = T) := by
  refine Mi_of (cc := cX12_gift) (nL := 5) (ret := (some .int)) (by decide) rfl rfl (Nat.le_of_ble_eq_true rfl) ?_
  intro p e s m args below meth c A hx hb hr hlocks hml hts hown hA hK hP hD hS ls hl
  have hw : mWd D cI cJ ad A s.heap S s.heap [] := ⟨hP, hD, hS⟩
  unfold fX12_gift at h
  have hin : ∀ w ∈ wsX120, w ∈ wsX12_gift := fun w h => List.mem_cons_of_mem _ (List.mem_append_right _ h)
  have hl : lv_has ls 5 [(0, .ref (ad 0)), (1, .int a1), (2, .int a2), (3, .int a3), (4, .int a4)] := hl
  refine lv_aload_n hx hb dX12_gift_0 rfl (lv_at hl 0 rfl) ?_
  refine lv_iconst (v := 0) hx hb dX12_gift_1 (by decide) ?_
  refine N_put hx hb hts hin hown hK hw 0 (by decide) rfl rfl (index := 156) (by decide +kernel) (ty := .int) (by decide +kernel) rfl rfl (pI_0 cI cJ ad S _) dX12_gift_2 (fun S2 H locs eS2 hw => ?_)
  have h := of_bnd h eS2
  refine lv_iload_n hx hb dX12_gift_5 rfl (lv_at hl 1 rfl) ?_
  refine C_s (va_runS (As := [.int a1]) (rest := []) ⟨hx, hb, hml, hown, hts⟩ (cX12_isKind_ok l a1) (va_cwS 1 hts gX12_gift_X12_isKind rfl rfl rfl (by decide +kernel) ⟨Nat.le_of_ble_eq_true rfl, Nat.le_of_ble_eq_true rfl⟩) ⟨fun a U g mk q => ⟨q.1, trivial⟩, fun U hU hW => ⟨rfl, trivial⟩⟩ rfl rfl hl.1 rfl (lv_room (Nat.le_of_ble_eq_true rfl)) dX12_gift_6 ⟨Nat.le_refl _, Nat.le_refl _⟩) (fun r6 er6 => ?_)
  have h := of_bnd h er6
  refine lv_if_eq (tgt := 53) hx hb dX12_gift_9 (by decide) (fun c9 => ?_) (fun c9 => ?_)
  · have h := of_it h c9
    refine lv_aload_n hx hb dX12_gift_53 rfl (lv_at hl 0 rfl) ?_
    refine lv_iconst (v := -1) hx hb dX12_gift_54 (by decide) ?_
    obtain ⟨q55, hq55, h⟩ := of_cal h
    obtain ⟨r55, S55⟩ := q55
    have h := of_un2 h
    refine N_calli (av := [.int (-1 : Int32)]) (rest := []) ⟨hx, hb, hml, hown, hts⟩ hA hK hw (cX12_told_ok l D cI cJ ad n S2 (-1 : Int32) hq55) (cwV 1 hts gX12_gift_X12_told rfl rfl rfl (by decide +kernel) ⟨Nat.le_of_ble_eq_true rfl, Nat.le_of_ble_eq_true rfl⟩) rfl hl.1 rfl (Nat.le_of_ble_eq_true rfl) dX12_gift_55 ⟨Nat.le_refl _, Nat.le_refl _⟩ (fun H locs hw => ?_)
    obtain ⟨rfl, rfl⟩ := of_ret2 h
    exact M_iret hx hb hr hlocks hK hw.1 hw.2.1 hw.2.2 dX12_gift_58 ⟨rfl, rfl⟩
  · have h := of_if h c9
    refine lv_iload_n hx hb dX12_gift_12 rfl (lv_at hl 2 rfl) ?_
    refine lv_i2l hx hb dX12_gift_13 rfl ?_
    refine lv_lconst (v := 1) hx hb dX12_gift_14 (by decide) ?_
    refine lv_ldc2 (v := 1000000) hx hb hown (hts (.constantLong RX12 187 (1000000)) (by decide +kernel)) dX12_gift_15 ?_
    refine C_s (va_runS (As := [.long a2.toInt64, .long (1 : Int64), .long (1000000 : Int64)]) (rest := []) ⟨hx, hb, hml, hown, hts⟩ (cX12_in_ok l a2.toInt64 (1 : Int64) (1000000 : Int64)) (va_cwS 3 hts gX12_gift_X12_in rfl rfl rfl (by decide +kernel) ⟨Nat.le_of_ble_eq_true rfl, Nat.le_of_ble_eq_true rfl⟩) ⟨fun a U g mk q => ⟨q.1, trivial⟩, fun U hU hW => ⟨rfl, trivial⟩⟩ rfl rfl hl.1 rfl (lv_room (Nat.le_of_ble_eq_true rfl)) dX12_gift_18 ⟨Nat.le_refl _, Nat.le_refl _⟩) (fun r18 er18 => ?_)
    have h := of_bnd h er18
    refine lv_if_eq (tgt := 53) hx hb dX12_gift_21 (by decide) (fun c21 => ?_) (fun c21 => ?_)
    · have h := of_it h c21
      refine lv_aload_n hx hb dX12_gift_53 rfl (lv_at hl 0 rfl) ?_
      refine lv_iconst (v := -1) hx hb dX12_gift_54 (by decide) ?_
      obtain ⟨q55, hq55, h⟩ := of_cal h
      obtain ⟨r55, S55⟩ := q55
      have h := of_un2 h
      refine N_calli (av := [.int (-1 : Int32)]) (rest := []) ⟨hx, hb, hml, hown, hts⟩ hA hK hw (cX12_told_ok l D cI cJ ad n S2 (-1 : Int32) hq55) (cwV 1 hts gX12_gift_X12_told rfl rfl rfl (by decide +kernel) ⟨Nat.le_of_ble_eq_true rfl, Nat.le_of_ble_eq_true rfl⟩) rfl hl.1 rfl (Nat.le_of_ble_eq_true rfl) dX12_gift_55 ⟨Nat.le_refl _, Nat.le_refl _⟩ (fun H locs hw => ?_)
      obtain ⟨rfl, rfl⟩ := of_ret2 h
      exact M_iret hx hb hr hlocks hK hw.1 hw.2.1 hw.2.2 dX12_gift_58 ⟨rfl, rfl⟩
    · have h := of_if h c21
      refine lv_iload_n hx hb dX12_gift_24 rfl (lv_at hl 3 rfl) ?_
      refine lv_i2l hx hb dX12_gift_25 rfl ?_
      refine lv_aload_n hx hb dX12_gift_26 rfl (lv_at hl 0 rfl) ?_
      refine N_get hx hb hts hin hown hK hw 2 (by decide) rfl (index := 189) (by decide +kernel) rfl dX12_gift_27 ?_
      refine lv_topi (fun v27 ev27 => ?_)
      have h := of_bnd h ev27
      refine lv_i2l hx hb dX12_gift_30 rfl ?_
      refine lv_ldc2 (v := 1000) hx hb hown (hts (.constantLong RX12 192 (1000)) (by decide +kernel)) dX12_gift_31 ?_
      refine C_s (va_runS (As := [.long a3.toInt64, .long v27.toInt64, .long (1000 : Int64)]) (rest := []) ⟨hx, hb, hml, hown, hts⟩ (cX12_in_ok l a3.toInt64 v27.toInt64 (1000 : Int64)) (va_cwS 3 hts gX12_gift_X12_in rfl rfl rfl (by decide +kernel) ⟨Nat.le_of_ble_eq_true rfl, Nat.le_of_ble_eq_true rfl⟩) ⟨fun a U g mk q => ⟨q.1, trivial⟩, fun U hU hW => ⟨rfl, trivial⟩⟩ rfl rfl hl.1 rfl (lv_room (Nat.le_of_ble_eq_true rfl)) dX12_gift_34 ⟨Nat.le_refl _, Nat.le_refl _⟩) (fun r34 er34 => ?_)
      have h := of_bnd h er34
      refine lv_if_eq (tgt := 53) hx hb dX12_gift_37 (by decide) (fun c37 => ?_) (fun c37 => ?_)
      · have h := of_it h c37
        refine lv_aload_n hx hb dX12_gift_53 rfl (lv_at hl 0 rfl) ?_
        refine lv_iconst (v := -1) hx hb dX12_gift_54 (by decide) ?_
        obtain ⟨q55, hq55, h⟩ := of_cal h
        obtain ⟨r55, S55⟩ := q55
        have h := of_un2 h
        refine N_calli (av := [.int (-1 : Int32)]) (rest := []) ⟨hx, hb, hml, hown, hts⟩ hA hK hw (cX12_told_ok l D cI cJ ad n S2 (-1 : Int32) hq55) (cwV 1 hts gX12_gift_X12_told rfl rfl rfl (by decide +kernel) ⟨Nat.le_of_ble_eq_true rfl, Nat.le_of_ble_eq_true rfl⟩) rfl hl.1 rfl (Nat.le_of_ble_eq_true rfl) dX12_gift_55 ⟨Nat.le_refl _, Nat.le_refl _⟩ (fun H locs hw => ?_)
        obtain ⟨rfl, rfl⟩ := of_ret2 h
        exact M_iret hx hb hr hlocks hK hw.1 hw.2.1 hw.2.2 dX12_gift_58 ⟨rfl, rfl⟩
      · have h := of_if h c37
        refine lv_iload hx hb dX12_gift_40 (lv_at hl 4 rfl) ?_
        refine lv_i2l hx hb dX12_gift_42 rfl ?_
        refine lv_lconst (v := 0) hx hb dX12_gift_43 (by decide) ?_
        refine lv_ldc2 (v := 19) hx hb hown (hts (.constantLong RX12 194 (19)) (by decide +kernel)) dX12_gift_44 ?_
        refine C_s (va_runS (As := [.long a4.toInt64, .long (0 : Int64), .long (19 : Int64)]) (rest := []) ⟨hx, hb, hml, hown, hts⟩ (cX12_in_ok l a4.toInt64 (0 : Int64) (19 : Int64)) (va_cwS 3 hts gX12_gift_X12_in rfl rfl rfl (by decide +kernel) ⟨Nat.le_of_ble_eq_true rfl, Nat.le_of_ble_eq_true rfl⟩) ⟨fun a U g mk q => ⟨q.1, trivial⟩, fun U hU hW => ⟨rfl, trivial⟩⟩ rfl rfl hl.1 rfl (lv_room (Nat.le_of_ble_eq_true rfl)) dX12_gift_47 ⟨Nat.le_refl _, Nat.le_refl _⟩) (fun r47 er47 => ?_)
        have h := of_bnd h er47
        refine lv_if_ne (tgt := 59) hx hb dX12_gift_50 (by decide) (fun c50 => ?_) (fun c50 => ?_)
        · have h := of_if h c50
          refine lv_aload_n hx hb dX12_gift_59 rfl (lv_at hl 0 rfl) ?_
          refine N_get hx hb hts hin hown hK hw 4 (by decide) rfl (index := 168) (by decide +kernel) rfl dX12_gift_60 ?_
          refine lv_topi (fun v60 ev60 => ?_)
          have h := of_bnd h ev60
          refine lv_sipush (v := 200) hx hb dX12_gift_63 (by decide) ?_
          refine lv_icmp_ne (tgt := 76) hx hb dX12_gift_66 (by decide) (fun c66 => ?_) (fun c66 => ?_)
          · have h := of_if h c66
            refine lv_aload_n hx hb dX12_gift_76 rfl (lv_at hl 0 rfl) ?_
            refine N_get hx hb hts hin hown hK hw 5 (by decide) rfl (index := 13) (by decide +kernel) rfl dX12_gift_77 ?_
            refine lv_aload_n hx hb dX12_gift_80 rfl (lv_at hl 0 rfl) ?_
            refine N_get hx hb hts hin hown hK hw 4 (by decide) rfl (index := 168) (by decide +kernel) rfl dX12_gift_81 ?_
            refine lv_topi (fun v81 ev81 => ?_)
            have h := of_bnd h ev81
            refine lv_iload_n hx hb dX12_gift_84 rfl (lv_at hl 1 rfl) ?_
            obtain ⟨hi85, h⟩ := of_grd h
            refine N_iast hx hb hK hw 2 rfl hi85 (pA_5 cI cJ ad S2 _) dX12_gift_85 (fun S85 H locs eS85 hw => ?_)
            have h := of_bnd h eS85
            refine lv_aload_n hx hb dX12_gift_86 rfl (lv_at hl 0 rfl) ?_
            refine N_get hx hb hts hin hown hK hw 6 (by decide) rfl (index := 16) (by decide +kernel) rfl dX12_gift_87 ?_
            refine lv_aload_n hx hb dX12_gift_90 rfl (lv_at hl 0 rfl) ?_
            refine N_get hx hb hts hin hown hK hw 4 (by decide) rfl (index := 168) (by decide +kernel) rfl dX12_gift_91 ?_
            refine lv_topi (fun v91 ev91 => ?_)
            have h := of_bnd h ev91
            refine lv_iload_n hx hb dX12_gift_94 rfl (lv_at hl 2 rfl) ?_
            obtain ⟨hi95, h⟩ := of_grd h
            refine N_iast hx hb hK hw 3 rfl hi95 (pA_6 cI cJ ad S85 _) dX12_gift_95 (fun S95 H locs eS95 hw => ?_)
            have h := of_bnd h eS95
            refine lv_aload_n hx hb dX12_gift_96 rfl (lv_at hl 0 rfl) ?_
            refine N_get hx hb hts hin hown hK hw 7 (by decide) rfl (index := 19) (by decide +kernel) rfl dX12_gift_97 ?_
            refine lv_aload_n hx hb dX12_gift_100 rfl (lv_at hl 0 rfl) ?_
            refine N_get hx hb hts hin hown hK hw 4 (by decide) rfl (index := 168) (by decide +kernel) rfl dX12_gift_101 ?_
            refine lv_topi (fun v101 ev101 => ?_)
            have h := of_bnd h ev101
            refine lv_iload_n hx hb dX12_gift_104 rfl (lv_at hl 3 rfl) ?_
            obtain ⟨hi105, h⟩ := of_grd h
            refine N_iast hx hb hK hw 4 rfl hi105 (pA_7 cI cJ ad S95 _) dX12_gift_105 (fun S105 H locs eS105 hw => ?_)
            have h := of_bnd h eS105
            refine lv_aload_n hx hb dX12_gift_106 rfl (lv_at hl 0 rfl) ?_
            refine N_get hx hb hts hin hown hK hw 8 (by decide) rfl (index := 22) (by decide +kernel) rfl dX12_gift_107 ?_
            refine lv_aload_n hx hb dX12_gift_110 rfl (lv_at hl 0 rfl) ?_
            refine N_get hx hb hts hin hown hK hw 4 (by decide) rfl (index := 168) (by decide +kernel) rfl dX12_gift_111 ?_
            refine lv_topi (fun v111 ev111 => ?_)
            have h := of_bnd h ev111
            refine lv_iload hx hb dX12_gift_114 (lv_at hl 4 rfl) ?_
            obtain ⟨hi116, h⟩ := of_grd h
            refine N_iast hx hb hK hw 5 rfl hi116 (pA_8 cI cJ ad S105 _) dX12_gift_116 (fun S116 H locs eS116 hw => ?_)
            have h := of_bnd h eS116
            refine lv_aload_n hx hb dX12_gift_117 rfl (lv_at hl 0 rfl) ?_
            refine N_get hx hb hts hin hown hK hw 9 (by decide) rfl (index := 25) (by decide +kernel) rfl dX12_gift_118 ?_
            refine lv_aload_n hx hb dX12_gift_121 rfl (lv_at hl 0 rfl) ?_
            refine N_get hx hb hts hin hown hK hw 4 (by decide) rfl (index := 168) (by decide +kernel) rfl dX12_gift_122 ?_
            refine lv_topi (fun v122 ev122 => ?_)
            have h := of_bnd h ev122
            refine lv_iload_n hx hb dX12_gift_125 rfl (lv_at hl 2 rfl) ?_
            obtain ⟨hi126, h⟩ := of_grd h
            refine N_iast hx hb hK hw 6 rfl hi126 (pA_9 cI cJ ad S116 _) dX12_gift_126 (fun S126 H locs eS126 hw => ?_)
            have h := of_bnd h eS126
            refine lv_aload_n hx hb dX12_gift_127 rfl (lv_at hl 0 rfl) ?_
            refine lv_dup hx hb dX12_gift_128 rfl ?_
            refine N_get hx hb hts hin hown hK hw 4 (by decide) rfl (index := 168) (by decide +kernel) rfl dX12_gift_129 ?_
            refine lv_topi (fun v129 ev129 => ?_)
            have h := of_bnd h ev129
            refine lv_iconst (v := 1) hx hb dX12_gift_132 (by decide) ?_
            refine lv_iadd hx hb dX12_gift_133 ?_
            refine N_put hx hb hts hin hown hK hw 4 (by decide) rfl rfl (index := 168) (by decide +kernel) (ty := .int) (by decide +kernel) rfl rfl (pI_4 cI cJ ad S126 _) dX12_gift_134 (fun S134 H locs eS134 hw => ?_)
            have h := of_bnd h eS134
            refine lv_aload_n hx hb dX12_gift_137 rfl (lv_at hl 0 rfl) ?_
            refine lv_aload_n hx hb dX12_gift_138 rfl (lv_at hl 0 rfl) ?_
            refine N_get hx hb hts hin hown hK hw 4 (by decide) rfl (index := 168) (by decide +kernel) rfl dX12_gift_139 ?_
            refine lv_topi (fun v139 ev139 => ?_)
            have h := of_bnd h ev139
            refine lv_iconst (v := 1) hx hb dX12_gift_142 (by decide) ?_
            refine lv_isub hx hb dX12_gift_143 ?_
            obtain ⟨q144, hq144, h⟩ := of_cal h
            obtain ⟨r144, S144⟩ := q144
            have h := of_un2 h
            refine N_calli (av := [.int (v139 - (1 : Int32))]) (rest := []) ⟨hx, hb, hml, hown, hts⟩ hA hK hw (cX12_told_ok l D cI cJ ad n S134 (v139 - (1 : Int32)) hq144) (cwV 1 hts gX12_gift_X12_told rfl rfl rfl (by decide +kernel) ⟨Nat.le_of_ble_eq_true rfl, Nat.le_of_ble_eq_true rfl⟩) rfl hl.1 rfl (Nat.le_of_ble_eq_true rfl) dX12_gift_144 ⟨Nat.le_refl _, Nat.le_refl _⟩ (fun H locs hw => ?_)
            obtain ⟨rfl, rfl⟩ := of_ret2 h
            exact M_iret hx hb hr hlocks hK hw.1 hw.2.1 hw.2.2 dX12_gift_147 ⟨rfl, rfl⟩
          · have h := of_it h c66
            refine lv_aload_n hx hb dX12_gift_69 rfl (lv_at hl 0 rfl) ?_
            refine lv_bipush (v := -5) hx hb dX12_gift_70 (by decide) ?_
            obtain ⟨q72, hq72, h⟩ := of_cal h
            obtain ⟨r72, S72⟩ := q72
            have h := of_un2 h
            refine N_calli (av := [.int (-5 : Int32)]) (rest := []) ⟨hx, hb, hml, hown, hts⟩ hA hK hw (cX12_told_ok l D cI cJ ad n S2 (-5 : Int32) hq72) (cwV 1 hts gX12_gift_X12_told rfl rfl rfl (by decide +kernel) ⟨Nat.le_of_ble_eq_true rfl, Nat.le_of_ble_eq_true rfl⟩) rfl hl.1 rfl (Nat.le_of_ble_eq_true rfl) dX12_gift_72 ⟨Nat.le_refl _, Nat.le_refl _⟩ (fun H locs hw => ?_)
            obtain ⟨rfl, rfl⟩ := of_ret2 h
            exact M_iret hx hb hr hlocks hK hw.1 hw.2.1 hw.2.2 dX12_gift_75 ⟨rfl, rfl⟩
        · have h := of_it h c50
          refine lv_aload_n hx hb dX12_gift_53 rfl (lv_at hl 0 rfl) ?_
          refine lv_iconst (v := -1) hx hb dX12_gift_54 (by decide) ?_
          obtain ⟨q55, hq55, h⟩ := of_cal h
          obtain ⟨r55, S55⟩ := q55
          have h := of_un2 h
          refine N_calli (av := [.int (-1 : Int32)]) (rest := []) ⟨hx, hb, hml, hown, hts⟩ hA hK hw (cX12_told_ok l D cI cJ ad n S2 (-1 : Int32) hq55) (cwV 1 hts gX12_gift_X12_told rfl rfl rfl (by decide +kernel) ⟨Nat.le_of_ble_eq_true rfl, Nat.le_of_ble_eq_true rfl⟩) rfl hl.1 rfl (Nat.le_of_ble_eq_true rfl) dX12_gift_55 ⟨Nat.le_refl _, Nat.le_refl _⟩ (fun H locs hw => ?_)
          obtain ⟨rfl, rfl⟩ := of_ret2 h
          exact M_iret hx hb hr hlocks hK hw.1 hw.2.1 hw.2.2 dX12_gift_58 ⟨rfl, rfl⟩

def fX12_lot (n : Nat × Nat) (S : MS) (a1 : Int32) (a2 : Int32) : Option (Int32 × MS) :=
  bnd (sI S 0 (0 : Int32)) (fun S2 => cal (fX12_isLot n S2 a1) (fun q7 => if q7 = 0 then 
    some ((-1 : Int32), S2)
    else if a2 = 0 then grd (¬ (a1 < 0 ∨ 200 ≤ a1.toNatClampNeg)) (bnd (mA S2 5 a1.toNatClampNeg) (fun v69 => some (v69, S2))) else if a2 = 1 then grd (¬ (a1 < 0 ∨ 200 ≤ a1.toNatClampNeg)) (bnd (mA S2 6 a1.toNatClampNeg) (fun v76 => some (v76, S2))) else if a2 = 2 then grd (¬ (a1 < 0 ∨ 200 ≤ a1.toNatClampNeg)) (bnd (mA S2 7 a1.toNatClampNeg) (fun v83 => some (v83, S2))) else if a2 = 3 then grd (¬ (a1 < 0 ∨ 200 ≤ a1.toNatClampNeg)) (bnd (mA S2 8 a1.toNatClampNeg) (fun v90 => some (v90, S2))) else if a2 = 4 then grd (¬ (a1 < 0 ∨ 200 ≤ a1.toNatClampNeg)) (bnd (mA S2 9 a1.toNatClampNeg) (fun v97 => some (v97, S2))) else if a2 = 5 then grd (¬ (a1 < 0 ∨ 200 ≤ a1.toNatClampNeg)) (bnd (mA S2 10 a1.toNatClampNeg) (fun v104 => some (v104, S2))) else if a2 = 6 then grd (¬ (a1 < 0 ∨ 200 ≤ a1.toNatClampNeg)) (bnd (mA S2 11 a1.toNatClampNeg) (fun v111 => some (v111, S2))) else if a2 = 7 then grd (¬ (a1 < 0 ∨ 200 ≤ a1.toNatClampNeg)) (bnd (mA S2 12 a1.toNatClampNeg) (fun v118 => some (v118, S2))) else some ((-1 : Int32), S2)))
set_option maxHeartbeats 8000000 in
set_option maxRecDepth 100000 in
theorem cX12_lot_ok (l : Launch) (D : va_G) (cI cJ : ClassId) (ad : Nat → Nat) (n : Nat × Nat) (S : MS) (a1 : Int32) (a2 : Int32) {r : Int32} {T : MS} (h : fX12_lot n S a1 a2 = some (r, T)) : Mi l yX12_lot wsX12_lot (cRm 2 46 0 0) D cI cJ ad [.int a1, .int a2] S (fun r1 u => r1 = r ∧ u = T) := by
  refine Mi_of (cc := cX12_lot) (nL := 3) (ret := (some .int)) (by decide) rfl rfl (Nat.le_of_ble_eq_true rfl) ?_
  intro p e s m args below meth c A hx hb hr hlocks hml hts hown hA hK hP hD hS ls hl
  have hw : mWd D cI cJ ad A s.heap S s.heap [] := ⟨hP, hD, hS⟩
  unfold fX12_lot at h
  have hin : ∀ w ∈ wsX120, w ∈ wsX12_lot := fun w h => List.mem_cons_of_mem _ (List.mem_append_right _ h)
  have hl : lv_has ls 3 [(0, .ref (ad 0)), (1, .int a1), (2, .int a2)] := hl
  refine lv_aload_n hx hb dX12_lot_0 rfl (lv_at hl 0 rfl) ?_
  refine lv_iconst (v := 0) hx hb dX12_lot_1 (by decide) ?_
  refine N_put hx hb hts hin hown hK hw 0 (by decide) rfl rfl (index := 156) (by decide +kernel) (ty := .int) (by decide +kernel) rfl rfl (pI_0 cI cJ ad S _) dX12_lot_2 (fun S2 H locs eS2 hw => ?_)
  have h := of_bnd h eS2
  refine lv_aload_n hx hb dX12_lot_5 rfl (lv_at hl 0 rfl) ?_
  refine lv_iload_n hx hb dX12_lot_6 rfl (lv_at hl 1 rfl) ?_
  obtain ⟨q7, hq7, h⟩ := of_cal h
  refine N_calli (av := [.int a1]) (rest := []) ⟨hx, hb, hml, hown, hts⟩ hA hK hw (cX12_isLot_ok l D cI cJ ad n S2 a1 hq7) (cwV 1 hts gX12_lot_X12_isLot rfl rfl rfl (by decide +kernel) ⟨Nat.le_of_ble_eq_true rfl, Nat.le_of_ble_eq_true rfl⟩) rfl hl.1 rfl (Nat.le_of_ble_eq_true rfl) dX12_lot_7 ⟨Nat.le_refl _, Nat.le_refl _⟩ (fun H locs hw => ?_)
  refine lv_if_ne (tgt := 15) hx hb dX12_lot_10 (by decide) (fun c10 => ?_) (fun c10 => ?_)
  · have h := of_if h c10
    refine lv_iload_n hx hb dX12_lot_15 rfl (lv_at hl 2 rfl) ?_
    by_cases c16_0 : a2 = 0
    · have h := of_it h c16_0
      refine lv_tableIn (tgt := 64) hx hb dX12_lot_16 (by rw [c16_0]; decide) (by rw [c16_0]; decide) (by rw [c16_0]; rfl) (by decide) ?_
      refine lv_aload_n hx hb dX12_lot_64 rfl (lv_at hl 0 rfl) ?_
      refine N_get hx hb hts hin hown hK hw 5 (by decide) rfl (index := 13) (by decide +kernel) rfl dX12_lot_65 ?_
      refine lv_iload_n hx hb dX12_lot_68 rfl (lv_at hl 1 rfl) ?_
      obtain ⟨hi69, h⟩ := of_grd h
      refine va_iald hx hb hK hw.1 2 0 rfl rfl hi69 dX12_lot_69 ?_
      refine lv_topi (fun v69 ev69 => ?_)
      have h := of_bnd h ev69
      obtain ⟨rfl, rfl⟩ := of_ret2 h
      exact M_iret hx hb hr hlocks hK hw.1 hw.2.1 hw.2.2 dX12_lot_70 ⟨rfl, rfl⟩
    have h := of_if h c16_0
    by_cases c16_1 : a2 = 1
    · have h := of_it h c16_1
      refine lv_tableIn (tgt := 71) hx hb dX12_lot_16 (by rw [c16_1]; decide) (by rw [c16_1]; decide) (by rw [c16_1]; rfl) (by decide) ?_
      refine lv_aload_n hx hb dX12_lot_71 rfl (lv_at hl 0 rfl) ?_
      refine N_get hx hb hts hin hown hK hw 6 (by decide) rfl (index := 16) (by decide +kernel) rfl dX12_lot_72 ?_
      refine lv_iload_n hx hb dX12_lot_75 rfl (lv_at hl 1 rfl) ?_
      obtain ⟨hi76, h⟩ := of_grd h
      refine va_iald hx hb hK hw.1 3 0 rfl rfl hi76 dX12_lot_76 ?_
      refine lv_topi (fun v76 ev76 => ?_)
      have h := of_bnd h ev76
      obtain ⟨rfl, rfl⟩ := of_ret2 h
      exact M_iret hx hb hr hlocks hK hw.1 hw.2.1 hw.2.2 dX12_lot_77 ⟨rfl, rfl⟩
    have h := of_if h c16_1
    by_cases c16_2 : a2 = 2
    · have h := of_it h c16_2
      refine lv_tableIn (tgt := 78) hx hb dX12_lot_16 (by rw [c16_2]; decide) (by rw [c16_2]; decide) (by rw [c16_2]; rfl) (by decide) ?_
      refine lv_aload_n hx hb dX12_lot_78 rfl (lv_at hl 0 rfl) ?_
      refine N_get hx hb hts hin hown hK hw 7 (by decide) rfl (index := 19) (by decide +kernel) rfl dX12_lot_79 ?_
      refine lv_iload_n hx hb dX12_lot_82 rfl (lv_at hl 1 rfl) ?_
      obtain ⟨hi83, h⟩ := of_grd h
      refine va_iald hx hb hK hw.1 4 0 rfl rfl hi83 dX12_lot_83 ?_
      refine lv_topi (fun v83 ev83 => ?_)
      have h := of_bnd h ev83
      obtain ⟨rfl, rfl⟩ := of_ret2 h
      exact M_iret hx hb hr hlocks hK hw.1 hw.2.1 hw.2.2 dX12_lot_84 ⟨rfl, rfl⟩
    have h := of_if h c16_2
    by_cases c16_3 : a2 = 3
    · have h := of_it h c16_3
      refine lv_tableIn (tgt := 85) hx hb dX12_lot_16 (by rw [c16_3]; decide) (by rw [c16_3]; decide) (by rw [c16_3]; rfl) (by decide) ?_
      refine lv_aload_n hx hb dX12_lot_85 rfl (lv_at hl 0 rfl) ?_
      refine N_get hx hb hts hin hown hK hw 8 (by decide) rfl (index := 22) (by decide +kernel) rfl dX12_lot_86 ?_
      refine lv_iload_n hx hb dX12_lot_89 rfl (lv_at hl 1 rfl) ?_
      obtain ⟨hi90, h⟩ := of_grd h
      refine va_iald hx hb hK hw.1 5 0 rfl rfl hi90 dX12_lot_90 ?_
      refine lv_topi (fun v90 ev90 => ?_)
      have h := of_bnd h ev90
      obtain ⟨rfl, rfl⟩ := of_ret2 h
      exact M_iret hx hb hr hlocks hK hw.1 hw.2.1 hw.2.2 dX12_lot_91 ⟨rfl, rfl⟩
    have h := of_if h c16_3
    by_cases c16_4 : a2 = 4
    · have h := of_it h c16_4
      refine lv_tableIn (tgt := 92) hx hb dX12_lot_16 (by rw [c16_4]; decide) (by rw [c16_4]; decide) (by rw [c16_4]; rfl) (by decide) ?_
      refine lv_aload_n hx hb dX12_lot_92 rfl (lv_at hl 0 rfl) ?_
      refine N_get hx hb hts hin hown hK hw 9 (by decide) rfl (index := 25) (by decide +kernel) rfl dX12_lot_93 ?_
      refine lv_iload_n hx hb dX12_lot_96 rfl (lv_at hl 1 rfl) ?_
      obtain ⟨hi97, h⟩ := of_grd h
      refine va_iald hx hb hK hw.1 6 0 rfl rfl hi97 dX12_lot_97 ?_
      refine lv_topi (fun v97 ev97 => ?_)
      have h := of_bnd h ev97
      obtain ⟨rfl, rfl⟩ := of_ret2 h
      exact M_iret hx hb hr hlocks hK hw.1 hw.2.1 hw.2.2 dX12_lot_98 ⟨rfl, rfl⟩
    have h := of_if h c16_4
    by_cases c16_5 : a2 = 5
    · have h := of_it h c16_5
      refine lv_tableIn (tgt := 99) hx hb dX12_lot_16 (by rw [c16_5]; decide) (by rw [c16_5]; decide) (by rw [c16_5]; rfl) (by decide) ?_
      refine lv_aload_n hx hb dX12_lot_99 rfl (lv_at hl 0 rfl) ?_
      refine N_get hx hb hts hin hown hK hw 10 (by decide) rfl (index := 28) (by decide +kernel) rfl dX12_lot_100 ?_
      refine lv_iload_n hx hb dX12_lot_103 rfl (lv_at hl 1 rfl) ?_
      obtain ⟨hi104, h⟩ := of_grd h
      refine va_iald hx hb hK hw.1 7 0 rfl rfl hi104 dX12_lot_104 ?_
      refine lv_topi (fun v104 ev104 => ?_)
      have h := of_bnd h ev104
      obtain ⟨rfl, rfl⟩ := of_ret2 h
      exact M_iret hx hb hr hlocks hK hw.1 hw.2.1 hw.2.2 dX12_lot_105 ⟨rfl, rfl⟩
    have h := of_if h c16_5
    by_cases c16_6 : a2 = 6
    · have h := of_it h c16_6
      refine lv_tableIn (tgt := 106) hx hb dX12_lot_16 (by rw [c16_6]; decide) (by rw [c16_6]; decide) (by rw [c16_6]; rfl) (by decide) ?_
      refine lv_aload_n hx hb dX12_lot_106 rfl (lv_at hl 0 rfl) ?_
      refine N_get hx hb hts hin hown hK hw 11 (by decide) rfl (index := 31) (by decide +kernel) rfl dX12_lot_107 ?_
      refine lv_iload_n hx hb dX12_lot_110 rfl (lv_at hl 1 rfl) ?_
      obtain ⟨hi111, h⟩ := of_grd h
      refine va_iald hx hb hK hw.1 8 0 rfl rfl hi111 dX12_lot_111 ?_
      refine lv_topi (fun v111 ev111 => ?_)
      have h := of_bnd h ev111
      obtain ⟨rfl, rfl⟩ := of_ret2 h
      exact M_iret hx hb hr hlocks hK hw.1 hw.2.1 hw.2.2 dX12_lot_112 ⟨rfl, rfl⟩
    have h := of_if h c16_6
    by_cases c16_7 : a2 = 7
    · have h := of_it h c16_7
      refine lv_tableIn (tgt := 113) hx hb dX12_lot_16 (by rw [c16_7]; decide) (by rw [c16_7]; decide) (by rw [c16_7]; rfl) (by decide) ?_
      refine lv_aload_n hx hb dX12_lot_113 rfl (lv_at hl 0 rfl) ?_
      refine N_get hx hb hts hin hown hK hw 12 (by decide) rfl (index := 34) (by decide +kernel) rfl dX12_lot_114 ?_
      refine lv_iload_n hx hb dX12_lot_117 rfl (lv_at hl 1 rfl) ?_
      obtain ⟨hi118, h⟩ := of_grd h
      refine va_iald hx hb hK hw.1 9 0 rfl rfl hi118 dX12_lot_118 ?_
      refine lv_topi (fun v118 ev118 => ?_)
      have h := of_bnd h ev118
      obtain ⟨rfl, rfl⟩ := of_ret2 h
      exact M_iret hx hb hr hlocks hK hw.1 hw.2.1 hw.2.2 dX12_lot_119 ⟨rfl, rfl⟩
    have h := of_if h c16_7
    refine lv_tableOut (tgt := 120) hx hb dX12_lot_16 ?_ (by decide) ?_
    · refine sw_out (0) (7) a2 (by decide) (fun k h1 h2 => ?_)
      have h3 : k = 0 ∨ k = 1 ∨ k = 2 ∨ k = 3 ∨ k = 4 ∨ k = 5 ∨ k = 6 ∨ k = 7 := by omega
      rcases h3 with rfl | rfl | rfl | rfl | rfl | rfl | rfl | rfl <;> first | exact c16_0 | exact c16_1 | exact c16_2 | exact c16_3 | exact c16_4 | exact c16_5 | exact c16_6 | exact c16_7
    refine lv_iconst (v := -1) hx hb dX12_lot_120 (by decide) ?_
    obtain ⟨rfl, rfl⟩ := of_ret2 h
    exact M_iret hx hb hr hlocks hK hw.1 hw.2.1 hw.2.2 dX12_lot_121 ⟨rfl, rfl⟩
  · have h := of_it h c10
    refine lv_iconst (v := -1) hx hb dX12_lot_13 (by decide) ?_
    obtain ⟨rfl, rfl⟩ := of_ret2 h
    exact M_iret hx hb hr hlocks hK hw.1 hw.2.1 hw.2.2 dX12_lot_14 ⟨rfl, rfl⟩

def fX12_table (n : Nat × Nat) (S : MS)  : Option (Int32 × MS) :=
  bnd (sI S 0 (0 : Int32)) (fun S2 => bnd (mI S2 13) (fun v6 => if v6 = (12 : Int32) then 
    cal (fX12_told n S2 (-5 : Int32)) (un2 fun r17 S17 => some (r17, S17))
    else bnd (mI S2 13) (fun v23 => bnd (sI S2 13 (v23 + (1 : Int32))) (fun S28 => bnd (mI S28 13) (fun v33 => cal (fX12_told n S28 (v33 - (1 : Int32))) (un2 fun r38 S38 => some (r38, S38)))))))
set_option maxHeartbeats 8000000 in
set_option maxRecDepth 100000 in
theorem cX12_table_ok (l : Launch) (D : va_G) (cI cJ : ClassId) (ad : Nat → Nat) (n : Nat × Nat) (S : MS)  {r : Int32} {T : MS} (h : fX12_table n S  = some (r, T)) : Mi l yX12_table wsX12_table (cRm 1 21 0 0) D cI cJ ad [] S (fun r1 u => r1 = r ∧ u = T) := by
  refine Mi_of (cc := cX12_table) (nL := 1) (ret := (some .int)) (by decide) rfl rfl (Nat.le_of_ble_eq_true rfl) ?_
  intro p e s m args below meth c A hx hb hr hlocks hml hts hown hA hK hP hD hS ls hl
  have hw : mWd D cI cJ ad A s.heap S s.heap [] := ⟨hP, hD, hS⟩
  unfold fX12_table at h
  have hin : ∀ w ∈ wsX120, w ∈ wsX12_table := fun w h => List.mem_cons_of_mem _ (List.mem_append_right _ h)
  have hl : lv_has ls 1 [(0, .ref (ad 0))] := hl
  refine lv_aload_n hx hb dX12_table_0 rfl (lv_at hl 0 rfl) ?_
  refine lv_iconst (v := 0) hx hb dX12_table_1 (by decide) ?_
  refine N_put hx hb hts hin hown hK hw 0 (by decide) rfl rfl (index := 156) (by decide +kernel) (ty := .int) (by decide +kernel) rfl rfl (pI_0 cI cJ ad S _) dX12_table_2 (fun S2 H locs eS2 hw => ?_)
  have h := of_bnd h eS2
  refine lv_aload_n hx hb dX12_table_5 rfl (lv_at hl 0 rfl) ?_
  refine N_get hx hb hts hin hown hK hw 13 (by decide) rfl (index := 171) (by decide +kernel) rfl dX12_table_6 ?_
  refine lv_topi (fun v6 ev6 => ?_)
  have h := of_bnd h ev6
  refine lv_bipush (v := 12) hx hb dX12_table_9 (by decide) ?_
  refine lv_icmp_ne (tgt := 21) hx hb dX12_table_11 (by decide) (fun c11 => ?_) (fun c11 => ?_)
  · have h := of_if h c11
    refine lv_aload_n hx hb dX12_table_21 rfl (lv_at hl 0 rfl) ?_
    refine lv_dup hx hb dX12_table_22 rfl ?_
    refine N_get hx hb hts hin hown hK hw 13 (by decide) rfl (index := 171) (by decide +kernel) rfl dX12_table_23 ?_
    refine lv_topi (fun v23 ev23 => ?_)
    have h := of_bnd h ev23
    refine lv_iconst (v := 1) hx hb dX12_table_26 (by decide) ?_
    refine lv_iadd hx hb dX12_table_27 ?_
    refine N_put hx hb hts hin hown hK hw 13 (by decide) rfl rfl (index := 171) (by decide +kernel) (ty := .int) (by decide +kernel) rfl rfl (pI_13 cI cJ ad S2 _) dX12_table_28 (fun S28 H locs eS28 hw => ?_)
    have h := of_bnd h eS28
    refine lv_aload_n hx hb dX12_table_31 rfl (lv_at hl 0 rfl) ?_
    refine lv_aload_n hx hb dX12_table_32 rfl (lv_at hl 0 rfl) ?_
    refine N_get hx hb hts hin hown hK hw 13 (by decide) rfl (index := 171) (by decide +kernel) rfl dX12_table_33 ?_
    refine lv_topi (fun v33 ev33 => ?_)
    have h := of_bnd h ev33
    refine lv_iconst (v := 1) hx hb dX12_table_36 (by decide) ?_
    refine lv_isub hx hb dX12_table_37 ?_
    obtain ⟨q38, hq38, h⟩ := of_cal h
    obtain ⟨r38, S38⟩ := q38
    have h := of_un2 h
    refine N_calli (av := [.int (v33 - (1 : Int32))]) (rest := []) ⟨hx, hb, hml, hown, hts⟩ hA hK hw (cX12_told_ok l D cI cJ ad n S28 (v33 - (1 : Int32)) hq38) (cwV 1 hts gX12_table_X12_told rfl rfl rfl (by decide +kernel) ⟨Nat.le_of_ble_eq_true rfl, Nat.le_of_ble_eq_true rfl⟩) rfl hl.1 rfl (Nat.le_of_ble_eq_true rfl) dX12_table_38 ⟨Nat.le_refl _, Nat.le_refl _⟩ (fun H locs hw => ?_)
    obtain ⟨rfl, rfl⟩ := of_ret2 h
    exact M_iret hx hb hr hlocks hK hw.1 hw.2.1 hw.2.2 dX12_table_41 ⟨rfl, rfl⟩
  · have h := of_it h c11
    refine lv_aload_n hx hb dX12_table_14 rfl (lv_at hl 0 rfl) ?_
    refine lv_bipush (v := -5) hx hb dX12_table_15 (by decide) ?_
    obtain ⟨q17, hq17, h⟩ := of_cal h
    obtain ⟨r17, S17⟩ := q17
    have h := of_un2 h
    refine N_calli (av := [.int (-5 : Int32)]) (rest := []) ⟨hx, hb, hml, hown, hts⟩ hA hK hw (cX12_told_ok l D cI cJ ad n S2 (-5 : Int32) hq17) (cwV 1 hts gX12_table_X12_told rfl rfl rfl (by decide +kernel) ⟨Nat.le_of_ble_eq_true rfl, Nat.le_of_ble_eq_true rfl⟩) rfl hl.1 rfl (Nat.le_of_ble_eq_true rfl) dX12_table_17 ⟨Nat.le_refl _, Nat.le_refl _⟩ (fun H locs hw => ?_)
    obtain ⟨rfl, rfl⟩ := of_ret2 h
    exact M_iret hx hb hr hlocks hK hw.1 hw.2.1 hw.2.2 dX12_table_20 ⟨rfl, rfl⟩

def fX12_family (n : Nat × Nat) (S : MS) (a1 : Int32) (a2 : Int32) (a3 : Int32) : Option (Int32 × MS) :=
  bnd (sI S 0 (0 : Int32)) (fun S2 => bnd (fX12_in a2.toInt64 (1 : Int64) (12 : Int64)) (fun r11 => if r11 = 0 then 
    cal (fX12_told n S2 (-1 : Int32)) (un2 fun r31 S31 => some (r31, S31))
    else bnd (fX12_in a3.toInt64 (0 : Int64) (255 : Int64)) (fun r23 => if r23 = 0 then 
      cal (fX12_told n S2 (-1 : Int32)) (un2 fun r31 S31 => some (r31, S31))
      else cal (fX12_isTable n S2 a1) (fun q37 => if q37 = 0 then 
        cal (fX12_told n S2 (-2 : Int32)) (un2 fun r46 S46 => some (r46, S46))
        else bnd (mI S2 16) (fun v51 => if v51 = (40 : Int32) then 
          cal (fX12_told n S2 (-5 : Int32)) (un2 fun r62 S62 => some (r62, S62))
          else bnd (mI S2 16) (fun v71 => grd (¬ (v71 < 0 ∨ 40 ≤ v71.toNatClampNeg)) (bnd (sA S2 17 (upd (mA S2 17) v71.toNatClampNeg a1)) (fun S75 => bnd (mI S75 16) (fun v81 => grd (¬ (v81 < 0 ∨ 40 ≤ v81.toNatClampNeg)) (bnd (sA S75 18 (upd (mA S75 18) v81.toNatClampNeg a2)) (fun S85 => bnd (mI S85 16) (fun v91 => grd (¬ (v91 < 0 ∨ 40 ≤ v91.toNatClampNeg)) (bnd (sA S85 19 (upd (mA S85 19) v91.toNatClampNeg a3)) (fun S95 => bnd (mI S95 16) (fun v98 => bnd (sI S95 16 (v98 + (1 : Int32))) (fun S103 => bnd (mI S103 16) (fun v108 => cal (fX12_told n S103 (v108 - (1 : Int32))) (un2 fun r113 S113 => some (r113, S113)))))))))))))))))))
set_option maxHeartbeats 8000000 in
set_option maxRecDepth 100000 in
theorem cX12_family_ok (l : Launch) (D : va_G) (cI cJ : ClassId) (ad : Nat → Nat) (n : Nat × Nat) (S : MS) (a1 : Int32) (a2 : Int32) (a3 : Int32) {r : Int32} {T : MS} (h : fX12_family n S a1 a2 a3 = some (r, T)) : Mi l yX12_family wsX12_family (cRm 2 46 0 0) D cI cJ ad [.int a1, .int a2, .int a3] S (fun r1 u => r1 = r ∧ u = T) := by
  refine Mi_of (cc := cX12_family) (nL := 4) (ret := (some .int)) (by decide) rfl rfl (Nat.le_of_ble_eq_true rfl) ?_
  intro p e s m args below meth c A hx hb hr hlocks hml hts hown hA hK hP hD hS ls hl
  have hw : mWd D cI cJ ad A s.heap S s.heap [] := ⟨hP, hD, hS⟩
  unfold fX12_family at h
  have hin : ∀ w ∈ wsX120, w ∈ wsX12_family := fun w h => List.mem_cons_of_mem _ (List.mem_append_right _ h)
  have hl : lv_has ls 4 [(0, .ref (ad 0)), (1, .int a1), (2, .int a2), (3, .int a3)] := hl
  refine lv_aload_n hx hb dX12_family_0 rfl (lv_at hl 0 rfl) ?_
  refine lv_iconst (v := 0) hx hb dX12_family_1 (by decide) ?_
  refine N_put hx hb hts hin hown hK hw 0 (by decide) rfl rfl (index := 156) (by decide +kernel) (ty := .int) (by decide +kernel) rfl rfl (pI_0 cI cJ ad S _) dX12_family_2 (fun S2 H locs eS2 hw => ?_)
  have h := of_bnd h eS2
  refine lv_iload_n hx hb dX12_family_5 rfl (lv_at hl 2 rfl) ?_
  refine lv_i2l hx hb dX12_family_6 rfl ?_
  refine lv_lconst (v := 1) hx hb dX12_family_7 (by decide) ?_
  refine lv_ldc2 (v := 12) hx hb hown (hts (.constantLong RX12 199 (12)) (by decide +kernel)) dX12_family_8 ?_
  refine C_s (va_runS (As := [.long a2.toInt64, .long (1 : Int64), .long (12 : Int64)]) (rest := []) ⟨hx, hb, hml, hown, hts⟩ (cX12_in_ok l a2.toInt64 (1 : Int64) (12 : Int64)) (va_cwS 3 hts gX12_family_X12_in rfl rfl rfl (by decide +kernel) ⟨Nat.le_of_ble_eq_true rfl, Nat.le_of_ble_eq_true rfl⟩) ⟨fun a U g mk q => ⟨q.1, trivial⟩, fun U hU hW => ⟨rfl, trivial⟩⟩ rfl rfl hl.1 rfl (lv_room (Nat.le_of_ble_eq_true rfl)) dX12_family_11 ⟨Nat.le_refl _, Nat.le_refl _⟩) (fun r11 er11 => ?_)
  have h := of_bnd h er11
  refine lv_if_eq (tgt := 29) hx hb dX12_family_14 (by decide) (fun c14 => ?_) (fun c14 => ?_)
  · have h := of_it h c14
    refine lv_aload_n hx hb dX12_family_29 rfl (lv_at hl 0 rfl) ?_
    refine lv_iconst (v := -1) hx hb dX12_family_30 (by decide) ?_
    obtain ⟨q31, hq31, h⟩ := of_cal h
    obtain ⟨r31, S31⟩ := q31
    have h := of_un2 h
    refine N_calli (av := [.int (-1 : Int32)]) (rest := []) ⟨hx, hb, hml, hown, hts⟩ hA hK hw (cX12_told_ok l D cI cJ ad n S2 (-1 : Int32) hq31) (cwV 1 hts gX12_family_X12_told rfl rfl rfl (by decide +kernel) ⟨Nat.le_of_ble_eq_true rfl, Nat.le_of_ble_eq_true rfl⟩) rfl hl.1 rfl (Nat.le_of_ble_eq_true rfl) dX12_family_31 ⟨Nat.le_refl _, Nat.le_refl _⟩ (fun H locs hw => ?_)
    obtain ⟨rfl, rfl⟩ := of_ret2 h
    exact M_iret hx hb hr hlocks hK hw.1 hw.2.1 hw.2.2 dX12_family_34 ⟨rfl, rfl⟩
  · have h := of_if h c14
    refine lv_iload_n hx hb dX12_family_17 rfl (lv_at hl 3 rfl) ?_
    refine lv_i2l hx hb dX12_family_18 rfl ?_
    refine lv_lconst (v := 0) hx hb dX12_family_19 (by decide) ?_
    refine lv_ldc2 (v := 255) hx hb hown (hts (.constantLong RX12 181 (255)) (by decide +kernel)) dX12_family_20 ?_
    refine C_s (va_runS (As := [.long a3.toInt64, .long (0 : Int64), .long (255 : Int64)]) (rest := []) ⟨hx, hb, hml, hown, hts⟩ (cX12_in_ok l a3.toInt64 (0 : Int64) (255 : Int64)) (va_cwS 3 hts gX12_family_X12_in rfl rfl rfl (by decide +kernel) ⟨Nat.le_of_ble_eq_true rfl, Nat.le_of_ble_eq_true rfl⟩) ⟨fun a U g mk q => ⟨q.1, trivial⟩, fun U hU hW => ⟨rfl, trivial⟩⟩ rfl rfl hl.1 rfl (lv_room (Nat.le_of_ble_eq_true rfl)) dX12_family_23 ⟨Nat.le_refl _, Nat.le_refl _⟩) (fun r23 er23 => ?_)
    have h := of_bnd h er23
    refine lv_if_ne (tgt := 35) hx hb dX12_family_26 (by decide) (fun c26 => ?_) (fun c26 => ?_)
    · have h := of_if h c26
      refine lv_aload_n hx hb dX12_family_35 rfl (lv_at hl 0 rfl) ?_
      refine lv_iload_n hx hb dX12_family_36 rfl (lv_at hl 1 rfl) ?_
      obtain ⟨q37, hq37, h⟩ := of_cal h
      refine N_calli (av := [.int a1]) (rest := []) ⟨hx, hb, hml, hown, hts⟩ hA hK hw (cX12_isTable_ok l D cI cJ ad n S2 a1 hq37) (cwV 1 hts gX12_family_X12_isTable rfl rfl rfl (by decide +kernel) ⟨Nat.le_of_ble_eq_true rfl, Nat.le_of_ble_eq_true rfl⟩) rfl hl.1 rfl (Nat.le_of_ble_eq_true rfl) dX12_family_37 ⟨Nat.le_refl _, Nat.le_refl _⟩ (fun H locs hw => ?_)
      refine lv_if_ne (tgt := 50) hx hb dX12_family_40 (by decide) (fun c40 => ?_) (fun c40 => ?_)
      · have h := of_if h c40
        refine lv_aload_n hx hb dX12_family_50 rfl (lv_at hl 0 rfl) ?_
        refine N_get hx hb hts hin hown hK hw 16 (by decide) rfl (index := 174) (by decide +kernel) rfl dX12_family_51 ?_
        refine lv_topi (fun v51 ev51 => ?_)
        have h := of_bnd h ev51
        refine lv_bipush (v := 40) hx hb dX12_family_54 (by decide) ?_
        refine lv_icmp_ne (tgt := 66) hx hb dX12_family_56 (by decide) (fun c56 => ?_) (fun c56 => ?_)
        · have h := of_if h c56
          refine lv_aload_n hx hb dX12_family_66 rfl (lv_at hl 0 rfl) ?_
          refine N_get hx hb hts hin hown hK hw 17 (by decide) rfl (index := 44) (by decide +kernel) rfl dX12_family_67 ?_
          refine lv_aload_n hx hb dX12_family_70 rfl (lv_at hl 0 rfl) ?_
          refine N_get hx hb hts hin hown hK hw 16 (by decide) rfl (index := 174) (by decide +kernel) rfl dX12_family_71 ?_
          refine lv_topi (fun v71 ev71 => ?_)
          have h := of_bnd h ev71
          refine lv_iload_n hx hb dX12_family_74 rfl (lv_at hl 1 rfl) ?_
          obtain ⟨hi75, h⟩ := of_grd h
          refine N_iast hx hb hK hw 12 rfl hi75 (pA_17 cI cJ ad S2 _) dX12_family_75 (fun S75 H locs eS75 hw => ?_)
          have h := of_bnd h eS75
          refine lv_aload_n hx hb dX12_family_76 rfl (lv_at hl 0 rfl) ?_
          refine N_get hx hb hts hin hown hK hw 18 (by decide) rfl (index := 47) (by decide +kernel) rfl dX12_family_77 ?_
          refine lv_aload_n hx hb dX12_family_80 rfl (lv_at hl 0 rfl) ?_
          refine N_get hx hb hts hin hown hK hw 16 (by decide) rfl (index := 174) (by decide +kernel) rfl dX12_family_81 ?_
          refine lv_topi (fun v81 ev81 => ?_)
          have h := of_bnd h ev81
          refine lv_iload_n hx hb dX12_family_84 rfl (lv_at hl 2 rfl) ?_
          obtain ⟨hi85, h⟩ := of_grd h
          refine N_iast hx hb hK hw 13 rfl hi85 (pA_18 cI cJ ad S75 _) dX12_family_85 (fun S85 H locs eS85 hw => ?_)
          have h := of_bnd h eS85
          refine lv_aload_n hx hb dX12_family_86 rfl (lv_at hl 0 rfl) ?_
          refine N_get hx hb hts hin hown hK hw 19 (by decide) rfl (index := 50) (by decide +kernel) rfl dX12_family_87 ?_
          refine lv_aload_n hx hb dX12_family_90 rfl (lv_at hl 0 rfl) ?_
          refine N_get hx hb hts hin hown hK hw 16 (by decide) rfl (index := 174) (by decide +kernel) rfl dX12_family_91 ?_
          refine lv_topi (fun v91 ev91 => ?_)
          have h := of_bnd h ev91
          refine lv_iload_n hx hb dX12_family_94 rfl (lv_at hl 3 rfl) ?_
          obtain ⟨hi95, h⟩ := of_grd h
          refine N_iast hx hb hK hw 14 rfl hi95 (pA_19 cI cJ ad S85 _) dX12_family_95 (fun S95 H locs eS95 hw => ?_)
          have h := of_bnd h eS95
          refine lv_aload_n hx hb dX12_family_96 rfl (lv_at hl 0 rfl) ?_
          refine lv_dup hx hb dX12_family_97 rfl ?_
          refine N_get hx hb hts hin hown hK hw 16 (by decide) rfl (index := 174) (by decide +kernel) rfl dX12_family_98 ?_
          refine lv_topi (fun v98 ev98 => ?_)
          have h := of_bnd h ev98
          refine lv_iconst (v := 1) hx hb dX12_family_101 (by decide) ?_
          refine lv_iadd hx hb dX12_family_102 ?_
          refine N_put hx hb hts hin hown hK hw 16 (by decide) rfl rfl (index := 174) (by decide +kernel) (ty := .int) (by decide +kernel) rfl rfl (pI_16 cI cJ ad S95 _) dX12_family_103 (fun S103 H locs eS103 hw => ?_)
          have h := of_bnd h eS103
          refine lv_aload_n hx hb dX12_family_106 rfl (lv_at hl 0 rfl) ?_
          refine lv_aload_n hx hb dX12_family_107 rfl (lv_at hl 0 rfl) ?_
          refine N_get hx hb hts hin hown hK hw 16 (by decide) rfl (index := 174) (by decide +kernel) rfl dX12_family_108 ?_
          refine lv_topi (fun v108 ev108 => ?_)
          have h := of_bnd h ev108
          refine lv_iconst (v := 1) hx hb dX12_family_111 (by decide) ?_
          refine lv_isub hx hb dX12_family_112 ?_
          obtain ⟨q113, hq113, h⟩ := of_cal h
          obtain ⟨r113, S113⟩ := q113
          have h := of_un2 h
          refine N_calli (av := [.int (v108 - (1 : Int32))]) (rest := []) ⟨hx, hb, hml, hown, hts⟩ hA hK hw (cX12_told_ok l D cI cJ ad n S103 (v108 - (1 : Int32)) hq113) (cwV 1 hts gX12_family_X12_told rfl rfl rfl (by decide +kernel) ⟨Nat.le_of_ble_eq_true rfl, Nat.le_of_ble_eq_true rfl⟩) rfl hl.1 rfl (Nat.le_of_ble_eq_true rfl) dX12_family_113 ⟨Nat.le_refl _, Nat.le_refl _⟩ (fun H locs hw => ?_)
          obtain ⟨rfl, rfl⟩ := of_ret2 h
          exact M_iret hx hb hr hlocks hK hw.1 hw.2.1 hw.2.2 dX12_family_116 ⟨rfl, rfl⟩
        · have h := of_it h c56
          refine lv_aload_n hx hb dX12_family_59 rfl (lv_at hl 0 rfl) ?_
          refine lv_bipush (v := -5) hx hb dX12_family_60 (by decide) ?_
          obtain ⟨q62, hq62, h⟩ := of_cal h
          obtain ⟨r62, S62⟩ := q62
          have h := of_un2 h
          refine N_calli (av := [.int (-5 : Int32)]) (rest := []) ⟨hx, hb, hml, hown, hts⟩ hA hK hw (cX12_told_ok l D cI cJ ad n S2 (-5 : Int32) hq62) (cwV 1 hts gX12_family_X12_told rfl rfl rfl (by decide +kernel) ⟨Nat.le_of_ble_eq_true rfl, Nat.le_of_ble_eq_true rfl⟩) rfl hl.1 rfl (Nat.le_of_ble_eq_true rfl) dX12_family_62 ⟨Nat.le_refl _, Nat.le_refl _⟩ (fun H locs hw => ?_)
          obtain ⟨rfl, rfl⟩ := of_ret2 h
          exact M_iret hx hb hr hlocks hK hw.1 hw.2.1 hw.2.2 dX12_family_65 ⟨rfl, rfl⟩
      · have h := of_it h c40
        refine lv_aload_n hx hb dX12_family_43 rfl (lv_at hl 0 rfl) ?_
        refine lv_bipush (v := -2) hx hb dX12_family_44 (by decide) ?_
        obtain ⟨q46, hq46, h⟩ := of_cal h
        obtain ⟨r46, S46⟩ := q46
        have h := of_un2 h
        refine N_calli (av := [.int (-2 : Int32)]) (rest := []) ⟨hx, hb, hml, hown, hts⟩ hA hK hw (cX12_told_ok l D cI cJ ad n S2 (-2 : Int32) hq46) (cwV 1 hts gX12_family_X12_told rfl rfl rfl (by decide +kernel) ⟨Nat.le_of_ble_eq_true rfl, Nat.le_of_ble_eq_true rfl⟩) rfl hl.1 rfl (Nat.le_of_ble_eq_true rfl) dX12_family_46 ⟨Nat.le_refl _, Nat.le_refl _⟩ (fun H locs hw => ?_)
        obtain ⟨rfl, rfl⟩ := of_ret2 h
        exact M_iret hx hb hr hlocks hK hw.1 hw.2.1 hw.2.2 dX12_family_49 ⟨rfl, rfl⟩
    · have h := of_it h c26
      refine lv_aload_n hx hb dX12_family_29 rfl (lv_at hl 0 rfl) ?_
      refine lv_iconst (v := -1) hx hb dX12_family_30 (by decide) ?_
      obtain ⟨q31, hq31, h⟩ := of_cal h
      obtain ⟨r31, S31⟩ := q31
      have h := of_un2 h
      refine N_calli (av := [.int (-1 : Int32)]) (rest := []) ⟨hx, hb, hml, hown, hts⟩ hA hK hw (cX12_told_ok l D cI cJ ad n S2 (-1 : Int32) hq31) (cwV 1 hts gX12_family_X12_told rfl rfl rfl (by decide +kernel) ⟨Nat.le_of_ble_eq_true rfl, Nat.le_of_ble_eq_true rfl⟩) rfl hl.1 rfl (Nat.le_of_ble_eq_true rfl) dX12_family_31 ⟨Nat.le_refl _, Nat.le_refl _⟩ (fun H locs hw => ?_)
      obtain ⟨rfl, rfl⟩ := of_ret2 h
      exact M_iret hx hb hr hlocks hK hw.1 hw.2.1 hw.2.2 dX12_family_34 ⟨rfl, rfl⟩

def fX12_refer (n : Nat × Nat) (S : MS) (a1 : Int32) (a2 : Int32) (a3 : Int32) (a4 : Int32) : Option (Int32 × MS) :=
  bnd (sI S 0 (0 : Int32)) (fun S2 => bnd (fX12_in a2.toInt64 (0 : Int64) (1000 : Int64)) (fun r11 => if r11 = 0 then 
    cal (fX12_told n S2 (-1 : Int32)) (un2 fun r45 S45 => some (r45, S45))
    else bnd (fX12_in a3.toInt64 a2.toInt64 (1000 : Int64)) (fun r24 => if r24 = 0 then 
      cal (fX12_told n S2 (-1 : Int32)) (un2 fun r45 S45 => some (r45, S45))
      else bnd (fX12_in a4.toInt64 (1 : Int64) (20 : Int64)) (fun r37 => if r37 = 0 then 
        cal (fX12_told n S2 (-1 : Int32)) (un2 fun r45 S45 => some (r45, S45))
        else cal (fX12_isFamily n S2 a1) (fun q51 => if q51 = 0 then 
          cal (fX12_told n S2 (-2 : Int32)) (un2 fun r60 S60 => some (r60, S60))
          else bnd (mI S2 20) (fun v65 => if v65 = (100 : Int32) then 
            cal (fX12_told n S2 (-5 : Int32)) (un2 fun r76 S76 => some (r76, S76))
            else bnd (mI S2 20) (fun v85 => grd (¬ (v85 < 0 ∨ 100 ≤ v85.toNatClampNeg)) (bnd (sA S2 21 (upd (mA S2 21) v85.toNatClampNeg a1)) (fun S89 => bnd (mI S89 20) (fun v95 => grd (¬ (v95 < 0 ∨ 100 ≤ v95.toNatClampNeg)) (bnd (sA S89 22 (upd (mA S89 22) v95.toNatClampNeg a2)) (fun S99 => bnd (mI S99 20) (fun v105 => grd (¬ (v105 < 0 ∨ 100 ≤ v105.toNatClampNeg)) (bnd (sA S99 23 (upd (mA S99 23) v105.toNatClampNeg a3)) (fun S109 => bnd (mI S109 20) (fun v115 => grd (¬ (v115 < 0 ∨ 100 ≤ v115.toNatClampNeg)) (bnd (sA S109 24 (upd (mA S109 24) v115.toNatClampNeg a4)) (fun S120 => bnd (mI S120 20) (fun v123 => bnd (sI S120 20 (v123 + (1 : Int32))) (fun S128 => bnd (mI S128 20) (fun v133 => cal (fX12_told n S128 v133) (un2 fun r136 S136 => some (r136, S136)))))))))))))))))))))))
set_option maxHeartbeats 8000000 in
set_option maxRecDepth 100000 in
theorem cX12_refer_ok (l : Launch) (D : va_G) (cI cJ : ClassId) (ad : Nat → Nat) (n : Nat × Nat) (S : MS) (a1 : Int32) (a2 : Int32) (a3 : Int32) (a4 : Int32) {r : Int32} {T : MS} (h : fX12_refer n S a1 a2 a3 a4 = some (r, T)) : Mi l yX12_refer wsX12_refer (cRm 2 46 0 0) D cI cJ ad [.int a1, .int a2, .int a3, .int a4] S (fun r1 u => r1 = r ∧ u = T) := by
  refine Mi_of (cc := cX12_refer) (nL := 5) (ret := (some .int)) (by decide) rfl rfl (Nat.le_of_ble_eq_true rfl) ?_
  intro p e s m args below meth c A hx hb hr hlocks hml hts hown hA hK hP hD hS ls hl
  have hw : mWd D cI cJ ad A s.heap S s.heap [] := ⟨hP, hD, hS⟩
  unfold fX12_refer at h
  have hin : ∀ w ∈ wsX120, w ∈ wsX12_refer := fun w h => List.mem_cons_of_mem _ (List.mem_append_right _ h)
  have hl : lv_has ls 5 [(0, .ref (ad 0)), (1, .int a1), (2, .int a2), (3, .int a3), (4, .int a4)] := hl
  refine lv_aload_n hx hb dX12_refer_0 rfl (lv_at hl 0 rfl) ?_
  refine lv_iconst (v := 0) hx hb dX12_refer_1 (by decide) ?_
  refine N_put hx hb hts hin hown hK hw 0 (by decide) rfl rfl (index := 156) (by decide +kernel) (ty := .int) (by decide +kernel) rfl rfl (pI_0 cI cJ ad S _) dX12_refer_2 (fun S2 H locs eS2 hw => ?_)
  have h := of_bnd h eS2
  refine lv_iload_n hx hb dX12_refer_5 rfl (lv_at hl 2 rfl) ?_
  refine lv_i2l hx hb dX12_refer_6 rfl ?_
  refine lv_lconst (v := 0) hx hb dX12_refer_7 (by decide) ?_
  refine lv_ldc2 (v := 1000) hx hb hown (hts (.constantLong RX12 192 (1000)) (by decide +kernel)) dX12_refer_8 ?_
  refine C_s (va_runS (As := [.long a2.toInt64, .long (0 : Int64), .long (1000 : Int64)]) (rest := []) ⟨hx, hb, hml, hown, hts⟩ (cX12_in_ok l a2.toInt64 (0 : Int64) (1000 : Int64)) (va_cwS 3 hts gX12_refer_X12_in rfl rfl rfl (by decide +kernel) ⟨Nat.le_of_ble_eq_true rfl, Nat.le_of_ble_eq_true rfl⟩) ⟨fun a U g mk q => ⟨q.1, trivial⟩, fun U hU hW => ⟨rfl, trivial⟩⟩ rfl rfl hl.1 rfl (lv_room (Nat.le_of_ble_eq_true rfl)) dX12_refer_11 ⟨Nat.le_refl _, Nat.le_refl _⟩) (fun r11 er11 => ?_)
  have h := of_bnd h er11
  refine lv_if_eq (tgt := 43) hx hb dX12_refer_14 (by decide) (fun c14 => ?_) (fun c14 => ?_)
  · have h := of_it h c14
    refine lv_aload_n hx hb dX12_refer_43 rfl (lv_at hl 0 rfl) ?_
    refine lv_iconst (v := -1) hx hb dX12_refer_44 (by decide) ?_
    obtain ⟨q45, hq45, h⟩ := of_cal h
    obtain ⟨r45, S45⟩ := q45
    have h := of_un2 h
    refine N_calli (av := [.int (-1 : Int32)]) (rest := []) ⟨hx, hb, hml, hown, hts⟩ hA hK hw (cX12_told_ok l D cI cJ ad n S2 (-1 : Int32) hq45) (cwV 1 hts gX12_refer_X12_told rfl rfl rfl (by decide +kernel) ⟨Nat.le_of_ble_eq_true rfl, Nat.le_of_ble_eq_true rfl⟩) rfl hl.1 rfl (Nat.le_of_ble_eq_true rfl) dX12_refer_45 ⟨Nat.le_refl _, Nat.le_refl _⟩ (fun H locs hw => ?_)
    obtain ⟨rfl, rfl⟩ := of_ret2 h
    exact M_iret hx hb hr hlocks hK hw.1 hw.2.1 hw.2.2 dX12_refer_48 ⟨rfl, rfl⟩
  · have h := of_if h c14
    refine lv_iload_n hx hb dX12_refer_17 rfl (lv_at hl 3 rfl) ?_
    refine lv_i2l hx hb dX12_refer_18 rfl ?_
    refine lv_iload_n hx hb dX12_refer_19 rfl (lv_at hl 2 rfl) ?_
    refine lv_i2l hx hb dX12_refer_20 rfl ?_
    refine lv_ldc2 (v := 1000) hx hb hown (hts (.constantLong RX12 192 (1000)) (by decide +kernel)) dX12_refer_21 ?_
    refine C_s (va_runS (As := [.long a3.toInt64, .long a2.toInt64, .long (1000 : Int64)]) (rest := []) ⟨hx, hb, hml, hown, hts⟩ (cX12_in_ok l a3.toInt64 a2.toInt64 (1000 : Int64)) (va_cwS 3 hts gX12_refer_X12_in rfl rfl rfl (by decide +kernel) ⟨Nat.le_of_ble_eq_true rfl, Nat.le_of_ble_eq_true rfl⟩) ⟨fun a U g mk q => ⟨q.1, trivial⟩, fun U hU hW => ⟨rfl, trivial⟩⟩ rfl rfl hl.1 rfl (lv_room (Nat.le_of_ble_eq_true rfl)) dX12_refer_24 ⟨Nat.le_refl _, Nat.le_refl _⟩) (fun r24 er24 => ?_)
    have h := of_bnd h er24
    refine lv_if_eq (tgt := 43) hx hb dX12_refer_27 (by decide) (fun c27 => ?_) (fun c27 => ?_)
    · have h := of_it h c27
      refine lv_aload_n hx hb dX12_refer_43 rfl (lv_at hl 0 rfl) ?_
      refine lv_iconst (v := -1) hx hb dX12_refer_44 (by decide) ?_
      obtain ⟨q45, hq45, h⟩ := of_cal h
      obtain ⟨r45, S45⟩ := q45
      have h := of_un2 h
      refine N_calli (av := [.int (-1 : Int32)]) (rest := []) ⟨hx, hb, hml, hown, hts⟩ hA hK hw (cX12_told_ok l D cI cJ ad n S2 (-1 : Int32) hq45) (cwV 1 hts gX12_refer_X12_told rfl rfl rfl (by decide +kernel) ⟨Nat.le_of_ble_eq_true rfl, Nat.le_of_ble_eq_true rfl⟩) rfl hl.1 rfl (Nat.le_of_ble_eq_true rfl) dX12_refer_45 ⟨Nat.le_refl _, Nat.le_refl _⟩ (fun H locs hw => ?_)
      obtain ⟨rfl, rfl⟩ := of_ret2 h
      exact M_iret hx hb hr hlocks hK hw.1 hw.2.1 hw.2.2 dX12_refer_48 ⟨rfl, rfl⟩
    · have h := of_if h c27
      refine lv_iload hx hb dX12_refer_30 (lv_at hl 4 rfl) ?_
      refine lv_i2l hx hb dX12_refer_32 rfl ?_
      refine lv_lconst (v := 1) hx hb dX12_refer_33 (by decide) ?_
      refine lv_ldc2 (v := 20) hx hb hown (hts (.constantLong RX12 204 (20)) (by decide +kernel)) dX12_refer_34 ?_
      refine C_s (va_runS (As := [.long a4.toInt64, .long (1 : Int64), .long (20 : Int64)]) (rest := []) ⟨hx, hb, hml, hown, hts⟩ (cX12_in_ok l a4.toInt64 (1 : Int64) (20 : Int64)) (va_cwS 3 hts gX12_refer_X12_in rfl rfl rfl (by decide +kernel) ⟨Nat.le_of_ble_eq_true rfl, Nat.le_of_ble_eq_true rfl⟩) ⟨fun a U g mk q => ⟨q.1, trivial⟩, fun U hU hW => ⟨rfl, trivial⟩⟩ rfl rfl hl.1 rfl (lv_room (Nat.le_of_ble_eq_true rfl)) dX12_refer_37 ⟨Nat.le_refl _, Nat.le_refl _⟩) (fun r37 er37 => ?_)
      have h := of_bnd h er37
      refine lv_if_ne (tgt := 49) hx hb dX12_refer_40 (by decide) (fun c40 => ?_) (fun c40 => ?_)
      · have h := of_if h c40
        refine lv_aload_n hx hb dX12_refer_49 rfl (lv_at hl 0 rfl) ?_
        refine lv_iload_n hx hb dX12_refer_50 rfl (lv_at hl 1 rfl) ?_
        obtain ⟨q51, hq51, h⟩ := of_cal h
        refine N_calli (av := [.int a1]) (rest := []) ⟨hx, hb, hml, hown, hts⟩ hA hK hw (cX12_isFamily_ok l D cI cJ ad n S2 a1 hq51) (cwV 1 hts gX12_refer_X12_isFamily rfl rfl rfl (by decide +kernel) ⟨Nat.le_of_ble_eq_true rfl, Nat.le_of_ble_eq_true rfl⟩) rfl hl.1 rfl (Nat.le_of_ble_eq_true rfl) dX12_refer_51 ⟨Nat.le_refl _, Nat.le_refl _⟩ (fun H locs hw => ?_)
        refine lv_if_ne (tgt := 64) hx hb dX12_refer_54 (by decide) (fun c54 => ?_) (fun c54 => ?_)
        · have h := of_if h c54
          refine lv_aload_n hx hb dX12_refer_64 rfl (lv_at hl 0 rfl) ?_
          refine N_get hx hb hts hin hown hK hw 20 (by decide) rfl (index := 209) (by decide +kernel) rfl dX12_refer_65 ?_
          refine lv_topi (fun v65 ev65 => ?_)
          have h := of_bnd h ev65
          refine lv_bipush (v := 100) hx hb dX12_refer_68 (by decide) ?_
          refine lv_icmp_ne (tgt := 80) hx hb dX12_refer_70 (by decide) (fun c70 => ?_) (fun c70 => ?_)
          · have h := of_if h c70
            refine lv_aload_n hx hb dX12_refer_80 rfl (lv_at hl 0 rfl) ?_
            refine N_get hx hb hts hin hown hK hw 21 (by decide) rfl (index := 53) (by decide +kernel) rfl dX12_refer_81 ?_
            refine lv_aload_n hx hb dX12_refer_84 rfl (lv_at hl 0 rfl) ?_
            refine N_get hx hb hts hin hown hK hw 20 (by decide) rfl (index := 209) (by decide +kernel) rfl dX12_refer_85 ?_
            refine lv_topi (fun v85 ev85 => ?_)
            have h := of_bnd h ev85
            refine lv_iload_n hx hb dX12_refer_88 rfl (lv_at hl 1 rfl) ?_
            obtain ⟨hi89, h⟩ := of_grd h
            refine N_iast hx hb hK hw 15 rfl hi89 (pA_21 cI cJ ad S2 _) dX12_refer_89 (fun S89 H locs eS89 hw => ?_)
            have h := of_bnd h eS89
            refine lv_aload_n hx hb dX12_refer_90 rfl (lv_at hl 0 rfl) ?_
            refine N_get hx hb hts hin hown hK hw 22 (by decide) rfl (index := 56) (by decide +kernel) rfl dX12_refer_91 ?_
            refine lv_aload_n hx hb dX12_refer_94 rfl (lv_at hl 0 rfl) ?_
            refine N_get hx hb hts hin hown hK hw 20 (by decide) rfl (index := 209) (by decide +kernel) rfl dX12_refer_95 ?_
            refine lv_topi (fun v95 ev95 => ?_)
            have h := of_bnd h ev95
            refine lv_iload_n hx hb dX12_refer_98 rfl (lv_at hl 2 rfl) ?_
            obtain ⟨hi99, h⟩ := of_grd h
            refine N_iast hx hb hK hw 16 rfl hi99 (pA_22 cI cJ ad S89 _) dX12_refer_99 (fun S99 H locs eS99 hw => ?_)
            have h := of_bnd h eS99
            refine lv_aload_n hx hb dX12_refer_100 rfl (lv_at hl 0 rfl) ?_
            refine N_get hx hb hts hin hown hK hw 23 (by decide) rfl (index := 59) (by decide +kernel) rfl dX12_refer_101 ?_
            refine lv_aload_n hx hb dX12_refer_104 rfl (lv_at hl 0 rfl) ?_
            refine N_get hx hb hts hin hown hK hw 20 (by decide) rfl (index := 209) (by decide +kernel) rfl dX12_refer_105 ?_
            refine lv_topi (fun v105 ev105 => ?_)
            have h := of_bnd h ev105
            refine lv_iload_n hx hb dX12_refer_108 rfl (lv_at hl 3 rfl) ?_
            obtain ⟨hi109, h⟩ := of_grd h
            refine N_iast hx hb hK hw 17 rfl hi109 (pA_23 cI cJ ad S99 _) dX12_refer_109 (fun S109 H locs eS109 hw => ?_)
            have h := of_bnd h eS109
            refine lv_aload_n hx hb dX12_refer_110 rfl (lv_at hl 0 rfl) ?_
            refine N_get hx hb hts hin hown hK hw 24 (by decide) rfl (index := 62) (by decide +kernel) rfl dX12_refer_111 ?_
            refine lv_aload_n hx hb dX12_refer_114 rfl (lv_at hl 0 rfl) ?_
            refine N_get hx hb hts hin hown hK hw 20 (by decide) rfl (index := 209) (by decide +kernel) rfl dX12_refer_115 ?_
            refine lv_topi (fun v115 ev115 => ?_)
            have h := of_bnd h ev115
            refine lv_iload hx hb dX12_refer_118 (lv_at hl 4 rfl) ?_
            obtain ⟨hi120, h⟩ := of_grd h
            refine N_iast hx hb hK hw 18 rfl hi120 (pA_24 cI cJ ad S109 _) dX12_refer_120 (fun S120 H locs eS120 hw => ?_)
            have h := of_bnd h eS120
            refine lv_aload_n hx hb dX12_refer_121 rfl (lv_at hl 0 rfl) ?_
            refine lv_dup hx hb dX12_refer_122 rfl ?_
            refine N_get hx hb hts hin hown hK hw 20 (by decide) rfl (index := 209) (by decide +kernel) rfl dX12_refer_123 ?_
            refine lv_topi (fun v123 ev123 => ?_)
            have h := of_bnd h ev123
            refine lv_iconst (v := 1) hx hb dX12_refer_126 (by decide) ?_
            refine lv_iadd hx hb dX12_refer_127 ?_
            refine N_put hx hb hts hin hown hK hw 20 (by decide) rfl rfl (index := 209) (by decide +kernel) (ty := .int) (by decide +kernel) rfl rfl (pI_20 cI cJ ad S120 _) dX12_refer_128 (fun S128 H locs eS128 hw => ?_)
            have h := of_bnd h eS128
            refine lv_aload_n hx hb dX12_refer_131 rfl (lv_at hl 0 rfl) ?_
            refine lv_aload_n hx hb dX12_refer_132 rfl (lv_at hl 0 rfl) ?_
            refine N_get hx hb hts hin hown hK hw 20 (by decide) rfl (index := 209) (by decide +kernel) rfl dX12_refer_133 ?_
            refine lv_topi (fun v133 ev133 => ?_)
            have h := of_bnd h ev133
            obtain ⟨q136, hq136, h⟩ := of_cal h
            obtain ⟨r136, S136⟩ := q136
            have h := of_un2 h
            refine N_calli (av := [.int v133]) (rest := []) ⟨hx, hb, hml, hown, hts⟩ hA hK hw (cX12_told_ok l D cI cJ ad n S128 v133 hq136) (cwV 1 hts gX12_refer_X12_told rfl rfl rfl (by decide +kernel) ⟨Nat.le_of_ble_eq_true rfl, Nat.le_of_ble_eq_true rfl⟩) rfl hl.1 rfl (Nat.le_of_ble_eq_true rfl) dX12_refer_136 ⟨Nat.le_refl _, Nat.le_refl _⟩ (fun H locs hw => ?_)
            obtain ⟨rfl, rfl⟩ := of_ret2 h
            exact M_iret hx hb hr hlocks hK hw.1 hw.2.1 hw.2.2 dX12_refer_139 ⟨rfl, rfl⟩
          · have h := of_it h c70
            refine lv_aload_n hx hb dX12_refer_73 rfl (lv_at hl 0 rfl) ?_
            refine lv_bipush (v := -5) hx hb dX12_refer_74 (by decide) ?_
            obtain ⟨q76, hq76, h⟩ := of_cal h
            obtain ⟨r76, S76⟩ := q76
            have h := of_un2 h
            refine N_calli (av := [.int (-5 : Int32)]) (rest := []) ⟨hx, hb, hml, hown, hts⟩ hA hK hw (cX12_told_ok l D cI cJ ad n S2 (-5 : Int32) hq76) (cwV 1 hts gX12_refer_X12_told rfl rfl rfl (by decide +kernel) ⟨Nat.le_of_ble_eq_true rfl, Nat.le_of_ble_eq_true rfl⟩) rfl hl.1 rfl (Nat.le_of_ble_eq_true rfl) dX12_refer_76 ⟨Nat.le_refl _, Nat.le_refl _⟩ (fun H locs hw => ?_)
            obtain ⟨rfl, rfl⟩ := of_ret2 h
            exact M_iret hx hb hr hlocks hK hw.1 hw.2.1 hw.2.2 dX12_refer_79 ⟨rfl, rfl⟩
        · have h := of_it h c54
          refine lv_aload_n hx hb dX12_refer_57 rfl (lv_at hl 0 rfl) ?_
          refine lv_bipush (v := -2) hx hb dX12_refer_58 (by decide) ?_
          obtain ⟨q60, hq60, h⟩ := of_cal h
          obtain ⟨r60, S60⟩ := q60
          have h := of_un2 h
          refine N_calli (av := [.int (-2 : Int32)]) (rest := []) ⟨hx, hb, hml, hown, hts⟩ hA hK hw (cX12_told_ok l D cI cJ ad n S2 (-2 : Int32) hq60) (cwV 1 hts gX12_refer_X12_told rfl rfl rfl (by decide +kernel) ⟨Nat.le_of_ble_eq_true rfl, Nat.le_of_ble_eq_true rfl⟩) rfl hl.1 rfl (Nat.le_of_ble_eq_true rfl) dX12_refer_60 ⟨Nat.le_refl _, Nat.le_refl _⟩ (fun H locs hw => ?_)
          obtain ⟨rfl, rfl⟩ := of_ret2 h
          exact M_iret hx hb hr hlocks hK hw.1 hw.2.1 hw.2.2 dX12_refer_63 ⟨rfl, rfl⟩
      · have h := of_it h c40
        refine lv_aload_n hx hb dX12_refer_43 rfl (lv_at hl 0 rfl) ?_
        refine lv_iconst (v := -1) hx hb dX12_refer_44 (by decide) ?_
        obtain ⟨q45, hq45, h⟩ := of_cal h
        obtain ⟨r45, S45⟩ := q45
        have h := of_un2 h
        refine N_calli (av := [.int (-1 : Int32)]) (rest := []) ⟨hx, hb, hml, hown, hts⟩ hA hK hw (cX12_told_ok l D cI cJ ad n S2 (-1 : Int32) hq45) (cwV 1 hts gX12_refer_X12_told rfl rfl rfl (by decide +kernel) ⟨Nat.le_of_ble_eq_true rfl, Nat.le_of_ble_eq_true rfl⟩) rfl hl.1 rfl (Nat.le_of_ble_eq_true rfl) dX12_refer_45 ⟨Nat.le_refl _, Nat.le_refl _⟩ (fun H locs hw => ?_)
        obtain ⟨rfl, rfl⟩ := of_ret2 h
        exact M_iret hx hb hr hlocks hK hw.1 hw.2.1 hw.2.2 dX12_refer_48 ⟨rfl, rfl⟩

def fX12_lets (n : Nat × Nat) (S : MS) (a1 : Int32) (a2 : Int32) (a3 : Int32) : Option Int32 :=
  grd (¬ (a1 < 0 ∨ 100 ≤ a1.toNatClampNeg)) (bnd (mA S 21 a1.toNatClampNeg) (fun v5 => if v5 = a2 then 
    grd (¬ (a1 < 0 ∨ 100 ≤ a1.toNatClampNeg)) (bnd (mA S 22 a1.toNatClampNeg) (fun v17 => grd (¬ (a1 < 0 ∨ 100 ≤ a1.toNatClampNeg)) (bnd (mA S 23 a1.toNatClampNeg) (fun v24 => bnd (fX12_in a3.toInt64 v17.toInt64 v24.toInt64) (fun r26 => if r26 = 0 then 
      some (0 : Int32)
      else grd (¬ (a1 < 0 ∨ 100 ≤ a1.toNatClampNeg)) (bnd (mA S 24 a1.toNatClampNeg) (fun v37 => if v37 ≤ 0 then 
        some (0 : Int32)
        else some (1 : Int32))))))))
    else some (0 : Int32)))
set_option maxHeartbeats 8000000 in
set_option maxRecDepth 100000 in
theorem cX12_lets_ok (l : Launch) (D : va_G) (cI cJ : ClassId) (ad : Nat → Nat) (n : Nat × Nat) (S : MS) (a1 : Int32) (a2 : Int32) (a3 : Int32) {r : Int32} (h : fX12_lets n S a1 a2 a3 = some r) : Mi l yX12_lets wsX12_lets (cRm 1 25 0 0) D cI cJ ad [.int a1, .int a2, .int a3] S (fun r1 u => r1 = r ∧ u = S) := by
  refine Mi_of (cc := cX12_lets) (nL := 4) (ret := (some .boolean)) (by decide) rfl rfl (Nat.le_of_ble_eq_true rfl) ?_
  intro p e s m args below meth c A hx hb hr hlocks hml hts hown hA hK hP hD hS ls hl
  have hw : mWd D cI cJ ad A s.heap S s.heap [] := ⟨hP, hD, hS⟩
  unfold fX12_lets at h
  have hin : ∀ w ∈ wsX120, w ∈ wsX12_lets := fun w h => List.mem_cons_of_mem _ (List.mem_append_right _ h)
  have hl : lv_has ls 4 [(0, .ref (ad 0)), (1, .int a1), (2, .int a2), (3, .int a3)] := hl
  refine lv_aload_n hx hb dX12_lets_0 rfl (lv_at hl 0 rfl) ?_
  refine N_get hx hb hts hin hown hK hw 21 (by decide) rfl (index := 53) (by decide +kernel) rfl dX12_lets_1 ?_
  refine lv_iload_n hx hb dX12_lets_4 rfl (lv_at hl 1 rfl) ?_
  obtain ⟨hi5, h⟩ := of_grd h
  refine va_iald hx hb hK hw.1 15 0 rfl rfl hi5 dX12_lets_5 ?_
  refine lv_topi (fun v5 ev5 => ?_)
  have h := of_bnd h ev5
  refine lv_iload_n hx hb dX12_lets_6 rfl (lv_at hl 2 rfl) ?_
  refine lv_icmp_ne (tgt := 45) hx hb dX12_lets_7 (by decide) (fun c7 => ?_) (fun c7 => ?_)
  · have h := of_if h c7
    refine lv_iconst (v := 0) hx hb dX12_lets_45 (by decide) ?_
    obtain rfl := Option.some.inj h
    exact M_zret hx hb hr hlocks hK hw.1 hw.2.1 hw.2.2 dX12_lets_46 (by first | rfl | decide) ⟨rfl, rfl⟩
  · have h := of_it h c7
    refine lv_iload_n hx hb dX12_lets_10 rfl (lv_at hl 3 rfl) ?_
    refine lv_i2l hx hb dX12_lets_11 rfl ?_
    refine lv_aload_n hx hb dX12_lets_12 rfl (lv_at hl 0 rfl) ?_
    refine N_get hx hb hts hin hown hK hw 22 (by decide) rfl (index := 56) (by decide +kernel) rfl dX12_lets_13 ?_
    refine lv_iload_n hx hb dX12_lets_16 rfl (lv_at hl 1 rfl) ?_
    obtain ⟨hi17, h⟩ := of_grd h
    refine va_iald hx hb hK hw.1 16 0 rfl rfl hi17 dX12_lets_17 ?_
    refine lv_topi (fun v17 ev17 => ?_)
    have h := of_bnd h ev17
    refine lv_i2l hx hb dX12_lets_18 rfl ?_
    refine lv_aload_n hx hb dX12_lets_19 rfl (lv_at hl 0 rfl) ?_
    refine N_get hx hb hts hin hown hK hw 23 (by decide) rfl (index := 59) (by decide +kernel) rfl dX12_lets_20 ?_
    refine lv_iload_n hx hb dX12_lets_23 rfl (lv_at hl 1 rfl) ?_
    obtain ⟨hi24, h⟩ := of_grd h
    refine va_iald hx hb hK hw.1 17 0 rfl rfl hi24 dX12_lets_24 ?_
    refine lv_topi (fun v24 ev24 => ?_)
    have h := of_bnd h ev24
    refine lv_i2l hx hb dX12_lets_25 rfl ?_
    refine C_s (va_runS (As := [.long a3.toInt64, .long v17.toInt64, .long v24.toInt64]) (rest := []) ⟨hx, hb, hml, hown, hts⟩ (cX12_in_ok l a3.toInt64 v17.toInt64 v24.toInt64) (va_cwS 3 hts gX12_lets_X12_in rfl rfl rfl (by decide +kernel) ⟨Nat.le_of_ble_eq_true rfl, Nat.le_of_ble_eq_true rfl⟩) ⟨fun a U g mk q => ⟨q.1, trivial⟩, fun U hU hW => ⟨rfl, trivial⟩⟩ rfl rfl hl.1 rfl (lv_room (Nat.le_of_ble_eq_true rfl)) dX12_lets_26 ⟨Nat.le_refl _, Nat.le_refl _⟩) (fun r26 er26 => ?_)
    have h := of_bnd h er26
    refine lv_if_eq (tgt := 45) hx hb dX12_lets_29 (by decide) (fun c29 => ?_) (fun c29 => ?_)
    · have h := of_it h c29
      refine lv_iconst (v := 0) hx hb dX12_lets_45 (by decide) ?_
      obtain rfl := Option.some.inj h
      exact M_zret hx hb hr hlocks hK hw.1 hw.2.1 hw.2.2 dX12_lets_46 (by first | rfl | decide) ⟨rfl, rfl⟩
    · have h := of_if h c29
      refine lv_aload_n hx hb dX12_lets_32 rfl (lv_at hl 0 rfl) ?_
      refine N_get hx hb hts hin hown hK hw 24 (by decide) rfl (index := 62) (by decide +kernel) rfl dX12_lets_33 ?_
      refine lv_iload_n hx hb dX12_lets_36 rfl (lv_at hl 1 rfl) ?_
      obtain ⟨hi37, h⟩ := of_grd h
      refine va_iald hx hb hK hw.1 18 0 rfl rfl hi37 dX12_lets_37 ?_
      refine lv_topi (fun v37 ev37 => ?_)
      have h := of_bnd h ev37
      refine lv_if_le (tgt := 45) hx hb dX12_lets_38 (by decide) (fun c38 => ?_) (fun c38 => ?_)
      · have h := of_it h c38
        refine lv_iconst (v := 0) hx hb dX12_lets_45 (by decide) ?_
        obtain rfl := Option.some.inj h
        exact M_zret hx hb hr hlocks hK hw.1 hw.2.1 hw.2.2 dX12_lets_46 (by first | rfl | decide) ⟨rfl, rfl⟩
      · have h := of_if h c38
        refine lv_iconst (v := 1) hx hb dX12_lets_41 (by decide) ?_
        refine lv_goto (tgt := 46) hx hb dX12_lets_42 (by decide) ?_
        obtain rfl := Option.some.inj h
        exact M_zret hx hb hr hlocks hK hw.1 hw.2.1 hw.2.2 dX12_lets_46 (by first | rfl | decide) ⟨rfl, rfl⟩

def fX12_allowed_lp32 (n : Nat × Nat) (S : MS) (f1 : Int32) (f2 : Int32) : Nat → Int32 → Int32 → Option (Int32)
  | 0, _, _ => none
  | k + 1, l3, l4 =>
    bnd (mI S 20) (fun v35 => if v35 ≤ l4 then 
            some l3
            else cal (fX12_lets n S l4 f1 f2) (fun q47 => if q47 = 0 then 
              bnd (l3 + (0 : Int32)) (fun x65 => bnd (l4 + 1) (fun x66 => fX12_allowed_lp32 n S f1 f2 k x65 x66 ))
              else grd (¬ (l4 < 0 ∨ 100 ≤ l4.toNatClampNeg)) (bnd (mA S 24 l4.toNatClampNeg) (fun v59 => bnd (l3 + v59) (fun x65 => bnd (l4 + 1) (fun x66 => fX12_allowed_lp32 n S f1 f2 k x65 x66 ))))))
def fX12_allowed (n : Nat × Nat) (S : MS) (a1 : Int32) (a2 : Int32) : Option (Int32 × MS) :=
  bnd (sI S 0 (0 : Int32)) (fun S2 => cal (fX12_isFamily n S2 a1) (fun q7 => if q7 = 0 then 
    some ((-1 : Int32), S2)
    else bnd (fX12_in a2.toInt64 (0 : Int64) (1000 : Int64)) (fun r19 => if r19 = 0 then 
      some ((-1 : Int32), S2)
      else bnd (0 : Int32) (fun x28 => bnd (0 : Int32) (fun x30 => cal (fX12_allowed_lp32 n S2 a1 a2 n.1 x28 x30 ) (fun t3_32 => some (t3_32, S2)))))))
set_option maxHeartbeats 8000000 in
set_option maxRecDepth 100000 in
theorem cX12_allowed_ok (l : Launch) (D : va_G) (cI cJ : ClassId) (ad : Nat → Nat) (n : Nat × Nat) (S : MS) (a1 : Int32) (a2 : Int32) {r : Int32} {T : MS} (h : fX12_allowed n S a1 a2 = some (r, T)) : Mi l yX12_allowed wsX12_allowed (cRm 2 48 0 0) D cI cJ ad [.int a1, .int a2] S (fun r1 u => r1 = r ∧ u = T) := by
  refine Mi_of (cc := cX12_allowed) (nL := 5) (ret := (some .int)) (by decide) rfl rfl (Nat.le_of_ble_eq_true rfl) ?_
  intro p e s m args below meth c A hx hb hr hlocks hml hts hown hA hK hP hD hS ls hl
  have hw : mWd D cI cJ ad A s.heap S s.heap [] := ⟨hP, hD, hS⟩
  unfold fX12_allowed at h
  have hin : ∀ w ∈ wsX120, w ∈ wsX12_allowed := fun w h => List.mem_cons_of_mem _ (List.mem_append_right _ h)
  have hl : lv_has ls 5 [(0, .ref (ad 0)), (1, .int a1), (2, .int a2)] := hl
  refine lv_aload_n hx hb dX12_allowed_0 rfl (lv_at hl 0 rfl) ?_
  refine lv_iconst (v := 0) hx hb dX12_allowed_1 (by decide) ?_
  refine N_put hx hb hts hin hown hK hw 0 (by decide) rfl rfl (index := 156) (by decide +kernel) (ty := .int) (by decide +kernel) rfl rfl (pI_0 cI cJ ad S _) dX12_allowed_2 (fun S2 H locs eS2 hw => ?_)
  have h := of_bnd h eS2
  refine lv_aload_n hx hb dX12_allowed_5 rfl (lv_at hl 0 rfl) ?_
  refine lv_iload_n hx hb dX12_allowed_6 rfl (lv_at hl 1 rfl) ?_
  obtain ⟨q7, hq7, h⟩ := of_cal h
  refine N_calli (av := [.int a1]) (rest := []) ⟨hx, hb, hml, hown, hts⟩ hA hK hw (cX12_isFamily_ok l D cI cJ ad n S2 a1 hq7) (cwV 1 hts gX12_allowed_X12_isFamily rfl rfl rfl (by decide +kernel) ⟨Nat.le_of_ble_eq_true rfl, Nat.le_of_ble_eq_true rfl⟩) rfl hl.1 rfl (Nat.le_of_ble_eq_true rfl) dX12_allowed_7 ⟨Nat.le_refl _, Nat.le_refl _⟩ (fun H locs hw => ?_)
  refine lv_if_eq (tgt := 25) hx hb dX12_allowed_10 (by decide) (fun c10 => ?_) (fun c10 => ?_)
  · have h := of_it h c10
    refine lv_iconst (v := -1) hx hb dX12_allowed_25 (by decide) ?_
    obtain ⟨rfl, rfl⟩ := of_ret2 h
    exact M_iret hx hb hr hlocks hK hw.1 hw.2.1 hw.2.2 dX12_allowed_26 ⟨rfl, rfl⟩
  · have h := of_if h c10
    refine lv_iload_n hx hb dX12_allowed_13 rfl (lv_at hl 2 rfl) ?_
    refine lv_i2l hx hb dX12_allowed_14 rfl ?_
    refine lv_lconst (v := 0) hx hb dX12_allowed_15 (by decide) ?_
    refine lv_ldc2 (v := 1000) hx hb hown (hts (.constantLong RX12 192 (1000)) (by decide +kernel)) dX12_allowed_16 ?_
    refine C_s (va_runS (As := [.long a2.toInt64, .long (0 : Int64), .long (1000 : Int64)]) (rest := []) ⟨hx, hb, hml, hown, hts⟩ (cX12_in_ok l a2.toInt64 (0 : Int64) (1000 : Int64)) (va_cwS 3 hts gX12_allowed_X12_in rfl rfl rfl (by decide +kernel) ⟨Nat.le_of_ble_eq_true rfl, Nat.le_of_ble_eq_true rfl⟩) ⟨fun a U g mk q => ⟨q.1, trivial⟩, fun U hU hW => ⟨rfl, trivial⟩⟩ rfl rfl hl.1 rfl (lv_room (Nat.le_of_ble_eq_true rfl)) dX12_allowed_19 ⟨Nat.le_refl _, Nat.le_refl _⟩) (fun r19 er19 => ?_)
    have h := of_bnd h er19
    refine lv_if_ne (tgt := 27) hx hb dX12_allowed_22 (by decide) (fun c22 => ?_) (fun c22 => ?_)
    · have h := of_if h c22
      refine lv_iconst (v := 0) hx hb dX12_allowed_27 (by decide) ?_
      refine lv_topi (fun x28 ex28 => ?_)
      have h := of_bnd h ex28
      refine lv_istore_n (lv' := [(3, .int x28), (0, .ref (ad 0)), (1, .int a1), (2, .int a2)]) hx hb dX12_allowed_28 rfl hl (by decide) rfl (fun ls hl => ?_)
      refine lv_iconst (v := 0) hx hb dX12_allowed_29 (by decide) ?_
      refine lv_topi (fun x30 ex30 => ?_)
      have h := of_bnd h ex30
      refine lv_istore (lv' := [(4, .int x30), (3, .int x28), (0, .ref (ad 0)), (1, .int a1), (2, .int a2)]) hx hb dX12_allowed_30 hl (by decide) rfl (fun ls hl => ?_)
      have lp32 : ∀ (f1 : Int32) (f2 : Int32) (S : MS) (k : Nat) (l3 : Int32) (l4 : Int32) (q : Int32) , fX12_allowed_lp32 n S f1 f2 k l3 l4  = some q → ∀ (H : Heap) (locs : List Loc), mWd D cI cJ ad A s.heap S H locs → ∀ ls : Array Slot, lv_has ls 5 [(0, .ref (ad 0)), (1, .int f1), (2, .int f2), (3, .int l3), (4, .int l4)] → (∀ (t3 : Int32), t3 = q → ∀ (H : Heap) (locs : List Loc), mWd D cI cJ ad A s.heap S H locs → ∀ ls : Array Slot, lv_has ls 5 [(3, .int t3)] → W p l e (cRm 2 48 0 0) s m args below meth c H locs (0) (0) (MQ below (va_Qi (fun x u => x = r ∧ u = T) (mAft D cI cJ ad A) A) args s 0 0 A) (F0 m 72 ls [])) → W p l e (cRm 2 48 0 0) s m args below meth c H locs (0) (0) (MQ below (va_Qi (fun x u => x = r ∧ u = T) (mAft D cI cJ ad A) A) args s 0 0 A) (F0 m 32 ls []) := by
        intro f1 f2 S k
        induction k with
        | zero => intro l3 l4 q h; rw [fX12_allowed_lp32] at h; cases h
        | succ k ih32 =>
          intro l3 l4 q h H locs hw ls hl kx32_0
          rw [fX12_allowed_lp32] at h
          refine lv_iload hx hb dX12_allowed_32 (lv_at hl 4 rfl) ?_
          refine lv_aload_n hx hb dX12_allowed_34 rfl (lv_at hl 0 rfl) ?_
          refine N_get hx hb hts hin hown hK hw 20 (by decide) rfl (index := 209) (by decide +kernel) rfl dX12_allowed_35 ?_
          refine lv_topi (fun v35 ev35 => ?_)
          have h := of_bnd h ev35
          refine lv_icmp_ge (tgt := 72) hx hb dX12_allowed_38 (by decide) (fun c38 => ?_) (fun c38 => ?_)
          · have h := of_it h c38
            exact kx32_0 l3 (Option.some.inj h) _ _ hw ls (lv_sub hl [3] rfl)
          · have h := of_if h c38
            refine lv_iload_n hx hb dX12_allowed_41 rfl (lv_at hl 3 rfl) ?_
            refine lv_aload_n hx hb dX12_allowed_42 rfl (lv_at hl 0 rfl) ?_
            refine lv_iload hx hb dX12_allowed_43 (lv_at hl 4 rfl) ?_
            refine lv_iload_n hx hb dX12_allowed_45 rfl (lv_at hl 1 rfl) ?_
            refine lv_iload_n hx hb dX12_allowed_46 rfl (lv_at hl 2 rfl) ?_
            obtain ⟨q47, hq47, h⟩ := of_cal h
            refine N_calli (av := [.int l4, .int f1, .int f2]) (rest := [.int l3]) ⟨hx, hb, hml, hown, hts⟩ hA hK hw (cX12_lets_ok l D cI cJ ad n S l4 f1 f2 hq47) (cwV 3 hts gX12_allowed_X12_lets rfl rfl rfl (by decide +kernel) ⟨Nat.le_of_ble_eq_true rfl, Nat.le_of_ble_eq_true rfl⟩) rfl hl.1 rfl (Nat.le_of_ble_eq_true rfl) dX12_allowed_47 ⟨Nat.le_refl _, Nat.le_refl _⟩ (fun H locs hw => ?_)
            refine lv_if_eq (tgt := 63) hx hb dX12_allowed_50 (by decide) (fun c50 => ?_) (fun c50 => ?_)
            · have h := of_it h c50
              refine lv_iconst (v := 0) hx hb dX12_allowed_63 (by decide) ?_
              refine lv_iadd hx hb dX12_allowed_64 ?_
              refine lv_topi (fun x65 ex65 => ?_)
              have h := of_bnd h ex65
              refine lv_istore_n (lv' := [(3, .int x65), (0, .ref (ad 0)), (1, .int f1), (2, .int f2), (4, .int l4)]) hx hb dX12_allowed_65 rfl hl (by decide) rfl (fun ls hl => ?_)
              obtain ⟨x66, ex66⟩ : ∃ y : Int32, y = l4 + 1 := ⟨_, rfl⟩
              have h := of_bnd h ex66
              refine lv_iinc (v := x66) (lv' := [(4, .int x66), (3, .int x65), (0, .ref (ad 0)), (1, .int f1), (2, .int f2)]) hx hb dX12_allowed_66 hl (k := 4) rfl (by rw [ex66]; rfl) (by decide) rfl (fun ls hl => ?_)
              refine lv_goto (tgt := 32) hx hb dX12_allowed_69 (by decide) ?_
              exact ih32 x65 x66 _ h _ _ hw ls (lv_sub hl [2, 3, 4, 1, 0] rfl) kx32_0
            · have h := of_if h c50
              refine lv_aload_n hx hb dX12_allowed_53 rfl (lv_at hl 0 rfl) ?_
              refine N_get hx hb hts hin hown hK hw 24 (by decide) rfl (index := 62) (by decide +kernel) rfl dX12_allowed_54 ?_
              refine lv_iload hx hb dX12_allowed_57 (lv_at hl 4 rfl) ?_
              obtain ⟨hi59, h⟩ := of_grd h
              refine va_iald hx hb hK hw.1 18 0 rfl rfl hi59 dX12_allowed_59 ?_
              refine lv_topi (fun v59 ev59 => ?_)
              have h := of_bnd h ev59
              refine lv_goto (tgt := 64) hx hb dX12_allowed_60 (by decide) ?_
              refine lv_iadd hx hb dX12_allowed_64 ?_
              refine lv_topi (fun x65 ex65 => ?_)
              have h := of_bnd h ex65
              refine lv_istore_n (lv' := [(3, .int x65), (0, .ref (ad 0)), (1, .int f1), (2, .int f2), (4, .int l4)]) hx hb dX12_allowed_65 rfl hl (by decide) rfl (fun ls hl => ?_)
              obtain ⟨x66, ex66⟩ : ∃ y : Int32, y = l4 + 1 := ⟨_, rfl⟩
              have h := of_bnd h ex66
              refine lv_iinc (v := x66) (lv' := [(4, .int x66), (3, .int x65), (0, .ref (ad 0)), (1, .int f1), (2, .int f2)]) hx hb dX12_allowed_66 hl (k := 4) rfl (by rw [ex66]; rfl) (by decide) rfl (fun ls hl => ?_)
              refine lv_goto (tgt := 32) hx hb dX12_allowed_69 (by decide) ?_
              exact ih32 x65 x66 _ h _ _ hw ls (lv_sub hl [2, 3, 4, 1, 0] rfl) kx32_0
      obtain ⟨q32, hq32, h⟩ := of_cal h
      refine lp32 a1 a2 S2 n.1 x28 x30 q32  hq32 _ _ hw ls (lv_sub hl [2, 3, 4, 1, 0] rfl) ?_
      · intro t3_32 eq H locs hw ls hl
        subst eq
        refine lv_iload_n hx hb dX12_allowed_72 rfl (lv_at hl 0 rfl) ?_
        obtain ⟨rfl, rfl⟩ := of_ret2 h
        exact M_iret hx hb hr hlocks hK hw.1 hw.2.1 hw.2.2 dX12_allowed_73 ⟨rfl, rfl⟩
    · have h := of_it h c22
      refine lv_iconst (v := -1) hx hb dX12_allowed_25 (by decide) ?_
      obtain ⟨rfl, rfl⟩ := of_ret2 h
      exact M_iret hx hb hr hlocks hK hw.1 hw.2.1 hw.2.2 dX12_allowed_26 ⟨rfl, rfl⟩

def fX12_needOf_lp5 (n : Nat × Nat) (S : MS) (f1 : Int32) (f2 : Int32) : Nat → Int32 → Int32 → Option (Int32)
  | 0, _, _ => none
  | k + 1, l3, l4 =>
    bnd (mI S 25) (fun v8 => if v8 ≤ l4 then 
        some l3
        else grd (¬ (l4 < 0 ∨ 30 ≤ l4.toNatClampNeg)) (bnd (mA S 26 l4.toNatClampNeg) (fun v21 => if v21 = 0 then 
          grd (¬ (l4 < 0 ∨ 30 ≤ l4.toNatClampNeg)) (bnd (mA S 27 l4.toNatClampNeg) (fun v31 => if v31 = f2 then 
            grd (¬ (f1 < 0 ∨ 40 ≤ f1.toNatClampNeg)) (bnd (mA S 18 f1.toNatClampNeg) (fun v41 => grd (¬ (l4 < 0 ∨ 30 ≤ l4.toNatClampNeg)) (bnd (mA S 29 l4.toNatClampNeg) (fun v48 => if v41 ≤ v48 then 
              bnd (l3 + (0 : Int32)) (fun x71 => bnd (l4 + 1) (fun x72 => fX12_needOf_lp5 n S f1 f2 k x71 x72 ))
              else grd (¬ (l4 < 0 ∨ 30 ≤ l4.toNatClampNeg)) (bnd (mA S 28 l4.toNatClampNeg) (fun v58 => grd (¬ (f1 < 0 ∨ 40 ≤ f1.toNatClampNeg)) (bnd (mA S 18 f1.toNatClampNeg) (fun v64 => bnd (l3 + (v58 * v64)) (fun x71 => bnd (l4 + 1) (fun x72 => fX12_needOf_lp5 n S f1 f2 k x71 x72 ))))))))))
            else bnd (l3 + (0 : Int32)) (fun x71 => bnd (l4 + 1) (fun x72 => fX12_needOf_lp5 n S f1 f2 k x71 x72 ))))
          else bnd (l3 + (0 : Int32)) (fun x71 => bnd (l4 + 1) (fun x72 => fX12_needOf_lp5 n S f1 f2 k x71 x72 )))))
def fX12_needOf (n : Nat × Nat) (S : MS) (a1 : Int32) (a2 : Int32) : Option Int32 :=
  bnd (0 : Int32) (fun x1 => bnd (0 : Int32) (fun x3 => cal (fX12_needOf_lp5 n S a1 a2 n.1 x1 x3 ) (fun t3_5 => some t3_5)))
set_option maxHeartbeats 8000000 in
set_option maxRecDepth 100000 in
theorem cX12_needOf_ok (l : Launch) (D : va_G) (cI cJ : ClassId) (ad : Nat → Nat) (n : Nat × Nat) (S : MS) (a1 : Int32) (a2 : Int32) {r : Int32} (h : fX12_needOf n S a1 a2 = some r) : Mi l yX12_needOf wsX12_needOf (cRm 0 0 0 0) D cI cJ ad [.int a1, .int a2] S (fun r1 u => r1 = r ∧ u = S) := by
  refine Mi_of (cc := cX12_needOf) (nL := 5) (ret := (some .int)) (by decide) rfl rfl (Nat.le_of_ble_eq_true rfl) ?_
  intro p e s m args below meth c A hx hb hr hlocks hml hts hown hA hK hP hD hS ls hl
  have hw : mWd D cI cJ ad A s.heap S s.heap [] := ⟨hP, hD, hS⟩
  unfold fX12_needOf at h
  have hin : ∀ w ∈ wsX120, w ∈ wsX12_needOf := fun w h => List.mem_cons_of_mem _ (List.mem_append_right _ h)
  have hl : lv_has ls 5 [(0, .ref (ad 0)), (1, .int a1), (2, .int a2)] := hl
  refine lv_iconst (v := 0) hx hb dX12_needOf_0 (by decide) ?_
  refine lv_topi (fun x1 ex1 => ?_)
  have h := of_bnd h ex1
  refine lv_istore_n (lv' := [(3, .int x1), (0, .ref (ad 0)), (1, .int a1), (2, .int a2)]) hx hb dX12_needOf_1 rfl hl (by decide) rfl (fun ls hl => ?_)
  refine lv_iconst (v := 0) hx hb dX12_needOf_2 (by decide) ?_
  refine lv_topi (fun x3 ex3 => ?_)
  have h := of_bnd h ex3
  refine lv_istore (lv' := [(4, .int x3), (3, .int x1), (0, .ref (ad 0)), (1, .int a1), (2, .int a2)]) hx hb dX12_needOf_3 hl (by decide) rfl (fun ls hl => ?_)
  have lp5 : ∀ (f1 : Int32) (f2 : Int32) (S : MS) (k : Nat) (l3 : Int32) (l4 : Int32) (q : Int32) , fX12_needOf_lp5 n S f1 f2 k l3 l4  = some q → ∀ (H : Heap) (locs : List Loc), mWd D cI cJ ad A s.heap S H locs → ∀ ls : Array Slot, lv_has ls 5 [(0, .ref (ad 0)), (1, .int f1), (2, .int f2), (3, .int l3), (4, .int l4)] → (∀ (t3 : Int32), t3 = q → ∀ (H : Heap) (locs : List Loc), mWd D cI cJ ad A s.heap S H locs → ∀ ls : Array Slot, lv_has ls 5 [(3, .int t3)] → W p l e (cRm 0 0 0 0) s m args below meth c H locs (0) (0) (MQ below (va_Qi (fun x u => x = r ∧ u = S) (mAft D cI cJ ad A) A) args s 0 0 A) (F0 m 78 ls [])) → W p l e (cRm 0 0 0 0) s m args below meth c H locs (0) (0) (MQ below (va_Qi (fun x u => x = r ∧ u = S) (mAft D cI cJ ad A) A) args s 0 0 A) (F0 m 5 ls []) := by
    intro f1 f2 S k
    induction k with
    | zero => intro l3 l4 q h; rw [fX12_needOf_lp5] at h; cases h
    | succ k ih5 =>
      intro l3 l4 q h H locs hw ls hl kx5_0
      rw [fX12_needOf_lp5] at h
      refine lv_iload hx hb dX12_needOf_5 (lv_at hl 4 rfl) ?_
      refine lv_aload_n hx hb dX12_needOf_7 rfl (lv_at hl 0 rfl) ?_
      refine N_get hx hb hts hin hown hK hw 25 (by decide) rfl (index := 216) (by decide +kernel) rfl dX12_needOf_8 ?_
      refine lv_topi (fun v8 ev8 => ?_)
      have h := of_bnd h ev8
      refine lv_icmp_ge (tgt := 78) hx hb dX12_needOf_11 (by decide) (fun c11 => ?_) (fun c11 => ?_)
      · have h := of_it h c11
        exact kx5_0 l3 (Option.some.inj h) _ _ hw ls (lv_sub hl [3] rfl)
      · have h := of_if h c11
        refine lv_iload_n hx hb dX12_needOf_14 rfl (lv_at hl 3 rfl) ?_
        refine lv_aload_n hx hb dX12_needOf_15 rfl (lv_at hl 0 rfl) ?_
        refine N_get hx hb hts hin hown hK hw 26 (by decide) rfl (index := 65) (by decide +kernel) rfl dX12_needOf_16 ?_
        refine lv_iload hx hb dX12_needOf_19 (lv_at hl 4 rfl) ?_
        obtain ⟨hi21, h⟩ := of_grd h
        refine va_iald hx hb hK hw.1 19 0 rfl rfl hi21 dX12_needOf_21 ?_
        refine lv_topi (fun v21 ev21 => ?_)
        have h := of_bnd h ev21
        refine lv_if_ne (tgt := 69) hx hb dX12_needOf_22 (by decide) (fun c22 => ?_) (fun c22 => ?_)
        · have h := of_if h c22
          refine lv_iconst (v := 0) hx hb dX12_needOf_69 (by decide) ?_
          refine lv_iadd hx hb dX12_needOf_70 ?_
          refine lv_topi (fun x71 ex71 => ?_)
          have h := of_bnd h ex71
          refine lv_istore_n (lv' := [(3, .int x71), (0, .ref (ad 0)), (1, .int f1), (2, .int f2), (4, .int l4)]) hx hb dX12_needOf_71 rfl hl (by decide) rfl (fun ls hl => ?_)
          obtain ⟨x72, ex72⟩ : ∃ y : Int32, y = l4 + 1 := ⟨_, rfl⟩
          have h := of_bnd h ex72
          refine lv_iinc (v := x72) (lv' := [(4, .int x72), (3, .int x71), (0, .ref (ad 0)), (1, .int f1), (2, .int f2)]) hx hb dX12_needOf_72 hl (k := 4) rfl (by rw [ex72]; rfl) (by decide) rfl (fun ls hl => ?_)
          refine lv_goto (tgt := 5) hx hb dX12_needOf_75 (by decide) ?_
          exact ih5 x71 x72 _ h _ _ hw ls (lv_sub hl [2, 3, 4, 1, 0] rfl) kx5_0
        · have h := of_it h c22
          refine lv_aload_n hx hb dX12_needOf_25 rfl (lv_at hl 0 rfl) ?_
          refine N_get hx hb hts hin hown hK hw 27 (by decide) rfl (index := 68) (by decide +kernel) rfl dX12_needOf_26 ?_
          refine lv_iload hx hb dX12_needOf_29 (lv_at hl 4 rfl) ?_
          obtain ⟨hi31, h⟩ := of_grd h
          refine va_iald hx hb hK hw.1 20 0 rfl rfl hi31 dX12_needOf_31 ?_
          refine lv_topi (fun v31 ev31 => ?_)
          have h := of_bnd h ev31
          refine lv_iload_n hx hb dX12_needOf_32 rfl (lv_at hl 2 rfl) ?_
          refine lv_icmp_ne (tgt := 69) hx hb dX12_needOf_33 (by decide) (fun c33 => ?_) (fun c33 => ?_)
          · have h := of_if h c33
            refine lv_iconst (v := 0) hx hb dX12_needOf_69 (by decide) ?_
            refine lv_iadd hx hb dX12_needOf_70 ?_
            refine lv_topi (fun x71 ex71 => ?_)
            have h := of_bnd h ex71
            refine lv_istore_n (lv' := [(3, .int x71), (0, .ref (ad 0)), (1, .int f1), (2, .int f2), (4, .int l4)]) hx hb dX12_needOf_71 rfl hl (by decide) rfl (fun ls hl => ?_)
            obtain ⟨x72, ex72⟩ : ∃ y : Int32, y = l4 + 1 := ⟨_, rfl⟩
            have h := of_bnd h ex72
            refine lv_iinc (v := x72) (lv' := [(4, .int x72), (3, .int x71), (0, .ref (ad 0)), (1, .int f1), (2, .int f2)]) hx hb dX12_needOf_72 hl (k := 4) rfl (by rw [ex72]; rfl) (by decide) rfl (fun ls hl => ?_)
            refine lv_goto (tgt := 5) hx hb dX12_needOf_75 (by decide) ?_
            exact ih5 x71 x72 _ h _ _ hw ls (lv_sub hl [2, 3, 4, 1, 0] rfl) kx5_0
          · have h := of_it h c33
            refine lv_aload_n hx hb dX12_needOf_36 rfl (lv_at hl 0 rfl) ?_
            refine N_get hx hb hts hin hown hK hw 18 (by decide) rfl (index := 47) (by decide +kernel) rfl dX12_needOf_37 ?_
            refine lv_iload_n hx hb dX12_needOf_40 rfl (lv_at hl 1 rfl) ?_
            obtain ⟨hi41, h⟩ := of_grd h
            refine va_iald hx hb hK hw.1 13 0 rfl rfl hi41 dX12_needOf_41 ?_
            refine lv_topi (fun v41 ev41 => ?_)
            have h := of_bnd h ev41
            refine lv_aload_n hx hb dX12_needOf_42 rfl (lv_at hl 0 rfl) ?_
            refine N_get hx hb hts hin hown hK hw 29 (by decide) rfl (index := 74) (by decide +kernel) rfl dX12_needOf_43 ?_
            refine lv_iload hx hb dX12_needOf_46 (lv_at hl 4 rfl) ?_
            obtain ⟨hi48, h⟩ := of_grd h
            refine va_iald hx hb hK hw.1 22 0 rfl rfl hi48 dX12_needOf_48 ?_
            refine lv_topi (fun v48 ev48 => ?_)
            have h := of_bnd h ev48
            refine lv_icmp_le (tgt := 69) hx hb dX12_needOf_49 (by decide) (fun c49 => ?_) (fun c49 => ?_)
            · have h := of_it h c49
              refine lv_iconst (v := 0) hx hb dX12_needOf_69 (by decide) ?_
              refine lv_iadd hx hb dX12_needOf_70 ?_
              refine lv_topi (fun x71 ex71 => ?_)
              have h := of_bnd h ex71
              refine lv_istore_n (lv' := [(3, .int x71), (0, .ref (ad 0)), (1, .int f1), (2, .int f2), (4, .int l4)]) hx hb dX12_needOf_71 rfl hl (by decide) rfl (fun ls hl => ?_)
              obtain ⟨x72, ex72⟩ : ∃ y : Int32, y = l4 + 1 := ⟨_, rfl⟩
              have h := of_bnd h ex72
              refine lv_iinc (v := x72) (lv' := [(4, .int x72), (3, .int x71), (0, .ref (ad 0)), (1, .int f1), (2, .int f2)]) hx hb dX12_needOf_72 hl (k := 4) rfl (by rw [ex72]; rfl) (by decide) rfl (fun ls hl => ?_)
              refine lv_goto (tgt := 5) hx hb dX12_needOf_75 (by decide) ?_
              exact ih5 x71 x72 _ h _ _ hw ls (lv_sub hl [2, 3, 4, 1, 0] rfl) kx5_0
            · have h := of_if h c49
              refine lv_aload_n hx hb dX12_needOf_52 rfl (lv_at hl 0 rfl) ?_
              refine N_get hx hb hts hin hown hK hw 28 (by decide) rfl (index := 71) (by decide +kernel) rfl dX12_needOf_53 ?_
              refine lv_iload hx hb dX12_needOf_56 (lv_at hl 4 rfl) ?_
              obtain ⟨hi58, h⟩ := of_grd h
              refine va_iald hx hb hK hw.1 21 0 rfl rfl hi58 dX12_needOf_58 ?_
              refine lv_topi (fun v58 ev58 => ?_)
              have h := of_bnd h ev58
              refine lv_aload_n hx hb dX12_needOf_59 rfl (lv_at hl 0 rfl) ?_
              refine N_get hx hb hts hin hown hK hw 18 (by decide) rfl (index := 47) (by decide +kernel) rfl dX12_needOf_60 ?_
              refine lv_iload_n hx hb dX12_needOf_63 rfl (lv_at hl 1 rfl) ?_
              obtain ⟨hi64, h⟩ := of_grd h
              refine va_iald hx hb hK hw.1 13 0 rfl rfl hi64 dX12_needOf_64 ?_
              refine lv_topi (fun v64 ev64 => ?_)
              have h := of_bnd h ev64
              refine lv_imul hx hb dX12_needOf_65 ?_
              refine lv_goto (tgt := 70) hx hb dX12_needOf_66 (by decide) ?_
              refine lv_iadd hx hb dX12_needOf_70 ?_
              refine lv_topi (fun x71 ex71 => ?_)
              have h := of_bnd h ex71
              refine lv_istore_n (lv' := [(3, .int x71), (0, .ref (ad 0)), (1, .int f1), (2, .int f2), (4, .int l4)]) hx hb dX12_needOf_71 rfl hl (by decide) rfl (fun ls hl => ?_)
              obtain ⟨x72, ex72⟩ : ∃ y : Int32, y = l4 + 1 := ⟨_, rfl⟩
              have h := of_bnd h ex72
              refine lv_iinc (v := x72) (lv' := [(4, .int x72), (3, .int x71), (0, .ref (ad 0)), (1, .int f1), (2, .int f2)]) hx hb dX12_needOf_72 hl (k := 4) rfl (by rw [ex72]; rfl) (by decide) rfl (fun ls hl => ?_)
              refine lv_goto (tgt := 5) hx hb dX12_needOf_75 (by decide) ?_
              exact ih5 x71 x72 _ h _ _ hw ls (lv_sub hl [2, 3, 4, 1, 0] rfl) kx5_0
  obtain ⟨q5, hq5, h⟩ := of_cal h
  refine lp5 a1 a2 S n.1 x1 x3 q5  hq5 _ _ hw ls (lv_sub hl [2, 3, 4, 1, 0] rfl) ?_
  · intro t3_5 eq H locs hw ls hl
    subst eq
    refine lv_iload_n hx hb dX12_needOf_78 rfl (lv_at hl 0 rfl) ?_
    obtain rfl := Option.some.inj h
    exact M_iret hx hb hr hlocks hK hw.1 hw.2.1 hw.2.2 dX12_needOf_79 ⟨rfl, rfl⟩

def fX12_need (n : Nat × Nat) (S : MS) (a1 : Int32) (a2 : Int32) : Option (Int32 × MS) :=
  bnd (sI S 0 (0 : Int32)) (fun S2 => cal (fX12_isFamily n S2 a1) (fun q7 => if q7 = 0 then 
    some ((-1 : Int32), S2)
    else bnd (fX12_isKind a2) (fun r14 => if r14 = 0 then 
      some ((-1 : Int32), S2)
      else cal (fX12_needOf n S2 a1 a2) (fun q23 => some (q23, S2)))))
set_option maxHeartbeats 8000000 in
set_option maxRecDepth 100000 in
theorem cX12_need_ok (l : Launch) (D : va_G) (cI cJ : ClassId) (ad : Nat → Nat) (n : Nat × Nat) (S : MS) (a1 : Int32) (a2 : Int32) {r : Int32} {T : MS} (h : fX12_need n S a1 a2 = some (r, T)) : Mi l yX12_need wsX12_need (cRm 2 46 0 0) D cI cJ ad [.int a1, .int a2] S (fun r1 u => r1 = r ∧ u = T) := by
  refine Mi_of (cc := cX12_need) (nL := 3) (ret := (some .int)) (by decide) rfl rfl (Nat.le_of_ble_eq_true rfl) ?_
  intro p e s m args below meth c A hx hb hr hlocks hml hts hown hA hK hP hD hS ls hl
  have hw : mWd D cI cJ ad A s.heap S s.heap [] := ⟨hP, hD, hS⟩
  unfold fX12_need at h
  have hin : ∀ w ∈ wsX120, w ∈ wsX12_need := fun w h => List.mem_cons_of_mem _ (List.mem_append_right _ h)
  have hl : lv_has ls 3 [(0, .ref (ad 0)), (1, .int a1), (2, .int a2)] := hl
  refine lv_aload_n hx hb dX12_need_0 rfl (lv_at hl 0 rfl) ?_
  refine lv_iconst (v := 0) hx hb dX12_need_1 (by decide) ?_
  refine N_put hx hb hts hin hown hK hw 0 (by decide) rfl rfl (index := 156) (by decide +kernel) (ty := .int) (by decide +kernel) rfl rfl (pI_0 cI cJ ad S _) dX12_need_2 (fun S2 H locs eS2 hw => ?_)
  have h := of_bnd h eS2
  refine lv_aload_n hx hb dX12_need_5 rfl (lv_at hl 0 rfl) ?_
  refine lv_iload_n hx hb dX12_need_6 rfl (lv_at hl 1 rfl) ?_
  obtain ⟨q7, hq7, h⟩ := of_cal h
  refine N_calli (av := [.int a1]) (rest := []) ⟨hx, hb, hml, hown, hts⟩ hA hK hw (cX12_isFamily_ok l D cI cJ ad n S2 a1 hq7) (cwV 1 hts gX12_need_X12_isFamily rfl rfl rfl (by decide +kernel) ⟨Nat.le_of_ble_eq_true rfl, Nat.le_of_ble_eq_true rfl⟩) rfl hl.1 rfl (Nat.le_of_ble_eq_true rfl) dX12_need_7 ⟨Nat.le_refl _, Nat.le_refl _⟩ (fun H locs hw => ?_)
  refine lv_if_eq (tgt := 29) hx hb dX12_need_10 (by decide) (fun c10 => ?_) (fun c10 => ?_)
  · have h := of_it h c10
    refine lv_iconst (v := -1) hx hb dX12_need_29 (by decide) ?_
    obtain ⟨rfl, rfl⟩ := of_ret2 h
    exact M_iret hx hb hr hlocks hK hw.1 hw.2.1 hw.2.2 dX12_need_30 ⟨rfl, rfl⟩
  · have h := of_if h c10
    refine lv_iload_n hx hb dX12_need_13 rfl (lv_at hl 2 rfl) ?_
    refine C_s (va_runS (As := [.int a2]) (rest := []) ⟨hx, hb, hml, hown, hts⟩ (cX12_isKind_ok l a2) (va_cwS 1 hts gX12_need_X12_isKind rfl rfl rfl (by decide +kernel) ⟨Nat.le_of_ble_eq_true rfl, Nat.le_of_ble_eq_true rfl⟩) ⟨fun a U g mk q => ⟨q.1, trivial⟩, fun U hU hW => ⟨rfl, trivial⟩⟩ rfl rfl hl.1 rfl (lv_room (Nat.le_of_ble_eq_true rfl)) dX12_need_14 ⟨Nat.le_refl _, Nat.le_refl _⟩) (fun r14 er14 => ?_)
    have h := of_bnd h er14
    refine lv_if_eq (tgt := 29) hx hb dX12_need_17 (by decide) (fun c17 => ?_) (fun c17 => ?_)
    · have h := of_it h c17
      refine lv_iconst (v := -1) hx hb dX12_need_29 (by decide) ?_
      obtain ⟨rfl, rfl⟩ := of_ret2 h
      exact M_iret hx hb hr hlocks hK hw.1 hw.2.1 hw.2.2 dX12_need_30 ⟨rfl, rfl⟩
    · have h := of_if h c17
      refine lv_aload_n hx hb dX12_need_20 rfl (lv_at hl 0 rfl) ?_
      refine lv_iload_n hx hb dX12_need_21 rfl (lv_at hl 1 rfl) ?_
      refine lv_iload_n hx hb dX12_need_22 rfl (lv_at hl 2 rfl) ?_
      obtain ⟨q23, hq23, h⟩ := of_cal h
      refine N_calli (av := [.int a1, .int a2]) (rest := []) ⟨hx, hb, hml, hown, hts⟩ hA hK hw (cX12_needOf_ok l D cI cJ ad n S2 a1 a2 hq23) (cwV 2 hts gX12_need_X12_needOf rfl rfl rfl (by decide +kernel) ⟨Nat.le_of_ble_eq_true rfl, Nat.le_of_ble_eq_true rfl⟩) rfl hl.1 rfl (Nat.le_of_ble_eq_true rfl) dX12_need_23 ⟨Nat.le_refl _, Nat.le_refl _⟩ (fun H locs hw => ?_)
      refine lv_goto (tgt := 30) hx hb dX12_need_26 (by decide) ?_
      obtain ⟨rfl, rfl⟩ := of_ret2 h
      exact M_iret hx hb hr hlocks hK hw.1 hw.2.1 hw.2.2 dX12_need_30 ⟨rfl, rfl⟩

def fX12_sparedOf_lp4 (n : Nat × Nat) (S : MS) (f1 : Int32) : Nat → Int32 → Int32 → Option (Int32)
  | 0, _, _ => none
  | k + 1, l2, l3 =>
    bnd (mI S 25) (fun v6 => if v6 ≤ l3 then 
        some l2
        else grd (¬ (l3 < 0 ∨ 30 ≤ l3.toNatClampNeg)) (bnd (mA S 26 l3.toNatClampNeg) (fun v17 => if v17 = (1 : Int32) then 
          grd (¬ (l3 < 0 ∨ 30 ≤ l3.toNatClampNeg)) (bnd (mA S 27 l3.toNatClampNeg) (fun v27 => if v27 = f1 then 
            grd (¬ (l3 < 0 ∨ 30 ≤ l3.toNatClampNeg)) (bnd (mA S 28 l3.toNatClampNeg) (fun v37 => if v37 ≤ l2 then 
              bnd (l3 + 1) (fun x53 => fX12_sparedOf_lp4 n S f1 k l2 x53 )
              else grd (¬ (l3 < 0 ∨ 30 ≤ l3.toNatClampNeg)) (bnd (mA S 28 l3.toNatClampNeg) (fun v47 => bnd (l3 + 1) (fun x53 => fX12_sparedOf_lp4 n S f1 k v47 x53 )))))
            else bnd (l3 + 1) (fun x53 => fX12_sparedOf_lp4 n S f1 k l2 x53 )))
          else bnd (l3 + 1) (fun x53 => fX12_sparedOf_lp4 n S f1 k l2 x53 ))))
def fX12_sparedOf (n : Nat × Nat) (S : MS) (a1 : Int32) : Option Int32 :=
  bnd (0 : Int32) (fun x1 => bnd (0 : Int32) (fun x3 => cal (fX12_sparedOf_lp4 n S a1 n.1 x1 x3 ) (fun t2_4 => some t2_4)))
set_option maxHeartbeats 8000000 in
set_option maxRecDepth 100000 in
theorem cX12_sparedOf_ok (l : Launch) (D : va_G) (cI cJ : ClassId) (ad : Nat → Nat) (n : Nat × Nat) (S : MS) (a1 : Int32) {r : Int32} (h : fX12_sparedOf n S a1 = some r) : Mi l yX12_sparedOf wsX12_sparedOf (cRm 0 0 0 0) D cI cJ ad [.int a1] S (fun r1 u => r1 = r ∧ u = S) := by
  refine Mi_of (cc := cX12_sparedOf) (nL := 4) (ret := (some .int)) (by decide) rfl rfl (Nat.le_of_ble_eq_true rfl) ?_
  intro p e s m args below meth c A hx hb hr hlocks hml hts hown hA hK hP hD hS ls hl
  have hw : mWd D cI cJ ad A s.heap S s.heap [] := ⟨hP, hD, hS⟩
  unfold fX12_sparedOf at h
  have hin : ∀ w ∈ wsX120, w ∈ wsX12_sparedOf := fun w h => List.mem_cons_of_mem _ (List.mem_append_right _ h)
  have hl : lv_has ls 4 [(0, .ref (ad 0)), (1, .int a1)] := hl
  refine lv_iconst (v := 0) hx hb dX12_sparedOf_0 (by decide) ?_
  refine lv_topi (fun x1 ex1 => ?_)
  have h := of_bnd h ex1
  refine lv_istore_n (lv' := [(2, .int x1), (0, .ref (ad 0)), (1, .int a1)]) hx hb dX12_sparedOf_1 rfl hl (by decide) rfl (fun ls hl => ?_)
  refine lv_iconst (v := 0) hx hb dX12_sparedOf_2 (by decide) ?_
  refine lv_topi (fun x3 ex3 => ?_)
  have h := of_bnd h ex3
  refine lv_istore_n (lv' := [(3, .int x3), (2, .int x1), (0, .ref (ad 0)), (1, .int a1)]) hx hb dX12_sparedOf_3 rfl hl (by decide) rfl (fun ls hl => ?_)
  have lp4 : ∀ (f1 : Int32) (S : MS) (k : Nat) (l2 : Int32) (l3 : Int32) (q : Int32) , fX12_sparedOf_lp4 n S f1 k l2 l3  = some q → ∀ (H : Heap) (locs : List Loc), mWd D cI cJ ad A s.heap S H locs → ∀ ls : Array Slot, lv_has ls 4 [(0, .ref (ad 0)), (1, .int f1), (2, .int l2), (3, .int l3)] → (∀ (t2 : Int32), t2 = q → ∀ (H : Heap) (locs : List Loc), mWd D cI cJ ad A s.heap S H locs → ∀ ls : Array Slot, lv_has ls 4 [(2, .int t2)] → W p l e (cRm 0 0 0 0) s m args below meth c H locs (0) (0) (MQ below (va_Qi (fun x u => x = r ∧ u = S) (mAft D cI cJ ad A) A) args s 0 0 A) (F0 m 59 ls [])) → W p l e (cRm 0 0 0 0) s m args below meth c H locs (0) (0) (MQ below (va_Qi (fun x u => x = r ∧ u = S) (mAft D cI cJ ad A) A) args s 0 0 A) (F0 m 4 ls []) := by
    intro f1 S k
    induction k with
    | zero => intro l2 l3 q h; rw [fX12_sparedOf_lp4] at h; cases h
    | succ k ih4 =>
      intro l2 l3 q h H locs hw ls hl kx4_0
      rw [fX12_sparedOf_lp4] at h
      refine lv_iload_n hx hb dX12_sparedOf_4 rfl (lv_at hl 3 rfl) ?_
      refine lv_aload_n hx hb dX12_sparedOf_5 rfl (lv_at hl 0 rfl) ?_
      refine N_get hx hb hts hin hown hK hw 25 (by decide) rfl (index := 216) (by decide +kernel) rfl dX12_sparedOf_6 ?_
      refine lv_topi (fun v6 ev6 => ?_)
      have h := of_bnd h ev6
      refine lv_icmp_ge (tgt := 59) hx hb dX12_sparedOf_9 (by decide) (fun c9 => ?_) (fun c9 => ?_)
      · have h := of_it h c9
        exact kx4_0 l2 (Option.some.inj h) _ _ hw ls (lv_sub hl [2] rfl)
      · have h := of_if h c9
        refine lv_aload_n hx hb dX12_sparedOf_12 rfl (lv_at hl 0 rfl) ?_
        refine N_get hx hb hts hin hown hK hw 26 (by decide) rfl (index := 65) (by decide +kernel) rfl dX12_sparedOf_13 ?_
        refine lv_iload_n hx hb dX12_sparedOf_16 rfl (lv_at hl 3 rfl) ?_
        obtain ⟨hi17, h⟩ := of_grd h
        refine va_iald hx hb hK hw.1 19 0 rfl rfl hi17 dX12_sparedOf_17 ?_
        refine lv_topi (fun v17 ev17 => ?_)
        have h := of_bnd h ev17
        refine lv_iconst (v := 1) hx hb dX12_sparedOf_18 (by decide) ?_
        refine lv_icmp_ne (tgt := 51) hx hb dX12_sparedOf_19 (by decide) (fun c19 => ?_) (fun c19 => ?_)
        · have h := of_if h c19
          refine lv_iload_n hx hb dX12_sparedOf_51 rfl (lv_at hl 2 rfl) ?_
          refine lv_istore_n (lv' := [(2, .int l2), (0, .ref (ad 0)), (1, .int f1), (3, .int l3)]) hx hb dX12_sparedOf_52 rfl hl (by decide) rfl (fun ls hl => ?_)
          obtain ⟨x53, ex53⟩ : ∃ y : Int32, y = l3 + 1 := ⟨_, rfl⟩
          have h := of_bnd h ex53
          refine lv_iinc (v := x53) (lv' := [(3, .int x53), (2, .int l2), (0, .ref (ad 0)), (1, .int f1)]) hx hb dX12_sparedOf_53 hl (k := 3) rfl (by rw [ex53]; rfl) (by decide) rfl (fun ls hl => ?_)
          refine lv_goto (tgt := 4) hx hb dX12_sparedOf_56 (by decide) ?_
          exact ih4 l2 x53 _ h _ _ hw ls (lv_sub hl [2, 3, 1, 0] rfl) kx4_0
        · have h := of_it h c19
          refine lv_aload_n hx hb dX12_sparedOf_22 rfl (lv_at hl 0 rfl) ?_
          refine N_get hx hb hts hin hown hK hw 27 (by decide) rfl (index := 68) (by decide +kernel) rfl dX12_sparedOf_23 ?_
          refine lv_iload_n hx hb dX12_sparedOf_26 rfl (lv_at hl 3 rfl) ?_
          obtain ⟨hi27, h⟩ := of_grd h
          refine va_iald hx hb hK hw.1 20 0 rfl rfl hi27 dX12_sparedOf_27 ?_
          refine lv_topi (fun v27 ev27 => ?_)
          have h := of_bnd h ev27
          refine lv_iload_n hx hb dX12_sparedOf_28 rfl (lv_at hl 1 rfl) ?_
          refine lv_icmp_ne (tgt := 51) hx hb dX12_sparedOf_29 (by decide) (fun c29 => ?_) (fun c29 => ?_)
          · have h := of_if h c29
            refine lv_iload_n hx hb dX12_sparedOf_51 rfl (lv_at hl 2 rfl) ?_
            refine lv_istore_n (lv' := [(2, .int l2), (0, .ref (ad 0)), (1, .int f1), (3, .int l3)]) hx hb dX12_sparedOf_52 rfl hl (by decide) rfl (fun ls hl => ?_)
            obtain ⟨x53, ex53⟩ : ∃ y : Int32, y = l3 + 1 := ⟨_, rfl⟩
            have h := of_bnd h ex53
            refine lv_iinc (v := x53) (lv' := [(3, .int x53), (2, .int l2), (0, .ref (ad 0)), (1, .int f1)]) hx hb dX12_sparedOf_53 hl (k := 3) rfl (by rw [ex53]; rfl) (by decide) rfl (fun ls hl => ?_)
            refine lv_goto (tgt := 4) hx hb dX12_sparedOf_56 (by decide) ?_
            exact ih4 l2 x53 _ h _ _ hw ls (lv_sub hl [2, 3, 1, 0] rfl) kx4_0
          · have h := of_it h c29
            refine lv_aload_n hx hb dX12_sparedOf_32 rfl (lv_at hl 0 rfl) ?_
            refine N_get hx hb hts hin hown hK hw 28 (by decide) rfl (index := 71) (by decide +kernel) rfl dX12_sparedOf_33 ?_
            refine lv_iload_n hx hb dX12_sparedOf_36 rfl (lv_at hl 3 rfl) ?_
            obtain ⟨hi37, h⟩ := of_grd h
            refine va_iald hx hb hK hw.1 21 0 rfl rfl hi37 dX12_sparedOf_37 ?_
            refine lv_topi (fun v37 ev37 => ?_)
            have h := of_bnd h ev37
            refine lv_iload_n hx hb dX12_sparedOf_38 rfl (lv_at hl 2 rfl) ?_
            refine lv_icmp_le (tgt := 51) hx hb dX12_sparedOf_39 (by decide) (fun c39 => ?_) (fun c39 => ?_)
            · have h := of_it h c39
              refine lv_iload_n hx hb dX12_sparedOf_51 rfl (lv_at hl 2 rfl) ?_
              refine lv_istore_n (lv' := [(2, .int l2), (0, .ref (ad 0)), (1, .int f1), (3, .int l3)]) hx hb dX12_sparedOf_52 rfl hl (by decide) rfl (fun ls hl => ?_)
              obtain ⟨x53, ex53⟩ : ∃ y : Int32, y = l3 + 1 := ⟨_, rfl⟩
              have h := of_bnd h ex53
              refine lv_iinc (v := x53) (lv' := [(3, .int x53), (2, .int l2), (0, .ref (ad 0)), (1, .int f1)]) hx hb dX12_sparedOf_53 hl (k := 3) rfl (by rw [ex53]; rfl) (by decide) rfl (fun ls hl => ?_)
              refine lv_goto (tgt := 4) hx hb dX12_sparedOf_56 (by decide) ?_
              exact ih4 l2 x53 _ h _ _ hw ls (lv_sub hl [2, 3, 1, 0] rfl) kx4_0
            · have h := of_if h c39
              refine lv_aload_n hx hb dX12_sparedOf_42 rfl (lv_at hl 0 rfl) ?_
              refine N_get hx hb hts hin hown hK hw 28 (by decide) rfl (index := 71) (by decide +kernel) rfl dX12_sparedOf_43 ?_
              refine lv_iload_n hx hb dX12_sparedOf_46 rfl (lv_at hl 3 rfl) ?_
              obtain ⟨hi47, h⟩ := of_grd h
              refine va_iald hx hb hK hw.1 21 0 rfl rfl hi47 dX12_sparedOf_47 ?_
              refine lv_topi (fun v47 ev47 => ?_)
              have h := of_bnd h ev47
              refine lv_goto (tgt := 52) hx hb dX12_sparedOf_48 (by decide) ?_
              refine lv_istore_n (lv' := [(2, .int v47), (0, .ref (ad 0)), (1, .int f1), (3, .int l3)]) hx hb dX12_sparedOf_52 rfl hl (by decide) rfl (fun ls hl => ?_)
              obtain ⟨x53, ex53⟩ : ∃ y : Int32, y = l3 + 1 := ⟨_, rfl⟩
              have h := of_bnd h ex53
              refine lv_iinc (v := x53) (lv' := [(3, .int x53), (2, .int v47), (0, .ref (ad 0)), (1, .int f1)]) hx hb dX12_sparedOf_53 hl (k := 3) rfl (by rw [ex53]; rfl) (by decide) rfl (fun ls hl => ?_)
              refine lv_goto (tgt := 4) hx hb dX12_sparedOf_56 (by decide) ?_
              exact ih4 v47 x53 _ h _ _ hw ls (lv_sub hl [2, 3, 1, 0] rfl) kx4_0
  obtain ⟨q4, hq4, h⟩ := of_cal h
  refine lp4 a1 S n.1 x1 x3 q4  hq4 _ _ hw ls (lv_sub hl [2, 3, 1, 0] rfl) ?_
  · intro t2_4 eq H locs hw ls hl
    subst eq
    refine lv_iload_n hx hb dX12_sparedOf_59 rfl (lv_at hl 0 rfl) ?_
    obtain rfl := Option.some.inj h
    exact M_iret hx hb hr hlocks hK hw.1 hw.2.1 hw.2.2 dX12_sparedOf_60 ⟨rfl, rfl⟩

def fX12_nextOf_lp16 (n : Nat × Nat) (S : MS) (f1 : Int32) (f2 : Int32) : Nat → Int32 → Int32 → Option (Int32)
  | 0, _, _ => none
  | k + 1, l3, l4 =>
    bnd (mI S 4) (fun v19 => if v19 ≤ l4 then 
        some l3
        else grd (¬ (l4 < 0 ∨ 200 ≤ l4.toNatClampNeg)) (bnd (mA S 5 l4.toNatClampNeg) (fun v31 => if v31 = f1 then 
          grd (¬ (l4 < 0 ∨ 200 ≤ l4.toNatClampNeg)) (bnd (mA S 9 l4.toNatClampNeg) (fun v42 => if v42 ≤ 0 then 
            bnd (l4 + 1) (fun x80 => fX12_nextOf_lp16 n S f1 f2 k l3 x80 )
            else grd (¬ (l4 < 0 ∨ 200 ≤ l4.toNatClampNeg)) (bnd (mA S 7 l4.toNatClampNeg) (fun v52 => if v52 < f2 then 
              bnd (l4 + 1) (fun x80 => fX12_nextOf_lp16 n S f1 f2 k l3 x80 )
              else if l3 < 0 then 
                bnd (l4 + 1) (fun x80 => fX12_nextOf_lp16 n S f1 f2 k l4 x80 )
                else grd (¬ (l4 < 0 ∨ 200 ≤ l4.toNatClampNeg)) (bnd (mA S 7 l4.toNatClampNeg) (fun v67 => grd (¬ (l3 < 0 ∨ 200 ≤ l3.toNatClampNeg)) (bnd (mA S 7 l3.toNatClampNeg) (fun v73 => if v73 ≤ v67 then 
                  bnd (l4 + 1) (fun x80 => fX12_nextOf_lp16 n S f1 f2 k l3 x80 )
                  else bnd (l4 + 1) (fun x80 => fX12_nextOf_lp16 n S f1 f2 k l4 x80 )))))))))
          else bnd (l4 + 1) (fun x80 => fX12_nextOf_lp16 n S f1 f2 k l3 x80 ))))
def fX12_nextOf (n : Nat × Nat) (S : MS) (a1 : Int32) : Option Int32 :=
  bnd (mI S 2) (fun v1 => cal (fX12_sparedOf n S a1) (fun q6 => bnd (v1 + q6) (fun x10 => bnd (-1 : Int32) (fun x12 => bnd (0 : Int32) (fun x14 => cal (fX12_nextOf_lp16 n S a1 x10 n.1 x12 x14 ) (fun t3_16 => some t3_16))))))
set_option maxHeartbeats 8000000 in
set_option maxRecDepth 100000 in
theorem cX12_nextOf_ok (l : Launch) (D : va_G) (cI cJ : ClassId) (ad : Nat → Nat) (n : Nat × Nat) (S : MS) (a1 : Int32) {r : Int32} (h : fX12_nextOf n S a1 = some r) : Mi l yX12_nextOf wsX12_nextOf (cRm 1 23 0 0) D cI cJ ad [.int a1] S (fun r1 u => r1 = r ∧ u = S) := by
  refine Mi_of (cc := cX12_nextOf) (nL := 5) (ret := (some .int)) (by decide) rfl rfl (Nat.le_of_ble_eq_true rfl) ?_
  intro p e s m args below meth c A hx hb hr hlocks hml hts hown hA hK hP hD hS ls hl
  have hw : mWd D cI cJ ad A s.heap S s.heap [] := ⟨hP, hD, hS⟩
  unfold fX12_nextOf at h
  have hin : ∀ w ∈ wsX120, w ∈ wsX12_nextOf := fun w h => List.mem_cons_of_mem _ (List.mem_append_right _ h)
  have hl : lv_has ls 5 [(0, .ref (ad 0)), (1, .int a1)] := hl
  refine lv_aload_n hx hb dX12_nextOf_0 rfl (lv_at hl 0 rfl) ?_
  refine N_get hx hb hts hin hown hK hw 2 (by decide) rfl (index := 189) (by decide +kernel) rfl dX12_nextOf_1 ?_
  refine lv_topi (fun v1 ev1 => ?_)
  have h := of_bnd h ev1
  refine lv_aload_n hx hb dX12_nextOf_4 rfl (lv_at hl 0 rfl) ?_
  refine lv_iload_n hx hb dX12_nextOf_5 rfl (lv_at hl 1 rfl) ?_
  obtain ⟨q6, hq6, h⟩ := of_cal h
  refine N_calli (av := [.int a1]) (rest := [.int v1]) ⟨hx, hb, hml, hown, hts⟩ hA hK hw (cX12_sparedOf_ok l D cI cJ ad n S a1 hq6) (cwV 1 hts gX12_nextOf_X12_sparedOf rfl rfl rfl (by decide +kernel) ⟨Nat.le_of_ble_eq_true rfl, Nat.le_of_ble_eq_true rfl⟩) rfl hl.1 rfl (Nat.le_of_ble_eq_true rfl) dX12_nextOf_6 ⟨Nat.le_refl _, Nat.le_refl _⟩ (fun H locs hw => ?_)
  refine lv_iadd hx hb dX12_nextOf_9 ?_
  refine lv_topi (fun x10 ex10 => ?_)
  have h := of_bnd h ex10
  refine lv_istore_n (lv' := [(2, .int x10), (0, .ref (ad 0)), (1, .int a1)]) hx hb dX12_nextOf_10 rfl hl (by decide) rfl (fun ls hl => ?_)
  refine lv_iconst (v := -1) hx hb dX12_nextOf_11 (by decide) ?_
  refine lv_topi (fun x12 ex12 => ?_)
  have h := of_bnd h ex12
  refine lv_istore_n (lv' := [(3, .int x12), (2, .int x10), (0, .ref (ad 0)), (1, .int a1)]) hx hb dX12_nextOf_12 rfl hl (by decide) rfl (fun ls hl => ?_)
  refine lv_iconst (v := 0) hx hb dX12_nextOf_13 (by decide) ?_
  refine lv_topi (fun x14 ex14 => ?_)
  have h := of_bnd h ex14
  refine lv_istore (lv' := [(4, .int x14), (3, .int x12), (2, .int x10), (0, .ref (ad 0)), (1, .int a1)]) hx hb dX12_nextOf_14 hl (by decide) rfl (fun ls hl => ?_)
  have lp16 : ∀ (f1 : Int32) (f2 : Int32) (S : MS) (k : Nat) (l3 : Int32) (l4 : Int32) (q : Int32) , fX12_nextOf_lp16 n S f1 f2 k l3 l4  = some q → ∀ (H : Heap) (locs : List Loc), mWd D cI cJ ad A s.heap S H locs → ∀ ls : Array Slot, lv_has ls 5 [(0, .ref (ad 0)), (1, .int f1), (2, .int f2), (3, .int l3), (4, .int l4)] → (∀ (t3 : Int32), t3 = q → ∀ (H : Heap) (locs : List Loc), mWd D cI cJ ad A s.heap S H locs → ∀ ls : Array Slot, lv_has ls 5 [(3, .int t3)] → W p l e (cRm 1 23 0 0) s m args below meth c H locs (0) (0) (MQ below (va_Qi (fun x u => x = r ∧ u = S) (mAft D cI cJ ad A) A) args s 0 0 A) (F0 m 86 ls [])) → W p l e (cRm 1 23 0 0) s m args below meth c H locs (0) (0) (MQ below (va_Qi (fun x u => x = r ∧ u = S) (mAft D cI cJ ad A) A) args s 0 0 A) (F0 m 16 ls []) := by
    intro f1 f2 S k
    induction k with
    | zero => intro l3 l4 q h; rw [fX12_nextOf_lp16] at h; cases h
    | succ k ih16 =>
      intro l3 l4 q h H locs hw ls hl kx16_0
      rw [fX12_nextOf_lp16] at h
      refine lv_iload hx hb dX12_nextOf_16 (lv_at hl 4 rfl) ?_
      refine lv_aload_n hx hb dX12_nextOf_18 rfl (lv_at hl 0 rfl) ?_
      refine N_get hx hb hts hin hown hK hw 4 (by decide) rfl (index := 168) (by decide +kernel) rfl dX12_nextOf_19 ?_
      refine lv_topi (fun v19 ev19 => ?_)
      have h := of_bnd h ev19
      refine lv_icmp_ge (tgt := 86) hx hb dX12_nextOf_22 (by decide) (fun c22 => ?_) (fun c22 => ?_)
      · have h := of_it h c22
        exact kx16_0 l3 (Option.some.inj h) _ _ hw ls (lv_sub hl [3] rfl)
      · have h := of_if h c22
        refine lv_aload_n hx hb dX12_nextOf_25 rfl (lv_at hl 0 rfl) ?_
        refine N_get hx hb hts hin hown hK hw 5 (by decide) rfl (index := 13) (by decide +kernel) rfl dX12_nextOf_26 ?_
        refine lv_iload hx hb dX12_nextOf_29 (lv_at hl 4 rfl) ?_
        obtain ⟨hi31, h⟩ := of_grd h
        refine va_iald hx hb hK hw.1 2 0 rfl rfl hi31 dX12_nextOf_31 ?_
        refine lv_topi (fun v31 ev31 => ?_)
        have h := of_bnd h ev31
        refine lv_iload_n hx hb dX12_nextOf_32 rfl (lv_at hl 1 rfl) ?_
        refine lv_icmp_ne (tgt := 80) hx hb dX12_nextOf_33 (by decide) (fun c33 => ?_) (fun c33 => ?_)
        · have h := of_if h c33
          obtain ⟨x80, ex80⟩ : ∃ y : Int32, y = l4 + 1 := ⟨_, rfl⟩
          have h := of_bnd h ex80
          refine lv_iinc (v := x80) (lv' := [(4, .int x80), (0, .ref (ad 0)), (1, .int f1), (2, .int f2), (3, .int l3)]) hx hb dX12_nextOf_80 hl (k := 4) rfl (by rw [ex80]; rfl) (by decide) rfl (fun ls hl => ?_)
          refine lv_goto (tgt := 16) hx hb dX12_nextOf_83 (by decide) ?_
          exact ih16 l3 x80 _ h _ _ hw ls (lv_sub hl [1, 2, 3, 4, 0] rfl) kx16_0
        · have h := of_it h c33
          refine lv_aload_n hx hb dX12_nextOf_36 rfl (lv_at hl 0 rfl) ?_
          refine N_get hx hb hts hin hown hK hw 9 (by decide) rfl (index := 25) (by decide +kernel) rfl dX12_nextOf_37 ?_
          refine lv_iload hx hb dX12_nextOf_40 (lv_at hl 4 rfl) ?_
          obtain ⟨hi42, h⟩ := of_grd h
          refine va_iald hx hb hK hw.1 6 0 rfl rfl hi42 dX12_nextOf_42 ?_
          refine lv_topi (fun v42 ev42 => ?_)
          have h := of_bnd h ev42
          refine lv_if_le (tgt := 80) hx hb dX12_nextOf_43 (by decide) (fun c43 => ?_) (fun c43 => ?_)
          · have h := of_it h c43
            obtain ⟨x80, ex80⟩ : ∃ y : Int32, y = l4 + 1 := ⟨_, rfl⟩
            have h := of_bnd h ex80
            refine lv_iinc (v := x80) (lv' := [(4, .int x80), (0, .ref (ad 0)), (1, .int f1), (2, .int f2), (3, .int l3)]) hx hb dX12_nextOf_80 hl (k := 4) rfl (by rw [ex80]; rfl) (by decide) rfl (fun ls hl => ?_)
            refine lv_goto (tgt := 16) hx hb dX12_nextOf_83 (by decide) ?_
            exact ih16 l3 x80 _ h _ _ hw ls (lv_sub hl [1, 2, 3, 4, 0] rfl) kx16_0
          · have h := of_if h c43
            refine lv_aload_n hx hb dX12_nextOf_46 rfl (lv_at hl 0 rfl) ?_
            refine N_get hx hb hts hin hown hK hw 7 (by decide) rfl (index := 19) (by decide +kernel) rfl dX12_nextOf_47 ?_
            refine lv_iload hx hb dX12_nextOf_50 (lv_at hl 4 rfl) ?_
            obtain ⟨hi52, h⟩ := of_grd h
            refine va_iald hx hb hK hw.1 4 0 rfl rfl hi52 dX12_nextOf_52 ?_
            refine lv_topi (fun v52 ev52 => ?_)
            have h := of_bnd h ev52
            refine lv_iload_n hx hb dX12_nextOf_53 rfl (lv_at hl 2 rfl) ?_
            refine lv_icmp_lt (tgt := 80) hx hb dX12_nextOf_54 (by decide) (fun c54 => ?_) (fun c54 => ?_)
            · have h := of_it h c54
              obtain ⟨x80, ex80⟩ : ∃ y : Int32, y = l4 + 1 := ⟨_, rfl⟩
              have h := of_bnd h ex80
              refine lv_iinc (v := x80) (lv' := [(4, .int x80), (0, .ref (ad 0)), (1, .int f1), (2, .int f2), (3, .int l3)]) hx hb dX12_nextOf_80 hl (k := 4) rfl (by rw [ex80]; rfl) (by decide) rfl (fun ls hl => ?_)
              refine lv_goto (tgt := 16) hx hb dX12_nextOf_83 (by decide) ?_
              exact ih16 l3 x80 _ h _ _ hw ls (lv_sub hl [1, 2, 3, 4, 0] rfl) kx16_0
            · have h := of_if h c54
              refine lv_iload_n hx hb dX12_nextOf_57 rfl (lv_at hl 3 rfl) ?_
              refine lv_if_lt (tgt := 77) hx hb dX12_nextOf_58 (by decide) (fun c58 => ?_) (fun c58 => ?_)
              · have h := of_it h c58
                refine lv_iload hx hb dX12_nextOf_77 (lv_at hl 4 rfl) ?_
                refine lv_istore_n (lv' := [(3, .int l4), (0, .ref (ad 0)), (1, .int f1), (2, .int f2), (4, .int l4)]) hx hb dX12_nextOf_79 rfl hl (by decide) rfl (fun ls hl => ?_)
                obtain ⟨x80, ex80⟩ : ∃ y : Int32, y = l4 + 1 := ⟨_, rfl⟩
                have h := of_bnd h ex80
                refine lv_iinc (v := x80) (lv' := [(4, .int x80), (3, .int l4), (0, .ref (ad 0)), (1, .int f1), (2, .int f2)]) hx hb dX12_nextOf_80 hl (k := 4) rfl (by rw [ex80]; rfl) (by decide) rfl (fun ls hl => ?_)
                refine lv_goto (tgt := 16) hx hb dX12_nextOf_83 (by decide) ?_
                exact ih16 l4 x80 _ h _ _ hw ls (lv_sub hl [2, 3, 4, 1, 0] rfl) kx16_0
              · have h := of_if h c58
                refine lv_aload_n hx hb dX12_nextOf_61 rfl (lv_at hl 0 rfl) ?_
                refine N_get hx hb hts hin hown hK hw 7 (by decide) rfl (index := 19) (by decide +kernel) rfl dX12_nextOf_62 ?_
                refine lv_iload hx hb dX12_nextOf_65 (lv_at hl 4 rfl) ?_
                obtain ⟨hi67, h⟩ := of_grd h
                refine va_iald hx hb hK hw.1 4 0 rfl rfl hi67 dX12_nextOf_67 ?_
                refine lv_topi (fun v67 ev67 => ?_)
                have h := of_bnd h ev67
                refine lv_aload_n hx hb dX12_nextOf_68 rfl (lv_at hl 0 rfl) ?_
                refine N_get hx hb hts hin hown hK hw 7 (by decide) rfl (index := 19) (by decide +kernel) rfl dX12_nextOf_69 ?_
                refine lv_iload_n hx hb dX12_nextOf_72 rfl (lv_at hl 3 rfl) ?_
                obtain ⟨hi73, h⟩ := of_grd h
                refine va_iald hx hb hK hw.1 4 0 rfl rfl hi73 dX12_nextOf_73 ?_
                refine lv_topi (fun v73 ev73 => ?_)
                have h := of_bnd h ev73
                refine lv_icmp_ge (tgt := 80) hx hb dX12_nextOf_74 (by decide) (fun c74 => ?_) (fun c74 => ?_)
                · have h := of_it h c74
                  obtain ⟨x80, ex80⟩ : ∃ y : Int32, y = l4 + 1 := ⟨_, rfl⟩
                  have h := of_bnd h ex80
                  refine lv_iinc (v := x80) (lv' := [(4, .int x80), (0, .ref (ad 0)), (1, .int f1), (2, .int f2), (3, .int l3)]) hx hb dX12_nextOf_80 hl (k := 4) rfl (by rw [ex80]; rfl) (by decide) rfl (fun ls hl => ?_)
                  refine lv_goto (tgt := 16) hx hb dX12_nextOf_83 (by decide) ?_
                  exact ih16 l3 x80 _ h _ _ hw ls (lv_sub hl [1, 2, 3, 4, 0] rfl) kx16_0
                · have h := of_if h c74
                  refine lv_iload hx hb dX12_nextOf_77 (lv_at hl 4 rfl) ?_
                  refine lv_istore_n (lv' := [(3, .int l4), (0, .ref (ad 0)), (1, .int f1), (2, .int f2), (4, .int l4)]) hx hb dX12_nextOf_79 rfl hl (by decide) rfl (fun ls hl => ?_)
                  obtain ⟨x80, ex80⟩ : ∃ y : Int32, y = l4 + 1 := ⟨_, rfl⟩
                  have h := of_bnd h ex80
                  refine lv_iinc (v := x80) (lv' := [(4, .int x80), (3, .int l4), (0, .ref (ad 0)), (1, .int f1), (2, .int f2)]) hx hb dX12_nextOf_80 hl (k := 4) rfl (by rw [ex80]; rfl) (by decide) rfl (fun ls hl => ?_)
                  refine lv_goto (tgt := 16) hx hb dX12_nextOf_83 (by decide) ?_
                  exact ih16 l4 x80 _ h _ _ hw ls (lv_sub hl [2, 3, 4, 1, 0] rfl) kx16_0
  obtain ⟨q16, hq16, h⟩ := of_cal h
  refine lp16 a1 x10 S n.1 x12 x14 q16  hq16 _ _ hw ls (lv_sub hl [3, 4, 2, 1, 0] rfl) ?_
  · intro t3_16 eq H locs hw ls hl
    subst eq
    refine lv_iload_n hx hb dX12_nextOf_86 rfl (lv_at hl 0 rfl) ?_
    obtain rfl := Option.some.inj h
    exact M_iret hx hb hr hlocks hK hw.1 hw.2.1 hw.2.2 dX12_nextOf_87 ⟨rfl, rfl⟩

def fX12_isBarred (n : Nat × Nat) (S : MS) (a1 : Int32) (a2 : Int32) : Option Int32 :=
  grd (¬ (a2 < 0 ∨ 10 ≤ a2.toNatClampNeg)) (bnd (mA S 3 a2.toNatClampNeg) (fun v5 => grd (¬ (a1 < 0 ∨ 40 ≤ a1.toNatClampNeg)) (bnd (mA S 19 a1.toNatClampNeg) (fun v11 => if (v5 &&& v11) = 0 then 
    some (0 : Int32)
    else some (1 : Int32)))))
set_option maxHeartbeats 8000000 in
set_option maxRecDepth 100000 in
theorem cX12_isBarred_ok (l : Launch) (D : va_G) (cI cJ : ClassId) (ad : Nat → Nat) (n : Nat × Nat) (S : MS) (a1 : Int32) (a2 : Int32) {r : Int32} (h : fX12_isBarred n S a1 a2 = some r) : Mi l yX12_isBarred wsX12_isBarred (cRm 0 0 0 0) D cI cJ ad [.int a1, .int a2] S (fun r1 u => r1 = r ∧ u = S) := by
  refine Mi_of (cc := cX12_isBarred) (nL := 3) (ret := (some .boolean)) (by decide) rfl rfl (Nat.le_of_ble_eq_true rfl) ?_
  intro p e s m args below meth c A hx hb hr hlocks hml hts hown hA hK hP hD hS ls hl
  have hw : mWd D cI cJ ad A s.heap S s.heap [] := ⟨hP, hD, hS⟩
  unfold fX12_isBarred at h
  have hin : ∀ w ∈ wsX120, w ∈ wsX12_isBarred := fun w h => List.mem_cons_of_mem _ (List.mem_append_right _ h)
  have hl : lv_has ls 3 [(0, .ref (ad 0)), (1, .int a1), (2, .int a2)] := hl
  refine lv_aload_n hx hb dX12_isBarred_0 rfl (lv_at hl 0 rfl) ?_
  refine N_get hx hb hts hin hown hK hw 3 (by decide) rfl (index := 7) (by decide +kernel) rfl dX12_isBarred_1 ?_
  refine lv_iload_n hx hb dX12_isBarred_4 rfl (lv_at hl 2 rfl) ?_
  obtain ⟨hi5, h⟩ := of_grd h
  refine va_iald hx hb hK hw.1 1 0 rfl rfl hi5 dX12_isBarred_5 ?_
  refine lv_topi (fun v5 ev5 => ?_)
  have h := of_bnd h ev5
  refine lv_aload_n hx hb dX12_isBarred_6 rfl (lv_at hl 0 rfl) ?_
  refine N_get hx hb hts hin hown hK hw 19 (by decide) rfl (index := 50) (by decide +kernel) rfl dX12_isBarred_7 ?_
  refine lv_iload_n hx hb dX12_isBarred_10 rfl (lv_at hl 1 rfl) ?_
  obtain ⟨hi11, h⟩ := of_grd h
  refine va_iald hx hb hK hw.1 14 0 rfl rfl hi11 dX12_isBarred_11 ?_
  refine lv_topi (fun v11 ev11 => ?_)
  have h := of_bnd h ev11
  refine lv_iand hx hb dX12_isBarred_12 ?_
  refine lv_if_eq (tgt := 20) hx hb dX12_isBarred_13 (by decide) (fun c13 => ?_) (fun c13 => ?_)
  · have h := of_it h c13
    refine lv_iconst (v := 0) hx hb dX12_isBarred_20 (by decide) ?_
    obtain rfl := Option.some.inj h
    exact M_zret hx hb hr hlocks hK hw.1 hw.2.1 hw.2.2 dX12_isBarred_21 (by first | rfl | decide) ⟨rfl, rfl⟩
  · have h := of_if h c13
    refine lv_iconst (v := 1) hx hb dX12_isBarred_16 (by decide) ?_
    refine lv_goto (tgt := 21) hx hb dX12_isBarred_17 (by decide) ?_
    obtain rfl := Option.some.inj h
    exact M_zret hx hb hr hlocks hK hw.1 hw.2.1 hw.2.2 dX12_isBarred_21 (by first | rfl | decide) ⟨rfl, rfl⟩
