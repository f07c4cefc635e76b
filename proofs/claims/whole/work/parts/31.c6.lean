def fX11_findTable (n : Nat × Nat) (S : CS) (a0 : Nat) (a1 : Int32) : Option (Option Nat) :=
  grd (cD S a0 = 12) (onn (cR S 242 a0) (fun b3 => grd (cD S b3 = 21) (cal (fL_size n 1 S b3) (fun q6 => bnd (fX11_isWithin a1 (0 : Int32) (q6 - (1 : Int32))) (fun r11 => if r11 = 0 then 
    some none
    else onn (cR S 242 a0) (fun b18 => grd (cD S b18 = 21) (cal (fL_get n 1 S b18 a1) (fun q22 => onn q22 (fun b25 => grd (cD S b25 = 9) (some (some b25)))))))))))
set_option maxHeartbeats 8000000 in
set_option maxRecDepth 100000 in
theorem cX11_findTable_ok (l : Launch) (D : va_G) (cc : Nat → ClassId) (E : Nat → Nat) (n : Nat × Nat) (S : CS) (a0 : Nat) (a1 : Int32) {r : Option Nat} (h : fX11_findTable n S a0 a1 = some r) : Cq l yX11_findTable wsX11_findTable 3 64 D cc E [.ref a0, .int a1] S r S 0 0 := by
  refine C_of (own := RX11) (bb := cX11_findTable) (nL := 2) (ret := (some (.object "FoodShares$Table"))) (by decide) rfl rfl (Nat.le_of_ble_eq_true rfl) ?_
  intro p e s m args below meth c hx hb hr hlocks hml hts hown hnm hA hK hro hw ls hl
  generalize va_A (cPs cc S) (nx S) = A at hA hro hw ⊢
  unfold fX11_findTable at h
  have hinX11 : ∀ w ∈ wsX110, w ∈ wsX11_findTable := by decide +kernel
  have hl : lv_has ls 2 [(0, .ref a0), (1, .int a1)] := hl
  refine lv_iload_n hx hb dX11_findTable_0 rfl (lv_at hl 1 rfl) ?_
  refine lv_iconst (v := 0) hx hb dX11_findTable_1 (by decide) ?_
  refine lv_aload_n hx hb dX11_findTable_2 rfl (lv_at hl 0 rfl) ?_
  obtain ⟨hf1, h⟩ := of_grd h
  obtain ⟨b3, eb3, h⟩ := of_onn h
  refine C_get hx hb hts hinX11 hown hK hw (cell_12 hf1) (by omega) rfl 2 (by decide) (index := 23) (by decide +kernel) rfl (v := .ref b3) (congrArg (fun o => some (va_rf o)) eb3) dX11_findTable_3 ?_
  obtain ⟨hf2, h⟩ := of_grd h
  obtain ⟨q6, hq6, h⟩ := of_cal h
  refine C_i hA hw (va_runV (As := []) (rest := [.int (0 : Int32), .int a1]) ⟨hx, hb, hml, hown, hts⟩ (cL_size_ok l D cc E n 1 (by decide) S b3 hq6) (cwV 0 hts gX11_findTable_Jx4a65c_size_8abf5 rfl rfl rfl (by decide +kernel) ⟨Nat.le_of_ble_eq_true rfl, Nat.le_of_ble_eq_true rfl⟩) ⟨cBlind D cc E S _, C_recv hK hw (by omega) (cell_L (r := 1) (by decide) hf2) (r := (RJx4a65c, TJx4a65c, 3)) rfl, fun U hU hW => ⟨rfl, C_pre hA hK hro hw U hU hW⟩⟩ rfl rfl hl.1 rfl (lv_room (Nat.le_of_ble_eq_true rfl)) dX11_findTable_6 ⟨Nat.le_refl _, Nat.le_refl _⟩) (fun H locs hw => ?_)
  refine W.widen (k := 0) (n := 0) (Nat.le_refl _) (Nat.le_refl _) ?_
  refine lv_iconst (v := 1) hx hb dX11_findTable_9 (by decide) ?_
  refine lv_isub hx hb dX11_findTable_10 ?_
  refine C_s (va_runS (As := [.int a1, .int (0 : Int32), .int (q6 - (1 : Int32))]) (rest := []) ⟨hx, hb, hml, hown, hts⟩ (cX11_isWithin_ok l a1 (0 : Int32) (q6 - (1 : Int32))) (va_cwS 3 hts gX11_findTable_X11_isWithin rfl rfl rfl (by decide +kernel) ⟨Nat.le_of_ble_eq_true rfl, Nat.le_of_ble_eq_true rfl⟩) ⟨fun a U g mk q => ⟨q.1, trivial⟩, fun U hU hW => ⟨rfl, trivial⟩⟩ rfl rfl hl.1 rfl (lv_room (Nat.le_of_ble_eq_true rfl)) dX11_findTable_11 ⟨Nat.le_refl _, Nat.le_refl _⟩) (fun r11 er11 => ?_)
  have h := of_bnd h er11
  refine lv_if_eq (tgt := 31) hx hb dX11_findTable_14 (by decide) (fun c14 => ?_) (fun c14 => ?_)
  · have h := of_it h c14
    refine lv_null hx hb dX11_findTable_31 ?_
    obtain rfl := Option.some.inj h
    exact C_aret hx hb hr hlocks (Or.inl ⟨_, rfl⟩) hw dX11_findTable_32
  · have h := of_if h c14
    refine lv_aload_n hx hb dX11_findTable_17 rfl (lv_at hl 0 rfl) ?_
    obtain ⟨b18, eb18, h⟩ := of_onn h
    refine C_get hx hb hts hinX11 hown hK hw (cell_12 hf1) (by omega) rfl 2 (by decide) (index := 23) (by decide +kernel) rfl (v := .ref b18) (congrArg (fun o => some (va_rf o)) eb18) dX11_findTable_18 ?_
    refine lv_iload_n hx hb dX11_findTable_21 rfl (lv_at hl 1 rfl) ?_
    obtain ⟨hf3, h⟩ := of_grd h
    obtain ⟨q22, hq22, h⟩ := of_cal h
    refine C_q hA hw (va_runV (As := [.int a1]) (rest := []) ⟨hx, hb, hml, hown, hts⟩ (cL_get_ok l D cc E n 1 (by decide) S b18 a1 hq22) (cwV 1 hts gX11_findTable_Jx4a65c_get_915e3 rfl rfl rfl (by decide +kernel) ⟨Nat.le_of_ble_eq_true rfl, Nat.le_of_ble_eq_true rfl⟩) ⟨cBlind D cc E S _, C_recv hK hw (by omega) (cell_L (r := 1) (by decide) hf3) (r := (RJx4a65c, TJx4a65c, 3)) rfl, fun U hU hW => ⟨rfl, C_pre hA hK hro hw U hU hW⟩⟩ rfl rfl hl.1 rfl (lv_room (Nat.le_of_ble_eq_true rfl)) dX11_findTable_22 ⟨Nat.le_refl _, Nat.le_refl _⟩) (fun H locs hw => ?_)
    refine W.widen (k := 0) (n := 0) (Nat.le_refl _) (Nat.le_refl _) ?_
    obtain ⟨b25, eb25, h⟩ := of_onn h
    subst eb25
    obtain ⟨hf4, h⟩ := of_grd h
    refine va_castE hx hb hown (hts (.classLink RX11 104 RX8) (by decide +kernel)) (C_recv hK hw (by omega) (cell_9 hf4) (r := (RX8, TX8, 3)) rfl) dX11_findTable_25 ?_
    refine lv_goto (tgt := 32) hx hb dX11_findTable_28 (by decide) ?_
    obtain rfl := Option.some.inj h
    exact C_aret hx hb hr hlocks (Or.inl ⟨_, rfl⟩) hw dX11_findTable_32

def fX11_findFamily (n : Nat × Nat) (S : CS) (a0 : Nat) (a1 : Int32) : Option (Option Nat) :=
  grd (cD S a0 = 12) (onn (cR S 243 a0) (fun b3 => grd (cD S b3 = 22) (cal (fL_size n 2 S b3) (fun q6 => bnd (fX11_isWithin a1 (0 : Int32) (q6 - (1 : Int32))) (fun r11 => if r11 = 0 then 
    some none
    else onn (cR S 243 a0) (fun b18 => grd (cD S b18 = 22) (cal (fL_get n 2 S b18 a1) (fun q22 => onn q22 (fun b25 => grd (cD S b25 = 1) (some (some b25)))))))))))
set_option maxHeartbeats 8000000 in
set_option maxRecDepth 100000 in
theorem cX11_findFamily_ok (l : Launch) (D : va_G) (cc : Nat → ClassId) (E : Nat → Nat) (n : Nat × Nat) (S : CS) (a0 : Nat) (a1 : Int32) {r : Option Nat} (h : fX11_findFamily n S a0 a1 = some r) : Cq l yX11_findFamily wsX11_findFamily 3 64 D cc E [.ref a0, .int a1] S r S 0 0 := by
  refine C_of (own := RX11) (bb := cX11_findFamily) (nL := 2) (ret := (some (.object "FoodShares$Family"))) (by decide) rfl rfl (Nat.le_of_ble_eq_true rfl) ?_
  intro p e s m args below meth c hx hb hr hlocks hml hts hown hnm hA hK hro hw ls hl
  generalize va_A (cPs cc S) (nx S) = A at hA hro hw ⊢
  unfold fX11_findFamily at h
  have hinX11 : ∀ w ∈ wsX110, w ∈ wsX11_findFamily := by decide +kernel
  have hl : lv_has ls 2 [(0, .ref a0), (1, .int a1)] := hl
  refine lv_iload_n hx hb dX11_findFamily_0 rfl (lv_at hl 1 rfl) ?_
  refine lv_iconst (v := 0) hx hb dX11_findFamily_1 (by decide) ?_
  refine lv_aload_n hx hb dX11_findFamily_2 rfl (lv_at hl 0 rfl) ?_
  obtain ⟨hf1, h⟩ := of_grd h
  obtain ⟨b3, eb3, h⟩ := of_onn h
  refine C_get hx hb hts hinX11 hown hK hw (cell_12 hf1) (by omega) rfl 3 (by decide) (index := 27) (by decide +kernel) rfl (v := .ref b3) (congrArg (fun o => some (va_rf o)) eb3) dX11_findFamily_3 ?_
  obtain ⟨hf2, h⟩ := of_grd h
  obtain ⟨q6, hq6, h⟩ := of_cal h
  refine C_i hA hw (va_runV (As := []) (rest := [.int (0 : Int32), .int a1]) ⟨hx, hb, hml, hown, hts⟩ (cL_size_ok l D cc E n 2 (by decide) S b3 hq6) (cwV 0 hts gX11_findFamily_Jx4a65c_size_8abf5 rfl rfl rfl (by decide +kernel) ⟨Nat.le_of_ble_eq_true rfl, Nat.le_of_ble_eq_true rfl⟩) ⟨cBlind D cc E S _, C_recv hK hw (by omega) (cell_L (r := 2) (by decide) hf2) (r := (RJx4a65c, TJx4a65c, 3)) rfl, fun U hU hW => ⟨rfl, C_pre hA hK hro hw U hU hW⟩⟩ rfl rfl hl.1 rfl (lv_room (Nat.le_of_ble_eq_true rfl)) dX11_findFamily_6 ⟨Nat.le_refl _, Nat.le_refl _⟩) (fun H locs hw => ?_)
  refine W.widen (k := 0) (n := 0) (Nat.le_refl _) (Nat.le_refl _) ?_
  refine lv_iconst (v := 1) hx hb dX11_findFamily_9 (by decide) ?_
  refine lv_isub hx hb dX11_findFamily_10 ?_
  refine C_s (va_runS (As := [.int a1, .int (0 : Int32), .int (q6 - (1 : Int32))]) (rest := []) ⟨hx, hb, hml, hown, hts⟩ (cX11_isWithin_ok l a1 (0 : Int32) (q6 - (1 : Int32))) (va_cwS 3 hts gX11_findFamily_X11_isWithin rfl rfl rfl (by decide +kernel) ⟨Nat.le_of_ble_eq_true rfl, Nat.le_of_ble_eq_true rfl⟩) ⟨fun a U g mk q => ⟨q.1, trivial⟩, fun U hU hW => ⟨rfl, trivial⟩⟩ rfl rfl hl.1 rfl (lv_room (Nat.le_of_ble_eq_true rfl)) dX11_findFamily_11 ⟨Nat.le_refl _, Nat.le_refl _⟩) (fun r11 er11 => ?_)
  have h := of_bnd h er11
  refine lv_if_eq (tgt := 31) hx hb dX11_findFamily_14 (by decide) (fun c14 => ?_) (fun c14 => ?_)
  · have h := of_it h c14
    refine lv_null hx hb dX11_findFamily_31 ?_
    obtain rfl := Option.some.inj h
    exact C_aret hx hb hr hlocks (Or.inl ⟨_, rfl⟩) hw dX11_findFamily_32
  · have h := of_if h c14
    refine lv_aload_n hx hb dX11_findFamily_17 rfl (lv_at hl 0 rfl) ?_
    obtain ⟨b18, eb18, h⟩ := of_onn h
    refine C_get hx hb hts hinX11 hown hK hw (cell_12 hf1) (by omega) rfl 3 (by decide) (index := 27) (by decide +kernel) rfl (v := .ref b18) (congrArg (fun o => some (va_rf o)) eb18) dX11_findFamily_18 ?_
    refine lv_iload_n hx hb dX11_findFamily_21 rfl (lv_at hl 1 rfl) ?_
    obtain ⟨hf3, h⟩ := of_grd h
    obtain ⟨q22, hq22, h⟩ := of_cal h
    refine C_q hA hw (va_runV (As := [.int a1]) (rest := []) ⟨hx, hb, hml, hown, hts⟩ (cL_get_ok l D cc E n 2 (by decide) S b18 a1 hq22) (cwV 1 hts gX11_findFamily_Jx4a65c_get_915e3 rfl rfl rfl (by decide +kernel) ⟨Nat.le_of_ble_eq_true rfl, Nat.le_of_ble_eq_true rfl⟩) ⟨cBlind D cc E S _, C_recv hK hw (by omega) (cell_L (r := 2) (by decide) hf3) (r := (RJx4a65c, TJx4a65c, 3)) rfl, fun U hU hW => ⟨rfl, C_pre hA hK hro hw U hU hW⟩⟩ rfl rfl hl.1 rfl (lv_room (Nat.le_of_ble_eq_true rfl)) dX11_findFamily_22 ⟨Nat.le_refl _, Nat.le_refl _⟩) (fun H locs hw => ?_)
    refine W.widen (k := 0) (n := 0) (Nat.le_refl _) (Nat.le_refl _) ?_
    obtain ⟨b25, eb25, h⟩ := of_onn h
    subst eb25
    obtain ⟨hf4, h⟩ := of_grd h
    refine va_castE hx hb hown (hts (.classLink RX11 114 RX0) (by decide +kernel)) (C_recv hK hw (by omega) (cell_1 hf4) (r := (RX0, TX0, 4)) rfl) dX11_findFamily_25 ?_
    refine lv_goto (tgt := 32) hx hb dX11_findFamily_28 (by decide) ?_
    obtain rfl := Option.some.inj h
    exact C_aret hx hb hr hlocks (Or.inl ⟨_, rfl⟩) hw dX11_findFamily_32

def fX11_earliestLastDay (n : Nat × Nat) (S : CS) (a0 : Nat) (a1 : Int32) : Option Int32 :=
  grd (cD S a0 = 12) (bnd (cI S 248 a0) (fun v1 => onn (cR S 247 a0) (fun b5 => grd (cD S b5 = 7) (cal (fX6_daysSpared n S b5 a1) (fun q9 => some (v1 + q9))))))
set_option maxHeartbeats 8000000 in
set_option maxRecDepth 100000 in
theorem cX11_earliestLastDay_ok (l : Launch) (D : va_G) (cc : Nat → ClassId) (E : Nat → Nat) (n : Nat × Nat) (S : CS) (a0 : Nat) (a1 : Int32) {r : Int32} (h : fX11_earliestLastDay n S a0 a1 = some r) : Ci l yX11_earliestLastDay wsX11_earliestLastDay 3 68 D cc E [.ref a0, .int a1] S r S 0 0 := by
  refine C_of (own := RX11) (bb := cX11_earliestLastDay) (nL := 2) (ret := (some .int)) (by decide) rfl rfl (Nat.le_of_ble_eq_true rfl) ?_
  intro p e s m args below meth c hx hb hr hlocks hml hts hown hnm hA hK hro hw ls hl
  generalize va_A (cPs cc S) (nx S) = A at hA hro hw ⊢
  unfold fX11_earliestLastDay at h
  have hinX11 : ∀ w ∈ wsX110, w ∈ wsX11_earliestLastDay := by decide +kernel
  have hl : lv_has ls 2 [(0, .ref a0), (1, .int a1)] := hl
  refine lv_aload_n hx hb dX11_earliestLastDay_0 rfl (lv_at hl 0 rfl) ?_
  obtain ⟨hf1, h⟩ := of_grd h
  refine C_get hx hb hts hinX11 hown hK hw (cell_12 hf1) (by omega) rfl 8 (by decide) (index := 54) (by decide +kernel) rfl rfl dX11_earliestLastDay_1 ?_
  refine lv_topi (fun v1 ev1 => ?_)
  have h := of_bnd h ev1
  refine lv_aload_n hx hb dX11_earliestLastDay_4 rfl (lv_at hl 0 rfl) ?_
  obtain ⟨b5, eb5, h⟩ := of_onn h
  refine C_get hx hb hts hinX11 hown hK hw (cell_12 hf1) (by omega) rfl 7 (by decide) (index := 50) (by decide +kernel) rfl (v := .ref b5) (congrArg (fun o => some (va_rf o)) eb5) dX11_earliestLastDay_5 ?_
  refine lv_iload_n hx hb dX11_earliestLastDay_8 rfl (lv_at hl 1 rfl) ?_
  obtain ⟨hf2, h⟩ := of_grd h
  obtain ⟨q9, hq9, h⟩ := of_cal h
  refine C_i hA hw (va_runV (As := [.int a1]) (rest := [.int v1]) ⟨hx, hb, hml, hown, hts⟩ (cX6_daysSpared_ok l D cc E n S b5 a1 hq9) (cwV 1 hts gX11_earliestLastDay_X6_daysSpared rfl rfl rfl (by decide +kernel) ⟨Nat.le_of_ble_eq_true rfl, Nat.le_of_ble_eq_true rfl⟩) ⟨cBlind D cc E S _, C_recv hK hw (by omega) (cell_7 hf2) (r := (RX6, TX6, 5)) rfl, fun U hU hW => ⟨rfl, C_pre hA hK hro hw U hU hW⟩⟩ rfl rfl hl.1 rfl (lv_room (Nat.le_of_ble_eq_true rfl)) dX11_earliestLastDay_9 ⟨Nat.le_refl _, Nat.le_refl _⟩) (fun H locs hw => ?_)
  refine W.widen (k := 0) (n := 0) (Nat.le_refl _) (Nat.le_refl _) ?_
  refine lv_iadd hx hb dX11_earliestLastDay_12 ?_
  obtain rfl := Option.some.inj h
  exact C_iret hx hb hr hlocks hw (by rfl) dX11_earliestLastDay_13

def fX11_contents (n : Nat × Nat) (S : CS) (a0 : Nat) (a1 : Int32) (a2 : Int32) : Option (Int32 × CS) :=
  bnd (fX11_isKind a1) (fun r1 => if r1 = 0 then 
    grd (cD S a0 = 12) (cal (fX11_refuse n S a0 (-1 : Int32)) (un2 fun r20 S20 => some (r20, S20)))
    else bnd (fX11_isWithin a2 (0 : Int32) (255 : Int32)) (fun r12 => if r12 = 0 then 
      grd (cD S a0 = 12) (cal (fX11_refuse n S a0 (-1 : Int32)) (un2 fun r20 S20 => some (r20, S20)))
      else grd (cD S a0 = 12) (onn (cR S 240 a0) (fun b25 => grd (cD S b25 = 40) (grd (¬ (a1 < 0 ∨ cN S b25 ≤ a1.toNatClampNeg)) (bnd (uA S 40 b25 a1.toNatClampNeg a2) (fun S30 => cal (fX11_accept n S30 a0 (0 : Int32)) (un2 fun r33 S33 => some (r33, S33)))))))))
set_option maxHeartbeats 8000000 in
set_option maxRecDepth 100000 in
theorem cX11_contents_ok (l : Launch) (D : va_G) (cc : Nat → ClassId) (E : Nat → Nat) (n : Nat × Nat) (S : CS) (a0 : Nat) (a1 : Int32) (a2 : Int32) {r : Int32} {T : CS} (h : fX11_contents n S a0 a1 a2 = some (r, T)) : Ci l yX11_contents wsX11_contents 2 42 D cc E [.ref a0, .int a1, .int a2] S r T 0 0 := by
  refine C_of (own := RX11) (bb := cX11_contents) (nL := 3) (ret := (some .int)) (by decide) rfl rfl (Nat.le_of_ble_eq_true rfl) ?_
  intro p e s m args below meth c hx hb hr hlocks hml hts hown hnm hA hK hro hw ls hl
  generalize va_A (cPs cc S) (nx S) = A at hA hro hw ⊢
  unfold fX11_contents at h
  have hinX11 : ∀ w ∈ wsX110, w ∈ wsX11_contents := by decide +kernel
  have hl : lv_has ls 3 [(0, .ref a0), (1, .int a1), (2, .int a2)] := hl
  refine lv_iload_n hx hb dX11_contents_0 rfl (lv_at hl 1 rfl) ?_
  refine C_s (va_runS (As := [.int a1]) (rest := []) ⟨hx, hb, hml, hown, hts⟩ (cX11_isKind_ok l a1) (va_cwS 1 hts gX11_contents_X11_isKind rfl rfl rfl (by decide +kernel) ⟨Nat.le_of_ble_eq_true rfl, Nat.le_of_ble_eq_true rfl⟩) ⟨fun a U g mk q => ⟨q.1, trivial⟩, fun U hU hW => ⟨rfl, trivial⟩⟩ rfl rfl hl.1 rfl (lv_room (Nat.le_of_ble_eq_true rfl)) dX11_contents_1 ⟨Nat.le_refl _, Nat.le_refl _⟩) (fun r1 er1 => ?_)
  have h := of_bnd h er1
  refine lv_if_eq (tgt := 18) hx hb dX11_contents_4 (by decide) (fun c4 => ?_) (fun c4 => ?_)
  · have h := of_it h c4
    refine lv_aload_n hx hb dX11_contents_18 rfl (lv_at hl 0 rfl) ?_
    refine lv_iconst (v := -1) hx hb dX11_contents_19 (by decide) ?_
    obtain ⟨hf1, h⟩ := of_grd h
    obtain ⟨q20, hq20, h⟩ := of_cal h
    obtain ⟨r20, S20⟩ := q20
    have h := of_un2 h
    refine C_i hA hw (va_runV (As := [.int (-1 : Int32)]) (rest := []) ⟨hx, hb, hml, hown, hts⟩ (cX11_refuse_ok l D cc E n S a0 (-1 : Int32) hq20) (cwV 1 hts gX11_contents_X11_refuse rfl rfl rfl (by decide +kernel) ⟨Nat.le_of_ble_eq_true rfl, Nat.le_of_ble_eq_true rfl⟩) ⟨cBlind D cc E S _, C_recv hK hw (by omega) (cell_12 hf1) (r := (RX11, TX11, 12)) rfl, fun U hU hW => ⟨rfl, C_pre hA hK hro hw U hU hW⟩⟩ rfl rfl hl.1 rfl (lv_room (Nat.le_of_ble_eq_true rfl)) dX11_contents_20 ⟨Nat.le_refl _, Nat.le_refl _⟩) (fun H locs hw => ?_)
    refine W.widen (k := 0) (n := 0) (Nat.le_refl _) (Nat.le_refl _) ?_
    obtain ⟨rfl, rfl⟩ := of_ret2 h
    exact C_iret hx hb hr hlocks hw (by rfl) dX11_contents_23
  · have h := of_if h c4
    refine lv_iload_n hx hb dX11_contents_7 rfl (lv_at hl 2 rfl) ?_
    refine lv_iconst (v := 0) hx hb dX11_contents_8 (by decide) ?_
    refine lv_sipush (v := 255) hx hb dX11_contents_9 (by decide) ?_
    refine C_s (va_runS (As := [.int a2, .int (0 : Int32), .int (255 : Int32)]) (rest := []) ⟨hx, hb, hml, hown, hts⟩ (cX11_isWithin_ok l a2 (0 : Int32) (255 : Int32)) (va_cwS 3 hts gX11_contents_X11_isWithin rfl rfl rfl (by decide +kernel) ⟨Nat.le_of_ble_eq_true rfl, Nat.le_of_ble_eq_true rfl⟩) ⟨fun a U g mk q => ⟨q.1, trivial⟩, fun U hU hW => ⟨rfl, trivial⟩⟩ rfl rfl hl.1 rfl (lv_room (Nat.le_of_ble_eq_true rfl)) dX11_contents_12 ⟨Nat.le_refl _, Nat.le_refl _⟩) (fun r12 er12 => ?_)
    have h := of_bnd h er12
    refine lv_if_ne (tgt := 24) hx hb dX11_contents_15 (by decide) (fun c15 => ?_) (fun c15 => ?_)
    · have h := of_if h c15
      refine lv_aload_n hx hb dX11_contents_24 rfl (lv_at hl 0 rfl) ?_
      obtain ⟨hf2, h⟩ := of_grd h
      obtain ⟨b25, eb25, h⟩ := of_onn h
      refine C_get hx hb hts hinX11 hown hK hw (cell_12 hf2) (by omega) rfl 0 (by decide) (index := 9) (by decide +kernel) rfl (v := .ref b25) (congrArg (fun o => some (va_rf o)) eb25) dX11_contents_25 ?_
      refine lv_iload_n hx hb dX11_contents_28 rfl (lv_at hl 1 rfl) ?_
      refine lv_iload_n hx hb dX11_contents_29 rfl (lv_at hl 2 rfl) ?_
      obtain ⟨hf3, h⟩ := of_grd h
      obtain ⟨hi30, h⟩ := of_grd h
      refine C_iast hx hb hK hw hf3 (by decide) (by decide) hi30 dX11_contents_30 (fun S30 H locs eS30 hw => ?_)
      have h := of_bnd h eS30
      refine lv_aload_n hx hb dX11_contents_31 rfl (lv_at hl 0 rfl) ?_
      refine lv_iconst (v := 0) hx hb dX11_contents_32 (by decide) ?_
      have hf4 : cD S30 a0 = 12 := by rw [eS30]; exact hf2
      obtain ⟨q33, hq33, h⟩ := of_cal h
      obtain ⟨r33, S33⟩ := q33
      have h := of_un2 h
      refine C_i hA hw (va_runV (As := [.int (0 : Int32)]) (rest := []) ⟨hx, hb, hml, hown, hts⟩ (cX11_accept_ok l D cc E n S30 a0 (0 : Int32) hq33) (cwV 1 hts gX11_contents_X11_accept rfl rfl rfl (by decide +kernel) ⟨Nat.le_of_ble_eq_true rfl, Nat.le_of_ble_eq_true rfl⟩) ⟨cBlind D cc E S30 _, C_recv hK hw (by omega) (cell_12 hf4) (r := (RX11, TX11, 12)) rfl, fun U hU hW => ⟨rfl, C_pre hA hK hro hw U hU hW⟩⟩ rfl rfl hl.1 rfl (lv_room (Nat.le_of_ble_eq_true rfl)) dX11_contents_33 ⟨Nat.le_refl _, Nat.le_refl _⟩) (fun H locs hw => ?_)
      refine W.widen (k := 0) (n := 0) (Nat.le_refl _) (Nat.le_refl _) ?_
      obtain ⟨rfl, rfl⟩ := of_ret2 h
      exact C_iret hx hb hr hlocks hw (by rfl) dX11_contents_36
    · have h := of_it h c15
      refine lv_aload_n hx hb dX11_contents_18 rfl (lv_at hl 0 rfl) ?_
      refine lv_iconst (v := -1) hx hb dX11_contents_19 (by decide) ?_
      obtain ⟨hf5, h⟩ := of_grd h
      obtain ⟨q20, hq20, h⟩ := of_cal h
      obtain ⟨r20, S20⟩ := q20
      have h := of_un2 h
      refine C_i hA hw (va_runV (As := [.int (-1 : Int32)]) (rest := []) ⟨hx, hb, hml, hown, hts⟩ (cX11_refuse_ok l D cc E n S a0 (-1 : Int32) hq20) (cwV 1 hts gX11_contents_X11_refuse rfl rfl rfl (by decide +kernel) ⟨Nat.le_of_ble_eq_true rfl, Nat.le_of_ble_eq_true rfl⟩) ⟨cBlind D cc E S _, C_recv hK hw (by omega) (cell_12 hf5) (r := (RX11, TX11, 12)) rfl, fun U hU hW => ⟨rfl, C_pre hA hK hro hw U hU hW⟩⟩ rfl rfl hl.1 rfl (lv_room (Nat.le_of_ble_eq_true rfl)) dX11_contents_20 ⟨Nat.le_refl _, Nat.le_refl _⟩) (fun H locs hw => ?_)
      refine W.widen (k := 0) (n := 0) (Nat.le_refl _) (Nat.le_refl _) ?_
      obtain ⟨rfl, rfl⟩ := of_ret2 h
      exact C_iret hx hb hr hlocks hw (by rfl) dX11_contents_23

def fX11_gift (n : Nat × Nat) (S : CS) (a0 : Nat) (a1 : Int32) (a2 : Int32) (a3 : Int32) (a4 : Int32) : Option ((Int32 × CS) × Nat × Nat) :=
  bnd (fX11_isKind a1) (fun r1 => if r1 = 0 then 
    grd (cD S a0 = 12) (cal (fX11_refuse n S a0 (-1 : Int32)) (un2 fun r44 S44 => some ((r44, S44), 0, 0)))
    else bnd (fX11_isWithin a2 (1 : Int32) (1000000 : Int32)) (fun r11 => if r11 = 0 then 
      grd (cD S a0 = 12) (cal (fX11_refuse n S a0 (-1 : Int32)) (un2 fun r44 S44 => some ((r44, S44), 0, 0)))
      else grd (cD S a0 = 12) (bnd (cI S 248 a0) (fun v19 => bnd (fX11_isWithin a3 v19 (1000 : Int32)) (fun r25 => if r25 = 0 then 
        cal (fX11_refuse n S a0 (-1 : Int32)) (un2 fun r44 S44 => some ((r44, S44), 0, 0))
        else bnd (fX11_isWithin a4 (0 : Int32) (19 : Int32)) (fun r36 => if r36 = 0 then 
          cal (fX11_refuse n S a0 (-1 : Int32)) (un2 fun r44 S44 => some ((r44, S44), 0, 0))
          else onn (cR S 241 a0) (fun b49 => grd (cD S b49 = 8) (cal (fX7_size n S b49) (fun q52 => if q52 < (200 : Int32) then 
            onn (cR S 241 a0) (fun b69 => adc 1 11 (bnd (nx S) (fun q72 => bnd (nw S 3 0) (fun S72 => grd (cD S72 a0 = 12) (onn (cR S72 241 a0) (fun b77 => grd (cD S72 b77 = 8) (cal (fX7_size n S72 b77) (fun q80 => cal (fX2_init n S72 q72 q80 a1 a2 a3 a4) (fun S88 => grd (cD S88 b69 = 8) (cal (fX7_add n S88 b69 q72) (un2 fun S91 u91 => un2 (fun c1_91 c2_91 => adc c1_91 c2_91 (grd (cD S91 a0 = 12) (onn (cR S91 241 a0) (fun b96 => grd (cD S91 b96 = 8) (cal (fX7_size n S91 b96) (fun q99 => cal (fX11_accept n S91 a0 (q99 - (1 : Int32))) (un2 fun r104 S104 => some ((r104, S104), 0, 0)))))))) u91)))))))))))
            else cal (fX11_refuse n S a0 (-5 : Int32)) (un2 fun r64 S64 => some ((r64, S64), 0, 0)))))))))))
set_option maxHeartbeats 8000000 in
set_option maxRecDepth 100000 in
theorem cX11_gift_ok (l : Launch) (D : va_G) (cc : Nat → ClassId) (E : Nat → Nat) (n : Nat × Nat) (hE : E 0 = n.2) (S : CS) (a0 : Nat) (a1 : Int32) (a2 : Int32) (a3 : Int32) (a4 : Int32) {r : Int32} {T : CS} {mc ms : Nat} (h : fX11_gift n S a0 a1 a2 a3 a4 = some ((r, T), mc, ms)) : Ci l yX11_gift wsX11_gift 8 214 D cc E [.ref a0, .int a1, .int a2, .int a3, .int a4] S r T mc ms := by
  refine C_of (own := RX11) (bb := cX11_gift) (nL := 5) (ret := (some .int)) (by decide) rfl rfl (Nat.le_of_ble_eq_true rfl) ?_
  intro p e s m args below meth c hx hb hr hlocks hml hts hown hnm hA hK hro hw ls hl
  generalize va_A (cPs cc S) (nx S) = A at hA hro hw ⊢
  unfold fX11_gift at h
  have hinX11 : ∀ w ∈ wsX110, w ∈ wsX11_gift := by decide +kernel
  have hinX2 : ∀ w ∈ wsX20, w ∈ wsX11_gift := by decide +kernel
  have hl : lv_has ls 5 [(0, .ref a0), (1, .int a1), (2, .int a2), (3, .int a3), (4, .int a4)] := hl
  refine W.widen (k := mc - mc) (n := ms - ms) (by omega) (by omega) ?_
  have hk1 : mc ≤ mc := Nat.le_refl _
  have hk2 : ms ≤ ms := Nat.le_refl _
  refine lv_iload_n hx hb dX11_gift_0 rfl (lv_at hl 1 rfl) ?_
  refine C_s (va_runS (As := [.int a1]) (rest := []) ⟨hx, hb, hml, hown, hts⟩ (cX11_isKind_ok l a1) (va_cwS 1 hts gX11_gift_X11_isKind rfl rfl rfl (by decide +kernel) ⟨Nat.le_of_ble_eq_true rfl, Nat.le_of_ble_eq_true rfl⟩) ⟨fun a U g mk q => ⟨q.1, trivial⟩, fun U hU hW => ⟨rfl, trivial⟩⟩ rfl rfl hl.1 rfl (lv_room (Nat.le_of_ble_eq_true rfl)) dX11_gift_1 ⟨by show _ ≤ mc; omega, by show _ ≤ ms; omega⟩) (fun r1 er1 => ?_)
  have h := of_bnd h er1
  refine lv_if_eq (tgt := 42) hx hb dX11_gift_4 (by decide) (fun c4 => ?_) (fun c4 => ?_)
  · have h := of_it h c4
    refine lv_aload_n hx hb dX11_gift_42 rfl (lv_at hl 0 rfl) ?_
    refine lv_iconst (v := -1) hx hb dX11_gift_43 (by decide) ?_
    obtain ⟨hf1, h⟩ := of_grd h
    obtain ⟨q44, hq44, h⟩ := of_cal h
    obtain ⟨r44, S44⟩ := q44
    have h := of_un2 h
    refine C_i hA hw (va_runV (As := [.int (-1 : Int32)]) (rest := []) ⟨hx, hb, hml, hown, hts⟩ (cX11_refuse_ok l D cc E n S a0 (-1 : Int32) hq44) (cwV 1 hts gX11_gift_X11_refuse rfl rfl rfl (by decide +kernel) ⟨Nat.le_of_ble_eq_true rfl, Nat.le_of_ble_eq_true rfl⟩) ⟨cBlind D cc E S _, C_recv hK hw (by omega) (cell_12 hf1) (r := (RX11, TX11, 12)) rfl, fun U hU hW => ⟨rfl, C_pre hA hK hro hw U hU hW⟩⟩ rfl rfl hl.1 rfl (lv_room (Nat.le_of_ble_eq_true rfl)) dX11_gift_44 ⟨by show _ ≤ mc; omega, by show _ ≤ ms; omega⟩) (fun H locs hw => ?_)
    refine W.widen (k := mc - mc) (n := ms - ms) (Nat.le_refl _) (Nat.le_refl _) ?_
    obtain ⟨rfl, rfl, ek1, ek2⟩ := of_retA h
    refine W.widen (k := mc) (n := ms) (by omega) (by omega) ?_
    exact C_iret hx hb hr hlocks hw (by rfl) dX11_gift_47
  · have h := of_if h c4
    refine lv_iload_n hx hb dX11_gift_7 rfl (lv_at hl 2 rfl) ?_
    refine lv_iconst (v := 1) hx hb dX11_gift_8 (by decide) ?_
    refine lv_ldc (v := 1000000) hx hb hown (hts (.constant RX11 82 (1000000)) (by decide +kernel)) dX11_gift_9 ?_
    refine C_s (va_runS (As := [.int a2, .int (1 : Int32), .int (1000000 : Int32)]) (rest := []) ⟨hx, hb, hml, hown, hts⟩ (cX11_isWithin_ok l a2 (1 : Int32) (1000000 : Int32)) (va_cwS 3 hts gX11_gift_X11_isWithin rfl rfl rfl (by decide +kernel) ⟨Nat.le_of_ble_eq_true rfl, Nat.le_of_ble_eq_true rfl⟩) ⟨fun a U g mk q => ⟨q.1, trivial⟩, fun U hU hW => ⟨rfl, trivial⟩⟩ rfl rfl hl.1 rfl (lv_room (Nat.le_of_ble_eq_true rfl)) dX11_gift_11 ⟨by show _ ≤ mc; omega, by show _ ≤ ms; omega⟩) (fun r11 er11 => ?_)
    have h := of_bnd h er11
    refine lv_if_eq (tgt := 42) hx hb dX11_gift_14 (by decide) (fun c14 => ?_) (fun c14 => ?_)
    · have h := of_it h c14
      refine lv_aload_n hx hb dX11_gift_42 rfl (lv_at hl 0 rfl) ?_
      refine lv_iconst (v := -1) hx hb dX11_gift_43 (by decide) ?_
      obtain ⟨hf2, h⟩ := of_grd h
      obtain ⟨q44, hq44, h⟩ := of_cal h
      obtain ⟨r44, S44⟩ := q44
      have h := of_un2 h
      refine C_i hA hw (va_runV (As := [.int (-1 : Int32)]) (rest := []) ⟨hx, hb, hml, hown, hts⟩ (cX11_refuse_ok l D cc E n S a0 (-1 : Int32) hq44) (cwV 1 hts gX11_gift_X11_refuse rfl rfl rfl (by decide +kernel) ⟨Nat.le_of_ble_eq_true rfl, Nat.le_of_ble_eq_true rfl⟩) ⟨cBlind D cc E S _, C_recv hK hw (by omega) (cell_12 hf2) (r := (RX11, TX11, 12)) rfl, fun U hU hW => ⟨rfl, C_pre hA hK hro hw U hU hW⟩⟩ rfl rfl hl.1 rfl (lv_room (Nat.le_of_ble_eq_true rfl)) dX11_gift_44 ⟨by show _ ≤ mc; omega, by show _ ≤ ms; omega⟩) (fun H locs hw => ?_)
      refine W.widen (k := mc - mc) (n := ms - ms) (Nat.le_refl _) (Nat.le_refl _) ?_
      obtain ⟨rfl, rfl, ek1, ek2⟩ := of_retA h
      refine W.widen (k := mc) (n := ms) (by omega) (by omega) ?_
      exact C_iret hx hb hr hlocks hw (by rfl) dX11_gift_47
    · have h := of_if h c14
      refine lv_iload_n hx hb dX11_gift_17 rfl (lv_at hl 3 rfl) ?_
      refine lv_aload_n hx hb dX11_gift_18 rfl (lv_at hl 0 rfl) ?_
      obtain ⟨hf3, h⟩ := of_grd h
      refine C_get hx hb hts hinX11 hown hK hw (cell_12 hf3) (by omega) rfl 8 (by decide) (index := 54) (by decide +kernel) rfl rfl dX11_gift_19 ?_
      refine lv_topi (fun v19 ev19 => ?_)
      have h := of_bnd h ev19
      refine lv_sipush (v := 1000) hx hb dX11_gift_22 (by decide) ?_
      refine C_s (va_runS (As := [.int a3, .int v19, .int (1000 : Int32)]) (rest := []) ⟨hx, hb, hml, hown, hts⟩ (cX11_isWithin_ok l a3 v19 (1000 : Int32)) (va_cwS 3 hts gX11_gift_X11_isWithin rfl rfl rfl (by decide +kernel) ⟨Nat.le_of_ble_eq_true rfl, Nat.le_of_ble_eq_true rfl⟩) ⟨fun a U g mk q => ⟨q.1, trivial⟩, fun U hU hW => ⟨rfl, trivial⟩⟩ rfl rfl hl.1 rfl (lv_room (Nat.le_of_ble_eq_true rfl)) dX11_gift_25 ⟨by show _ ≤ mc; omega, by show _ ≤ ms; omega⟩) (fun r25 er25 => ?_)
      have h := of_bnd h er25
      refine lv_if_eq (tgt := 42) hx hb dX11_gift_28 (by decide) (fun c28 => ?_) (fun c28 => ?_)
      · have h := of_it h c28
        refine lv_aload_n hx hb dX11_gift_42 rfl (lv_at hl 0 rfl) ?_
        refine lv_iconst (v := -1) hx hb dX11_gift_43 (by decide) ?_
        obtain ⟨q44, hq44, h⟩ := of_cal h
        obtain ⟨r44, S44⟩ := q44
        have h := of_un2 h
        refine C_i hA hw (va_runV (As := [.int (-1 : Int32)]) (rest := []) ⟨hx, hb, hml, hown, hts⟩ (cX11_refuse_ok l D cc E n S a0 (-1 : Int32) hq44) (cwV 1 hts gX11_gift_X11_refuse rfl rfl rfl (by decide +kernel) ⟨Nat.le_of_ble_eq_true rfl, Nat.le_of_ble_eq_true rfl⟩) ⟨cBlind D cc E S _, C_recv hK hw (by omega) (cell_12 hf3) (r := (RX11, TX11, 12)) rfl, fun U hU hW => ⟨rfl, C_pre hA hK hro hw U hU hW⟩⟩ rfl rfl hl.1 rfl (lv_room (Nat.le_of_ble_eq_true rfl)) dX11_gift_44 ⟨by show _ ≤ mc; omega, by show _ ≤ ms; omega⟩) (fun H locs hw => ?_)
        refine W.widen (k := mc - mc) (n := ms - ms) (Nat.le_refl _) (Nat.le_refl _) ?_
        obtain ⟨rfl, rfl, ek1, ek2⟩ := of_retA h
        refine W.widen (k := mc) (n := ms) (by omega) (by omega) ?_
        exact C_iret hx hb hr hlocks hw (by rfl) dX11_gift_47
      · have h := of_if h c28
        refine lv_iload hx hb dX11_gift_31 (lv_at hl 4 rfl) ?_
        refine lv_iconst (v := 0) hx hb dX11_gift_33 (by decide) ?_
        refine lv_bipush (v := 19) hx hb dX11_gift_34 (by decide) ?_
        refine C_s (va_runS (As := [.int a4, .int (0 : Int32), .int (19 : Int32)]) (rest := []) ⟨hx, hb, hml, hown, hts⟩ (cX11_isWithin_ok l a4 (0 : Int32) (19 : Int32)) (va_cwS 3 hts gX11_gift_X11_isWithin rfl rfl rfl (by decide +kernel) ⟨Nat.le_of_ble_eq_true rfl, Nat.le_of_ble_eq_true rfl⟩) ⟨fun a U g mk q => ⟨q.1, trivial⟩, fun U hU hW => ⟨rfl, trivial⟩⟩ rfl rfl hl.1 rfl (lv_room (Nat.le_of_ble_eq_true rfl)) dX11_gift_36 ⟨by show _ ≤ mc; omega, by show _ ≤ ms; omega⟩) (fun r36 er36 => ?_)
        have h := of_bnd h er36
        refine lv_if_ne (tgt := 48) hx hb dX11_gift_39 (by decide) (fun c39 => ?_) (fun c39 => ?_)
        · have h := of_if h c39
          refine lv_aload_n hx hb dX11_gift_48 rfl (lv_at hl 0 rfl) ?_
          obtain ⟨b49, eb49, h⟩ := of_onn h
          refine C_get hx hb hts hinX11 hown hK hw (cell_12 hf3) (by omega) rfl 1 (by decide) (index := 16) (by decide +kernel) rfl (v := .ref b49) (congrArg (fun o => some (va_rf o)) eb49) dX11_gift_49 ?_
          obtain ⟨hf4, h⟩ := of_grd h
          obtain ⟨q52, hq52, h⟩ := of_cal h
          refine C_i hA hw (va_runV (As := []) (rest := []) ⟨hx, hb, hml, hown, hts⟩ (cX7_size_ok l D cc E n S b49 hq52) (cwV 0 hts gX11_gift_X7_size rfl rfl rfl (by decide +kernel) ⟨Nat.le_of_ble_eq_true rfl, Nat.le_of_ble_eq_true rfl⟩) ⟨cBlind D cc E S _, C_recv hK hw (by omega) (cell_8 hf4) (r := (RX7, TX7, 2)) rfl, fun U hU hW => ⟨rfl, C_pre hA hK hro hw U hU hW⟩⟩ rfl rfl hl.1 rfl (lv_room (Nat.le_of_ble_eq_true rfl)) dX11_gift_52 ⟨by show _ ≤ mc; omega, by show _ ≤ ms; omega⟩) (fun H locs hw => ?_)
          refine W.widen (k := mc - mc) (n := ms - ms) (Nat.le_refl _) (Nat.le_refl _) ?_
          refine lv_sipush (v := 200) hx hb dX11_gift_55 (by decide) ?_
          refine lv_icmp_lt (tgt := 68) hx hb dX11_gift_58 (by decide) (fun c58 => ?_) (fun c58 => ?_)
          · have h := of_it h c58
            refine lv_aload_n hx hb dX11_gift_68 rfl (lv_at hl 0 rfl) ?_
            obtain ⟨b69, eb69, h⟩ := of_onn h
            refine C_get hx hb hts hinX11 hown hK hw (cell_12 hf3) (by omega) rfl 1 (by decide) (index := 16) (by decide +kernel) rfl (v := .ref b69) (congrArg (fun o => some (va_rf o)) eb69) dX11_gift_69 ?_
            obtain ⟨kc5, ks5, h, ek1, ek2⟩ := of_adc h
            refine C_new (d := 3) hx hb hts hinX2 tyX2 tyX2_ok hown (index := 87) (by decide +kernel) (by decide +kernel) (by decide +kernel) hK hA hw rfl (fun j hj => dfX2 j hj) (cnew_3 S) (by show _ ≤ mc; omega) (by show _ ≤ ms; omega) dX11_gift_72 (fun q72 S72 H eq72 eS72 hw => ?_)
            have h := of_bnd h eq72
            have h := of_bnd h eS72
            refine W.widen (k := mc - kc5) (n := ms - ks5) (by omega) (by omega) ?_
            have hk1 : kc5 ≤ mc := by omega
            have hk2 : ks5 ≤ ms := by omega
            have hf6 : cD S72 q72 = 3 := by rw [eS72, eq72]; exact cD_new _ _ _
            refine lv_dup hx hb dX11_gift_75 rfl ?_
            refine lv_aload_n hx hb dX11_gift_76 rfl (lv_at hl 0 rfl) ?_
            obtain ⟨hf7, h⟩ := of_grd h
            obtain ⟨b77, eb77, h⟩ := of_onn h
            refine C_get hx hb hts hinX11 hown hK hw (cell_12 hf7) (by omega) rfl 1 (by decide) (index := 16) (by decide +kernel) rfl (v := .ref b77) (congrArg (fun o => some (va_rf o)) eb77) dX11_gift_77 ?_
            obtain ⟨hf8, h⟩ := of_grd h
            obtain ⟨q80, hq80, h⟩ := of_cal h
            refine C_i hA hw (va_runV (As := []) (rest := [.ref q72, .ref q72, .ref b69]) ⟨hx, hb, hml, hown, hts⟩ (cX7_size_ok l D cc E n S72 b77 hq80) (cwV 0 hts gX11_gift_X7_size rfl rfl rfl (by decide +kernel) ⟨Nat.le_of_ble_eq_true rfl, Nat.le_of_ble_eq_true rfl⟩) ⟨cBlind D cc E S72 _, C_recv hK hw (by omega) (cell_8 hf8) (r := (RX7, TX7, 2)) rfl, fun U hU hW => ⟨rfl, C_pre hA hK hro hw U hU hW⟩⟩ rfl rfl hl.1 rfl (lv_room (Nat.le_of_ble_eq_true rfl)) dX11_gift_80 ⟨by show _ ≤ mc; omega, by show _ ≤ ms; omega⟩) (fun H locs hw => ?_)
            refine W.widen (k := mc - kc5) (n := ms - ks5) (Nat.le_refl _) (Nat.le_refl _) ?_
            refine lv_iload_n hx hb dX11_gift_83 rfl (lv_at hl 1 rfl) ?_
            refine lv_iload_n hx hb dX11_gift_84 rfl (lv_at hl 2 rfl) ?_
            refine lv_iload_n hx hb dX11_gift_85 rfl (lv_at hl 3 rfl) ?_
            refine lv_iload hx hb dX11_gift_86 (lv_at hl 4 rfl) ?_
            obtain ⟨q88, hq88, h⟩ := of_cal h
            obtain ⟨S88, eS88⟩ : ∃ x, x = q88 := ⟨_, rfl⟩
            subst eS88
            refine C_v hA hw (va_runI (As := [.int q80, .int a1, .int a2, .int a3, .int a4]) (rest := [.ref q72, .ref b69]) ⟨hx, hb, hml, hown, hts⟩ (cX2_init_ok l D cc E n S72 q72 q80 a1 a2 a3 a4 hq88) (cwI 5 hts gX11_gift_X2_init rfl rfl rfl (hts (.initialized RX2) (by decide +kernel)) (hts (.methodLink RX11 89 yX2_init) (by decide +kernel)) (hts (.instanceMethod yX2_init) (by decide +kernel)) rfl (by decide +kernel) ⟨Nat.le_of_ble_eq_true rfl, Nat.le_of_ble_eq_true rfl⟩) ⟨cBlind D cc E S72 _, fun U hU hW => ⟨rfl, C_pre hA hK hro hw U hU hW⟩⟩ rfl rfl hl.1 rfl (lv_room (Nat.le_of_ble_eq_true rfl)) dX11_gift_88 ⟨by show _ ≤ mc; omega, by show _ ≤ ms; omega⟩) (fun H locs hw => ?_)
            refine W.widen (k := mc - kc5) (n := ms - ks5) (Nat.le_refl _) (Nat.le_refl _) ?_
            obtain ⟨hf9, h⟩ := of_grd h
            obtain ⟨q91, hq91, h⟩ := of_cal h
            obtain ⟨S91, c1_91, c2_91⟩ := q91
            have h := of_un2 h
            have h := of_un2 h
            obtain ⟨kc10, ks10, h, ek1, ek2⟩ := of_adc h
            refine C_v hA hw (va_runV (As := [.ref q72]) (rest := []) ⟨hx, hb, hml, hown, hts⟩ (cX7_add_ok l D cc E n hE S88 b69 q72 hq91) (cwV 1 hts gX11_gift_X7_add rfl rfl rfl (by decide +kernel) ⟨Nat.le_of_ble_eq_true rfl, Nat.le_of_ble_eq_true rfl⟩) ⟨cBlind D cc E S88 _, C_recv hK hw (by omega) (cell_8 hf9) (r := (RX7, TX7, 2)) rfl, fun U hU hW => ⟨rfl, C_pre hA hK hro hw U hU hW⟩⟩ rfl rfl hl.1 rfl (lv_room (Nat.le_of_ble_eq_true rfl)) dX11_gift_91 ⟨by show _ ≤ mc; omega, by show _ ≤ ms; omega⟩) (fun H locs hw => ?_)
            refine W.widen (k := mc - kc10) (n := ms - ks10) (by omega) (by omega) ?_
            have hk1 : kc10 ≤ mc := by omega
            have hk2 : ks10 ≤ ms := by omega
            refine lv_aload_n hx hb dX11_gift_94 rfl (lv_at hl 0 rfl) ?_
            refine lv_aload_n hx hb dX11_gift_95 rfl (lv_at hl 0 rfl) ?_
            obtain ⟨hf11, h⟩ := of_grd h
            obtain ⟨b96, eb96, h⟩ := of_onn h
            refine C_get hx hb hts hinX11 hown hK hw (cell_12 hf11) (by omega) rfl 1 (by decide) (index := 16) (by decide +kernel) rfl (v := .ref b96) (congrArg (fun o => some (va_rf o)) eb96) dX11_gift_96 ?_
            obtain ⟨hf12, h⟩ := of_grd h
            obtain ⟨q99, hq99, h⟩ := of_cal h
            refine C_i hA hw (va_runV (As := []) (rest := [.ref a0]) ⟨hx, hb, hml, hown, hts⟩ (cX7_size_ok l D cc E n S91 b96 hq99) (cwV 0 hts gX11_gift_X7_size rfl rfl rfl (by decide +kernel) ⟨Nat.le_of_ble_eq_true rfl, Nat.le_of_ble_eq_true rfl⟩) ⟨cBlind D cc E S91 _, C_recv hK hw (by omega) (cell_8 hf12) (r := (RX7, TX7, 2)) rfl, fun U hU hW => ⟨rfl, C_pre hA hK hro hw U hU hW⟩⟩ rfl rfl hl.1 rfl (lv_room (Nat.le_of_ble_eq_true rfl)) dX11_gift_99 ⟨by show _ ≤ mc; omega, by show _ ≤ ms; omega⟩) (fun H locs hw => ?_)
            refine W.widen (k := mc - kc10) (n := ms - ks10) (Nat.le_refl _) (Nat.le_refl _) ?_
            refine lv_iconst (v := 1) hx hb dX11_gift_102 (by decide) ?_
            refine lv_isub hx hb dX11_gift_103 ?_
            obtain ⟨q104, hq104, h⟩ := of_cal h
            obtain ⟨r104, S104⟩ := q104
            have h := of_un2 h
            refine C_i hA hw (va_runV (As := [.int (q99 - (1 : Int32))]) (rest := []) ⟨hx, hb, hml, hown, hts⟩ (cX11_accept_ok l D cc E n S91 a0 (q99 - (1 : Int32)) hq104) (cwV 1 hts gX11_gift_X11_accept rfl rfl rfl (by decide +kernel) ⟨Nat.le_of_ble_eq_true rfl, Nat.le_of_ble_eq_true rfl⟩) ⟨cBlind D cc E S91 _, C_recv hK hw (by omega) (cell_12 hf11) (r := (RX11, TX11, 12)) rfl, fun U hU hW => ⟨rfl, C_pre hA hK hro hw U hU hW⟩⟩ rfl rfl hl.1 rfl (lv_room (Nat.le_of_ble_eq_true rfl)) dX11_gift_104 ⟨by show _ ≤ mc; omega, by show _ ≤ ms; omega⟩) (fun H locs hw => ?_)
            refine W.widen (k := mc - kc10) (n := ms - ks10) (Nat.le_refl _) (Nat.le_refl _) ?_
            obtain ⟨rfl, rfl, ek1, ek2⟩ := of_retA h
            refine W.widen (k := mc) (n := ms) (by omega) (by omega) ?_
            exact C_iret hx hb hr hlocks hw (by rfl) dX11_gift_107
          · have h := of_if h c58
            refine lv_aload_n hx hb dX11_gift_61 rfl (lv_at hl 0 rfl) ?_
            refine lv_bipush (v := -5) hx hb dX11_gift_62 (by decide) ?_
            obtain ⟨q64, hq64, h⟩ := of_cal h
            obtain ⟨r64, S64⟩ := q64
            have h := of_un2 h
            refine C_i hA hw (va_runV (As := [.int (-5 : Int32)]) (rest := []) ⟨hx, hb, hml, hown, hts⟩ (cX11_refuse_ok l D cc E n S a0 (-5 : Int32) hq64) (cwV 1 hts gX11_gift_X11_refuse rfl rfl rfl (by decide +kernel) ⟨Nat.le_of_ble_eq_true rfl, Nat.le_of_ble_eq_true rfl⟩) ⟨cBlind D cc E S _, C_recv hK hw (by omega) (cell_12 hf3) (r := (RX11, TX11, 12)) rfl, fun U hU hW => ⟨rfl, C_pre hA hK hro hw U hU hW⟩⟩ rfl rfl hl.1 rfl (lv_room (Nat.le_of_ble_eq_true rfl)) dX11_gift_64 ⟨by show _ ≤ mc; omega, by show _ ≤ ms; omega⟩) (fun H locs hw => ?_)
            refine W.widen (k := mc - mc) (n := ms - ms) (Nat.le_refl _) (Nat.le_refl _) ?_
            obtain ⟨rfl, rfl, ek1, ek2⟩ := of_retA h
            refine W.widen (k := mc) (n := ms) (by omega) (by omega) ?_
            exact C_iret hx hb hr hlocks hw (by rfl) dX11_gift_67
        · have h := of_it h c39
          refine lv_aload_n hx hb dX11_gift_42 rfl (lv_at hl 0 rfl) ?_
          refine lv_iconst (v := -1) hx hb dX11_gift_43 (by decide) ?_
          obtain ⟨q44, hq44, h⟩ := of_cal h
          obtain ⟨r44, S44⟩ := q44
          have h := of_un2 h
          refine C_i hA hw (va_runV (As := [.int (-1 : Int32)]) (rest := []) ⟨hx, hb, hml, hown, hts⟩ (cX11_refuse_ok l D cc E n S a0 (-1 : Int32) hq44) (cwV 1 hts gX11_gift_X11_refuse rfl rfl rfl (by decide +kernel) ⟨Nat.le_of_ble_eq_true rfl, Nat.le_of_ble_eq_true rfl⟩) ⟨cBlind D cc E S _, C_recv hK hw (by omega) (cell_12 hf3) (r := (RX11, TX11, 12)) rfl, fun U hU hW => ⟨rfl, C_pre hA hK hro hw U hU hW⟩⟩ rfl rfl hl.1 rfl (lv_room (Nat.le_of_ble_eq_true rfl)) dX11_gift_44 ⟨by show _ ≤ mc; omega, by show _ ≤ ms; omega⟩) (fun H locs hw => ?_)
          refine W.widen (k := mc - mc) (n := ms - ms) (Nat.le_refl _) (Nat.le_refl _) ?_
          obtain ⟨rfl, rfl, ek1, ek2⟩ := of_retA h
          refine W.widen (k := mc) (n := ms) (by omega) (by omega) ?_
          exact C_iret hx hb hr hlocks hw (by rfl) dX11_gift_47

def fX11_lot (n : Nat × Nat) (S : CS) (a0 : Nat) (a1 : Int32) (a2 : Int32) : Option Int32 :=
  grd (cD S a0 = 12) (onn (cR S 241 a0) (fun b1 => grd (cD S b1 = 8) (cal (fX7_find n S b1 a1) (fun q5 => oel q5 (some (-1 : Int32)) (fun b10 => grd (cD S b10 = 3) (cal (fX2_tell n S b10 a2) (fun q19 => some q19)))))))
set_option maxHeartbeats 8000000 in
set_option maxRecDepth 100000 in
theorem cX11_lot_ok (l : Launch) (D : va_G) (cc : Nat → ClassId) (E : Nat → Nat) (n : Nat × Nat) (S : CS) (a0 : Nat) (a1 : Int32) (a2 : Int32) {r : Int32} (h : fX11_lot n S a0 a1 a2 = some r) : Ci l yX11_lot wsX11_lot 4 85 D cc E [.ref a0, .int a1, .int a2] S r S 0 0 := by
  refine C_of (own := RX11) (bb := cX11_lot) (nL := 4) (ret := (some .int)) (by decide) rfl rfl (Nat.le_of_ble_eq_true rfl) ?_
  intro p e s m args below meth c hx hb hr hlocks hml hts hown hnm hA hK hro hw ls hl
  generalize va_A (cPs cc S) (nx S) = A at hA hro hw ⊢
  unfold fX11_lot at h
  have hinX11 : ∀ w ∈ wsX110, w ∈ wsX11_lot := by decide +kernel
  have hl : lv_has ls 4 [(0, .ref a0), (1, .int a1), (2, .int a2)] := hl
  refine lv_aload_n hx hb dX11_lot_0 rfl (lv_at hl 0 rfl) ?_
  obtain ⟨hf1, h⟩ := of_grd h
  obtain ⟨b1, eb1, h⟩ := of_onn h
  refine C_get hx hb hts hinX11 hown hK hw (cell_12 hf1) (by omega) rfl 1 (by decide) (index := 16) (by decide +kernel) rfl (v := .ref b1) (congrArg (fun o => some (va_rf o)) eb1) dX11_lot_1 ?_
  refine lv_iload_n hx hb dX11_lot_4 rfl (lv_at hl 1 rfl) ?_
  obtain ⟨hf2, h⟩ := of_grd h
  obtain ⟨q5, hq5, h⟩ := of_cal h
  refine C_q hA hw (va_runV (As := [.int a1]) (rest := []) ⟨hx, hb, hml, hown, hts⟩ (cX7_find_ok l D cc E n S b1 a1 hq5) (cwV 1 hts gX11_lot_X7_find rfl rfl rfl (by decide +kernel) ⟨Nat.le_of_ble_eq_true rfl, Nat.le_of_ble_eq_true rfl⟩) ⟨cBlind D cc E S _, C_recv hK hw (by omega) (cell_8 hf2) (r := (RX7, TX7, 2)) rfl, fun U hU hW => ⟨rfl, C_pre hA hK hro hw U hU hW⟩⟩ rfl rfl hl.1 rfl (lv_room (Nat.le_of_ble_eq_true rfl)) dX11_lot_5 ⟨Nat.le_refl _, Nat.le_refl _⟩) (fun H locs hw => ?_)
  refine W.widen (k := 0) (n := 0) (Nat.le_refl _) (Nat.le_refl _) ?_
  refine lv_astore_nq (lv' := [(3, va_rf q5), (0, .ref a0), (1, .int a1), (2, .int a2)]) hx hb dX11_lot_8 rfl hl (by decide) rfl (fun ls hl => ?_)
  refine lv_aload_nq hx hb dX11_lot_9 rfl (lv_at hl 0 rfl) ?_
  rcases q5 with _ | b10
  · have h := of_oelN h
    have hl : lv_has ls 4 [(3, .null), (0, .ref a0), (1, .int a1), (2, .int a2)] := hl
    refine lv_ifnonnullN hx hb dX11_lot_10 ?_
    refine lv_iconst (v := -1) hx hb dX11_lot_13 (by decide) ?_
    refine lv_goto (tgt := 22) hx hb dX11_lot_14 (by decide) ?_
    obtain rfl := Option.some.inj h
    exact C_iret hx hb hr hlocks hw (by rfl) dX11_lot_22
  · have h := of_oelS h
    have hl : lv_has ls 4 [(3, .ref b10), (0, .ref a0), (1, .int a1), (2, .int a2)] := hl
    refine lv_ifnonnull (tgt := 17) hx hb dX11_lot_10 (by decide) ?_
    refine lv_aload_n hx hb dX11_lot_17 rfl (lv_at hl 0 rfl) ?_
    refine lv_iload_n hx hb dX11_lot_18 rfl (lv_at hl 3 rfl) ?_
    obtain ⟨hf3, h⟩ := of_grd h
    obtain ⟨q19, hq19, h⟩ := of_cal h
    refine C_i hA hw (va_runV (As := [.int a2]) (rest := []) ⟨hx, hb, hml, hown, hts⟩ (cX2_tell_ok l D cc E n S b10 a2 hq19) (cwV 1 hts gX11_lot_X2_tell rfl rfl rfl (by decide +kernel) ⟨Nat.le_of_ble_eq_true rfl, Nat.le_of_ble_eq_true rfl⟩) ⟨cBlind D cc E S _, C_recv hK hw (by omega) (cell_3 hf3) (r := (RX2, TX2, 11)) rfl, fun U hU hW => ⟨rfl, C_pre hA hK hro hw U hU hW⟩⟩ rfl rfl hl.1 rfl (lv_room (Nat.le_of_ble_eq_true rfl)) dX11_lot_19 ⟨Nat.le_refl _, Nat.le_refl _⟩) (fun H locs hw => ?_)
    refine W.widen (k := 0) (n := 0) (Nat.le_refl _) (Nat.le_refl _) ?_
    obtain rfl := Option.some.inj h
    exact C_iret hx hb hr hlocks hw (by rfl) dX11_lot_22

def fX11_table (n : Nat × Nat) (S : CS) (a0 : Nat) : Option ((Int32 × CS) × Nat × Nat) :=
  grd (cD S a0 = 12) (onn (cR S 242 a0) (fun b1 => grd (cD S b1 = 21) (cal (fL_size n 1 S b1) (fun q4 => if q4 < (12 : Int32) then 
    onn (cR S 242 a0) (fun b20 => adc 1 3 (bnd (nx S) (fun q23 => bnd (nw S 9 0) (fun S23 => cal (fX8_init n S23 q23) (un2 fun S27 u27 => un2 (fun c1_27 c2_27 => adc c1_27 c2_27 (grd (cD S27 b20 = 21) (cal (fL_add n 1 S27 b20 q23) (un2 fun w30 u30 => un2 (fun r30 S30 => un2 (fun c1_30 c2_30 => adc c1_30 c2_30 (grd (cD S30 a0 = 12) (onn (cR S30 242 a0) (fun b36 => grd (cD S30 b36 = 21) (cal (fL_size n 1 S30 b36) (fun q39 => cal (fX11_accept n S30 a0 (q39 - (1 : Int32))) (un2 fun r44 S44 => some ((r44, S44), 0, 0)))))))) u30) w30)))) u27)))))
    else cal (fX11_refuse n S a0 (-5 : Int32)) (un2 fun r15 S15 => some ((r15, S15), 0, 0))))))
set_option maxHeartbeats 8000000 in
set_option maxRecDepth 100000 in
theorem cX11_table_ok (l : Launch) (D : va_G) (cc : Nat → ClassId) (E : Nat → Nat) (n : Nat × Nat) (hE : E 0 = n.2) (S : CS) (a0 : Nat) {r : Int32} {T : CS} {mc ms : Nat} (h : fX11_table n S a0 = some ((r, T), mc, ms)) : Ci l yX11_table wsX11_table 7 191 D cc E [.ref a0] S r T mc ms := by
  refine C_of (own := RX11) (bb := cX11_table) (nL := 1) (ret := (some .int)) (by decide) rfl rfl (Nat.le_of_ble_eq_true rfl) ?_
  intro p e s m args below meth c hx hb hr hlocks hml hts hown hnm hA hK hro hw ls hl
  generalize va_A (cPs cc S) (nx S) = A at hA hro hw ⊢
  unfold fX11_table at h
  have hinX11 : ∀ w ∈ wsX110, w ∈ wsX11_table := by decide +kernel
  have hinX8 : ∀ w ∈ wsX80, w ∈ wsX11_table := by decide +kernel
  have hl : lv_has ls 1 [(0, .ref a0)] := hl
  refine W.widen (k := mc - mc) (n := ms - ms) (by omega) (by omega) ?_
  have hk1 : mc ≤ mc := Nat.le_refl _
  have hk2 : ms ≤ ms := Nat.le_refl _
  refine lv_aload_n hx hb dX11_table_0 rfl (lv_at hl 0 rfl) ?_
  obtain ⟨hf1, h⟩ := of_grd h
  obtain ⟨b1, eb1, h⟩ := of_onn h
  refine C_get hx hb hts hinX11 hown hK hw (cell_12 hf1) (by omega) rfl 2 (by decide) (index := 23) (by decide +kernel) rfl (v := .ref b1) (congrArg (fun o => some (va_rf o)) eb1) dX11_table_1 ?_
  obtain ⟨hf2, h⟩ := of_grd h
  obtain ⟨q4, hq4, h⟩ := of_cal h
  refine C_i hA hw (va_runV (As := []) (rest := []) ⟨hx, hb, hml, hown, hts⟩ (cL_size_ok l D cc E n 1 (by decide) S b1 hq4) (cwV 0 hts gX11_table_Jx4a65c_size_8abf5 rfl rfl rfl (by decide +kernel) ⟨Nat.le_of_ble_eq_true rfl, Nat.le_of_ble_eq_true rfl⟩) ⟨cBlind D cc E S _, C_recv hK hw (by omega) (cell_L (r := 1) (by decide) hf2) (r := (RJx4a65c, TJx4a65c, 3)) rfl, fun U hU hW => ⟨rfl, C_pre hA hK hro hw U hU hW⟩⟩ rfl rfl hl.1 rfl (lv_room (Nat.le_of_ble_eq_true rfl)) dX11_table_4 ⟨by show _ ≤ mc; omega, by show _ ≤ ms; omega⟩) (fun H locs hw => ?_)
  refine W.widen (k := mc - mc) (n := ms - ms) (Nat.le_refl _) (Nat.le_refl _) ?_
  refine lv_bipush (v := 12) hx hb dX11_table_7 (by decide) ?_
  refine lv_icmp_lt (tgt := 19) hx hb dX11_table_9 (by decide) (fun c9 => ?_) (fun c9 => ?_)
  · have h := of_it h c9
    refine lv_aload_n hx hb dX11_table_19 rfl (lv_at hl 0 rfl) ?_
    obtain ⟨b20, eb20, h⟩ := of_onn h
    refine C_get hx hb hts hinX11 hown hK hw (cell_12 hf1) (by omega) rfl 2 (by decide) (index := 23) (by decide +kernel) rfl (v := .ref b20) (congrArg (fun o => some (va_rf o)) eb20) dX11_table_20 ?_
    obtain ⟨kc3, ks3, h, ek1, ek2⟩ := of_adc h
    refine C_new (d := 9) hx hb hts hinX8 tyX8 tyX8_ok hown (index := 104) (by decide +kernel) (by decide +kernel) (by decide +kernel) hK hA hw rfl (fun j hj => dfX8 j hj) (cnew_9 S) (by show _ ≤ mc; omega) (by show _ ≤ ms; omega) dX11_table_23 (fun q23 S23 H eq23 eS23 hw => ?_)
    have h := of_bnd h eq23
    have h := of_bnd h eS23
    refine W.widen (k := mc - kc3) (n := ms - ks3) (by omega) (by omega) ?_
    have hk1 : kc3 ≤ mc := by omega
    have hk2 : ks3 ≤ ms := by omega
    have hf4 : cD S23 q23 = 9 := by rw [eS23, eq23]; exact cD_new _ _ _
    refine lv_dup hx hb dX11_table_26 rfl ?_
    obtain ⟨q27, hq27, h⟩ := of_cal h
    obtain ⟨S27, c1_27, c2_27⟩ := q27
    have h := of_un2 h
    have h := of_un2 h
    obtain ⟨kc5, ks5, h, ek1, ek2⟩ := of_adc h
    refine C_v hA hw (va_runIN (As := []) (rest := [.ref q23, .ref b20]) ⟨hx, hb, hml, hown, hts⟩ (cX8_init_ok l D cc E n S23 q23 hq27) ⟨va_cnB 0 hts gX11_table_X8_init_n106 rfl rfl rfl (hro.1 (RX11, 106, yX8_init) (by decide +kernel)) (hts (.initialized RX8) (by decide +kernel)) (by decide +kernel) ⟨Nat.le_of_ble_eq_true rfl, Nat.le_of_ble_eq_true rfl⟩, rfl, (hts (.instanceMethod yX8_init) (by decide +kernel))⟩ ⟨cBlind D cc E S23 _, fun U hU hW => ⟨rfl, C_pre hA hK hro hw U hU hW⟩⟩ rfl rfl hl.1 rfl (lv_room (Nat.le_of_ble_eq_true rfl)) dX11_table_27 ⟨by show _ ≤ mc; omega, by show _ ≤ ms; omega⟩) (fun H locs hw => ?_)
    refine W.widen (k := mc - kc5) (n := ms - ks5) (by omega) (by omega) ?_
    have hk1 : kc5 ≤ mc := by omega
    have hk2 : ks5 ≤ ms := by omega
    obtain ⟨hf6, h⟩ := of_grd h
    obtain ⟨q30, hq30, h⟩ := of_cal h
    obtain ⟨⟨r30, S30⟩, c1_30, c2_30⟩ := q30
    have h := of_un2 h
    have h := of_un2 h
    have h := of_un2 h
    obtain ⟨kc7, ks7, h, ek1, ek2⟩ := of_adc h
    refine C_i hA hw (va_runV (As := [.ref q23]) (rest := []) ⟨hx, hb, hml, hown, hts⟩ (cL_add_ok l D cc E n hE 1 (by decide) S27 b20 q23 hq30) (cwV 1 hts gX11_table_Jx4a65c_add_9ea2d rfl rfl rfl (by decide +kernel) ⟨Nat.le_of_ble_eq_true rfl, Nat.le_of_ble_eq_true rfl⟩) ⟨cBlind D cc E S27 _, C_recv hK hw (by omega) (cell_L (r := 1) (by decide) hf6) (r := (RJx4a65c, TJx4a65c, 3)) rfl, fun U hU hW => ⟨rfl, C_pre hA hK hro hw U hU hW⟩⟩ rfl rfl hl.1 rfl (lv_room (Nat.le_of_ble_eq_true rfl)) dX11_table_30 ⟨by show _ ≤ mc; omega, by show _ ≤ ms; omega⟩) (fun H locs hw => ?_)
    refine W.widen (k := mc - kc7) (n := ms - ks7) (by omega) (by omega) ?_
    have hk1 : kc7 ≤ mc := by omega
    have hk2 : ks7 ≤ ms := by omega
    refine lv_pop hx hb dX11_table_33 rfl ?_
    refine lv_aload_n hx hb dX11_table_34 rfl (lv_at hl 0 rfl) ?_
    refine lv_aload_n hx hb dX11_table_35 rfl (lv_at hl 0 rfl) ?_
    obtain ⟨hf8, h⟩ := of_grd h
    obtain ⟨b36, eb36, h⟩ := of_onn h
    refine C_get hx hb hts hinX11 hown hK hw (cell_12 hf8) (by omega) rfl 2 (by decide) (index := 23) (by decide +kernel) rfl (v := .ref b36) (congrArg (fun o => some (va_rf o)) eb36) dX11_table_36 ?_
    obtain ⟨hf9, h⟩ := of_grd h
    obtain ⟨q39, hq39, h⟩ := of_cal h
    refine C_i hA hw (va_runV (As := []) (rest := [.ref a0]) ⟨hx, hb, hml, hown, hts⟩ (cL_size_ok l D cc E n 1 (by decide) S30 b36 hq39) (cwV 0 hts gX11_table_Jx4a65c_size_8abf5 rfl rfl rfl (by decide +kernel) ⟨Nat.le_of_ble_eq_true rfl, Nat.le_of_ble_eq_true rfl⟩) ⟨cBlind D cc E S30 _, C_recv hK hw (by omega) (cell_L (r := 1) (by decide) hf9) (r := (RJx4a65c, TJx4a65c, 3)) rfl, fun U hU hW => ⟨rfl, C_pre hA hK hro hw U hU hW⟩⟩ rfl rfl hl.1 rfl (lv_room (Nat.le_of_ble_eq_true rfl)) dX11_table_39 ⟨by show _ ≤ mc; omega, by show _ ≤ ms; omega⟩) (fun H locs hw => ?_)
    refine W.widen (k := mc - kc7) (n := ms - ks7) (Nat.le_refl _) (Nat.le_refl _) ?_
    refine lv_iconst (v := 1) hx hb dX11_table_42 (by decide) ?_
    refine lv_isub hx hb dX11_table_43 ?_
    obtain ⟨q44, hq44, h⟩ := of_cal h
    obtain ⟨r44, S44⟩ := q44
    have h := of_un2 h
    refine C_i hA hw (va_runV (As := [.int (q39 - (1 : Int32))]) (rest := []) ⟨hx, hb, hml, hown, hts⟩ (cX11_accept_ok l D cc E n S30 a0 (q39 - (1 : Int32)) hq44) (cwV 1 hts gX11_table_X11_accept rfl rfl rfl (by decide +kernel) ⟨Nat.le_of_ble_eq_true rfl, Nat.le_of_ble_eq_true rfl⟩) ⟨cBlind D cc E S30 _, C_recv hK hw (by omega) (cell_12 hf8) (r := (RX11, TX11, 12)) rfl, fun U hU hW => ⟨rfl, C_pre hA hK hro hw U hU hW⟩⟩ rfl rfl hl.1 rfl (lv_room (Nat.le_of_ble_eq_true rfl)) dX11_table_44 ⟨by show _ ≤ mc; omega, by show _ ≤ ms; omega⟩) (fun H locs hw => ?_)
    refine W.widen (k := mc - kc7) (n := ms - ks7) (Nat.le_refl _) (Nat.le_refl _) ?_
    obtain ⟨rfl, rfl, ek1, ek2⟩ := of_retA h
    refine W.widen (k := mc) (n := ms) (by omega) (by omega) ?_
    exact C_iret hx hb hr hlocks hw (by rfl) dX11_table_47
  · have h := of_if h c9
    refine lv_aload_n hx hb dX11_table_12 rfl (lv_at hl 0 rfl) ?_
    refine lv_bipush (v := -5) hx hb dX11_table_13 (by decide) ?_
    obtain ⟨q15, hq15, h⟩ := of_cal h
    obtain ⟨r15, S15⟩ := q15
    have h := of_un2 h
    refine C_i hA hw (va_runV (As := [.int (-5 : Int32)]) (rest := []) ⟨hx, hb, hml, hown, hts⟩ (cX11_refuse_ok l D cc E n S a0 (-5 : Int32) hq15) (cwV 1 hts gX11_table_X11_refuse rfl rfl rfl (by decide +kernel) ⟨Nat.le_of_ble_eq_true rfl, Nat.le_of_ble_eq_true rfl⟩) ⟨cBlind D cc E S _, C_recv hK hw (by omega) (cell_12 hf1) (r := (RX11, TX11, 12)) rfl, fun U hU hW => ⟨rfl, C_pre hA hK hro hw U hU hW⟩⟩ rfl rfl hl.1 rfl (lv_room (Nat.le_of_ble_eq_true rfl)) dX11_table_15 ⟨by show _ ≤ mc; omega, by show _ ≤ ms; omega⟩) (fun H locs hw => ?_)
    refine W.widen (k := mc - mc) (n := ms - ms) (Nat.le_refl _) (Nat.le_refl _) ?_
    obtain ⟨rfl, rfl, ek1, ek2⟩ := of_retA h
    refine W.widen (k := mc) (n := ms) (by omega) (by omega) ?_
    exact C_iret hx hb hr hlocks hw (by rfl) dX11_table_18

def fX11_family (n : Nat × Nat) (S : CS) (a0 : Nat) (a1 : Int32) (a2 : Int32) (a3 : Int32) : Option ((Int32 × CS) × Nat × Nat) :=
  bnd (fX11_isWithin a2 (1 : Int32) (12 : Int32)) (fun r4 => if r4 = 0 then 
    grd (cD S a0 = 12) (cal (fX11_refuse n S a0 (-1 : Int32)) (un2 fun r23 S23 => some ((r23, S23), 0, 0)))
    else bnd (fX11_isWithin a3 (0 : Int32) (255 : Int32)) (fun r15 => if r15 = 0 then 
      grd (cD S a0 = 12) (cal (fX11_refuse n S a0 (-1 : Int32)) (un2 fun r23 S23 => some ((r23, S23), 0, 0)))
      else grd (cD S a0 = 12) (cal (fX11_findTable n S a0 a1) (fun q29 => oel q29 (cal (fX11_refuse n S a0 (-2 : Int32)) (un2 fun r38 S38 => some ((r38, S38), 0, 0))) (fun b32 => onn (cR S 243 a0) (fun b43 => grd (cD S b43 = 22) (cal (fL_size n 2 S b43) (fun q46 => if q46 < (40 : Int32) then 
          onn (cR S 243 a0) (fun b62 => adc 1 4 (bnd (nx S) (fun q65 => bnd (nw S 1 0) (fun S65 => cal (fX0_init n S65 q65 a2 a3) (un2 fun S71 u71 => un2 (fun c1_71 c2_71 => adc c1_71 c2_71 (grd (cD S71 b62 = 22) (cal (fL_add n 2 S71 b62 q65) (un2 fun w74 u74 => un2 (fun r74 S74 => un2 (fun c1_74 c2_74 => adc c1_74 c2_74 (grd (cD S74 a0 = 12) (onn (cR S74 243 a0) (fun b80 => grd (cD S74 b80 = 22) (cal (fL_size n 2 S74 b80) (fun q83 => cal (fX11_accept n S74 a0 (q83 - (1 : Int32))) (un2 fun r88 S88 => some ((r88, S88), 0, 0)))))))) u74) w74)))) u71)))))
          else cal (fX11_refuse n S a0 (-5 : Int32)) (un2 fun r57 S57 => some ((r57, S57), 0, 0))))))))))
set_option maxHeartbeats 8000000 in
set_option maxRecDepth 100000 in
theorem cX11_family_ok (l : Launch) (D : va_G) (cc : Nat → ClassId) (E : Nat → Nat) (n : Nat × Nat) (hE : E 0 = n.2) (S : CS) (a0 : Nat) (a1 : Int32) (a2 : Int32) (a3 : Int32) {r : Int32} {T : CS} {mc ms : Nat} (h : fX11_family n S a0 a1 a2 a3 = some ((r, T), mc, ms)) : Ci l yX11_family wsX11_family 7 191 D cc E [.ref a0, .int a1, .int a2, .int a3] S r T mc ms := by
  refine C_of (own := RX11) (bb := cX11_family) (nL := 4) (ret := (some .int)) (by decide) rfl rfl (Nat.le_of_ble_eq_true rfl) ?_
  intro p e s m args below meth c hx hb hr hlocks hml hts hown hnm hA hK hro hw ls hl
  generalize va_A (cPs cc S) (nx S) = A at hA hro hw ⊢
  unfold fX11_family at h
  have hinX0 : ∀ w ∈ wsX00, w ∈ wsX11_family := by decide +kernel
  have hinX11 : ∀ w ∈ wsX110, w ∈ wsX11_family := by decide +kernel
  have hl : lv_has ls 4 [(0, .ref a0), (1, .int a1), (2, .int a2), (3, .int a3)] := hl
  refine W.widen (k := mc - mc) (n := ms - ms) (by omega) (by omega) ?_
  have hk1 : mc ≤ mc := Nat.le_refl _
  have hk2 : ms ≤ ms := Nat.le_refl _
  refine lv_iload_n hx hb dX11_family_0 rfl (lv_at hl 2 rfl) ?_
  refine lv_iconst (v := 1) hx hb dX11_family_1 (by decide) ?_
  refine lv_bipush (v := 12) hx hb dX11_family_2 (by decide) ?_
  refine C_s (va_runS (As := [.int a2, .int (1 : Int32), .int (12 : Int32)]) (rest := []) ⟨hx, hb, hml, hown, hts⟩ (cX11_isWithin_ok l a2 (1 : Int32) (12 : Int32)) (va_cwS 3 hts gX11_family_X11_isWithin rfl rfl rfl (by decide +kernel) ⟨Nat.le_of_ble_eq_true rfl, Nat.le_of_ble_eq_true rfl⟩) ⟨fun a U g mk q => ⟨q.1, trivial⟩, fun U hU hW => ⟨rfl, trivial⟩⟩ rfl rfl hl.1 rfl (lv_room (Nat.le_of_ble_eq_true rfl)) dX11_family_4 ⟨by show _ ≤ mc; omega, by show _ ≤ ms; omega⟩) (fun r4 er4 => ?_)
  have h := of_bnd h er4
  refine lv_if_eq (tgt := 21) hx hb dX11_family_7 (by decide) (fun c7 => ?_) (fun c7 => ?_)
  · have h := of_it h c7
    refine lv_aload_n hx hb dX11_family_21 rfl (lv_at hl 0 rfl) ?_
    refine lv_iconst (v := -1) hx hb dX11_family_22 (by decide) ?_
    obtain ⟨hf1, h⟩ := of_grd h
    obtain ⟨q23, hq23, h⟩ := of_cal h
    obtain ⟨r23, S23⟩ := q23
    have h := of_un2 h
    refine C_i hA hw (va_runV (As := [.int (-1 : Int32)]) (rest := []) ⟨hx, hb, hml, hown, hts⟩ (cX11_refuse_ok l D cc E n S a0 (-1 : Int32) hq23) (cwV 1 hts gX11_family_X11_refuse rfl rfl rfl (by decide +kernel) ⟨Nat.le_of_ble_eq_true rfl, Nat.le_of_ble_eq_true rfl⟩) ⟨cBlind D cc E S _, C_recv hK hw (by omega) (cell_12 hf1) (r := (RX11, TX11, 12)) rfl, fun U hU hW => ⟨rfl, C_pre hA hK hro hw U hU hW⟩⟩ rfl rfl hl.1 rfl (lv_room (Nat.le_of_ble_eq_true rfl)) dX11_family_23 ⟨by show _ ≤ mc; omega, by show _ ≤ ms; omega⟩) (fun H locs hw => ?_)
    refine W.widen (k := mc - mc) (n := ms - ms) (Nat.le_refl _) (Nat.le_refl _) ?_
    obtain ⟨rfl, rfl, ek1, ek2⟩ := of_retA h
    refine W.widen (k := mc) (n := ms) (by omega) (by omega) ?_
    exact C_iret hx hb hr hlocks hw (by rfl) dX11_family_26
  · have h := of_if h c7
    refine lv_iload_n hx hb dX11_family_10 rfl (lv_at hl 3 rfl) ?_
    refine lv_iconst (v := 0) hx hb dX11_family_11 (by decide) ?_
    refine lv_sipush (v := 255) hx hb dX11_family_12 (by decide) ?_
    refine C_s (va_runS (As := [.int a3, .int (0 : Int32), .int (255 : Int32)]) (rest := []) ⟨hx, hb, hml, hown, hts⟩ (cX11_isWithin_ok l a3 (0 : Int32) (255 : Int32)) (va_cwS 3 hts gX11_family_X11_isWithin rfl rfl rfl (by decide +kernel) ⟨Nat.le_of_ble_eq_true rfl, Nat.le_of_ble_eq_true rfl⟩) ⟨fun a U g mk q => ⟨q.1, trivial⟩, fun U hU hW => ⟨rfl, trivial⟩⟩ rfl rfl hl.1 rfl (lv_room (Nat.le_of_ble_eq_true rfl)) dX11_family_15 ⟨by show _ ≤ mc; omega, by show _ ≤ ms; omega⟩) (fun r15 er15 => ?_)
    have h := of_bnd h er15
    refine lv_if_ne (tgt := 27) hx hb dX11_family_18 (by decide) (fun c18 => ?_) (fun c18 => ?_)
    · have h := of_if h c18
      refine lv_aload_n hx hb dX11_family_27 rfl (lv_at hl 0 rfl) ?_
      refine lv_iload_n hx hb dX11_family_28 rfl (lv_at hl 1 rfl) ?_
      obtain ⟨hf2, h⟩ := of_grd h
      obtain ⟨q29, hq29, h⟩ := of_cal h
      refine C_q hA hw (va_runV (As := [.int a1]) (rest := []) ⟨hx, hb, hml, hown, hts⟩ (cX11_findTable_ok l D cc E n S a0 a1 hq29) (cwV 1 hts gX11_family_X11_findTable rfl rfl rfl (by decide +kernel) ⟨Nat.le_of_ble_eq_true rfl, Nat.le_of_ble_eq_true rfl⟩) ⟨cBlind D cc E S _, C_recv hK hw (by omega) (cell_12 hf2) (r := (RX11, TX11, 12)) rfl, fun U hU hW => ⟨rfl, C_pre hA hK hro hw U hU hW⟩⟩ rfl rfl hl.1 rfl (lv_room (Nat.le_of_ble_eq_true rfl)) dX11_family_29 ⟨by show _ ≤ mc; omega, by show _ ≤ ms; omega⟩) (fun H locs hw => ?_)
      refine W.widen (k := mc - mc) (n := ms - ms) (Nat.le_refl _) (Nat.le_refl _) ?_
      rcases q29 with _ | b32
      · have h := of_oelN h
        have hl : lv_has ls 4 [(0, .ref a0), (1, .int a1), (2, .int a2), (3, .int a3)] := hl
        refine lv_ifnonnullN hx hb dX11_family_32 ?_
        refine lv_aload_n hx hb dX11_family_35 rfl (lv_at hl 0 rfl) ?_
        refine lv_bipush (v := -2) hx hb dX11_family_36 (by decide) ?_
        obtain ⟨q38, hq38, h⟩ := of_cal h
        obtain ⟨r38, S38⟩ := q38
        have h := of_un2 h
        refine C_i hA hw (va_runV (As := [.int (-2 : Int32)]) (rest := []) ⟨hx, hb, hml, hown, hts⟩ (cX11_refuse_ok l D cc E n S a0 (-2 : Int32) hq38) (cwV 1 hts gX11_family_X11_refuse rfl rfl rfl (by decide +kernel) ⟨Nat.le_of_ble_eq_true rfl, Nat.le_of_ble_eq_true rfl⟩) ⟨cBlind D cc E S _, C_recv hK hw (by omega) (cell_12 hf2) (r := (RX11, TX11, 12)) rfl, fun U hU hW => ⟨rfl, C_pre hA hK hro hw U hU hW⟩⟩ rfl rfl hl.1 rfl (lv_room (Nat.le_of_ble_eq_true rfl)) dX11_family_38 ⟨by show _ ≤ mc; omega, by show _ ≤ ms; omega⟩) (fun H locs hw => ?_)
        refine W.widen (k := mc - mc) (n := ms - ms) (Nat.le_refl _) (Nat.le_refl _) ?_
        obtain ⟨rfl, rfl, ek1, ek2⟩ := of_retA h
        refine W.widen (k := mc) (n := ms) (by omega) (by omega) ?_
        exact C_iret hx hb hr hlocks hw (by rfl) dX11_family_41
      · have h := of_oelS h
        have hl : lv_has ls 4 [(0, .ref a0), (1, .int a1), (2, .int a2), (3, .int a3)] := hl
        refine lv_ifnonnull (tgt := 42) hx hb dX11_family_32 (by decide) ?_
        refine lv_aload_n hx hb dX11_family_42 rfl (lv_at hl 0 rfl) ?_
        obtain ⟨b43, eb43, h⟩ := of_onn h
        refine C_get hx hb hts hinX11 hown hK hw (cell_12 hf2) (by omega) rfl 3 (by decide) (index := 27) (by decide +kernel) rfl (v := .ref b43) (congrArg (fun o => some (va_rf o)) eb43) dX11_family_43 ?_
        obtain ⟨hf3, h⟩ := of_grd h
        obtain ⟨q46, hq46, h⟩ := of_cal h
        refine C_i hA hw (va_runV (As := []) (rest := []) ⟨hx, hb, hml, hown, hts⟩ (cL_size_ok l D cc E n 2 (by decide) S b43 hq46) (cwV 0 hts gX11_family_Jx4a65c_size_8abf5 rfl rfl rfl (by decide +kernel) ⟨Nat.le_of_ble_eq_true rfl, Nat.le_of_ble_eq_true rfl⟩) ⟨cBlind D cc E S _, C_recv hK hw (by omega) (cell_L (r := 2) (by decide) hf3) (r := (RJx4a65c, TJx4a65c, 3)) rfl, fun U hU hW => ⟨rfl, C_pre hA hK hro hw U hU hW⟩⟩ rfl rfl hl.1 rfl (lv_room (Nat.le_of_ble_eq_true rfl)) dX11_family_46 ⟨by show _ ≤ mc; omega, by show _ ≤ ms; omega⟩) (fun H locs hw => ?_)
        refine W.widen (k := mc - mc) (n := ms - ms) (Nat.le_refl _) (Nat.le_refl _) ?_
        refine lv_bipush (v := 40) hx hb dX11_family_49 (by decide) ?_
        refine lv_icmp_lt (tgt := 61) hx hb dX11_family_51 (by decide) (fun c51 => ?_) (fun c51 => ?_)
        · have h := of_it h c51
          refine lv_aload_n hx hb dX11_family_61 rfl (lv_at hl 0 rfl) ?_
          obtain ⟨b62, eb62, h⟩ := of_onn h
          refine C_get hx hb hts hinX11 hown hK hw (cell_12 hf2) (by omega) rfl 3 (by decide) (index := 27) (by decide +kernel) rfl (v := .ref b62) (congrArg (fun o => some (va_rf o)) eb62) dX11_family_62 ?_
          obtain ⟨kc4, ks4, h, ek1, ek2⟩ := of_adc h
          refine C_new (d := 1) hx hb hts hinX0 tyX0 tyX0_ok hown (index := 114) (by decide +kernel) (by decide +kernel) (by decide +kernel) hK hA hw rfl (fun j hj => dfX0 j hj) (cnew_1 S) (by show _ ≤ mc; omega) (by show _ ≤ ms; omega) dX11_family_65 (fun q65 S65 H eq65 eS65 hw => ?_)
          have h := of_bnd h eq65
          have h := of_bnd h eS65
          refine W.widen (k := mc - kc4) (n := ms - ks4) (by omega) (by omega) ?_
          have hk1 : kc4 ≤ mc := by omega
          have hk2 : ks4 ≤ ms := by omega
          have hf5 : cD S65 q65 = 1 := by rw [eS65, eq65]; exact cD_new _ _ _
          refine lv_dup hx hb dX11_family_68 rfl ?_
          refine lv_iload_n hx hb dX11_family_69 rfl (lv_at hl 2 rfl) ?_
          refine lv_iload_n hx hb dX11_family_70 rfl (lv_at hl 3 rfl) ?_
          obtain ⟨q71, hq71, h⟩ := of_cal h
          obtain ⟨S71, c1_71, c2_71⟩ := q71
          have h := of_un2 h
          have h := of_un2 h
          obtain ⟨kc6, ks6, h, ek1, ek2⟩ := of_adc h
          refine C_v hA hw (va_runI (As := [.int a2, .int a3]) (rest := [.ref q65, .ref b62]) ⟨hx, hb, hml, hown, hts⟩ (cX0_init_ok l D cc E n S65 q65 a2 a3 hq71) (cwI 2 hts gX11_family_X0_init rfl rfl rfl (hts (.initialized RX0) (by decide +kernel)) (hts (.methodLink RX11 116 yX0_init) (by decide +kernel)) (hts (.instanceMethod yX0_init) (by decide +kernel)) rfl (by decide +kernel) ⟨Nat.le_of_ble_eq_true rfl, Nat.le_of_ble_eq_true rfl⟩) ⟨cBlind D cc E S65 _, fun U hU hW => ⟨rfl, C_pre hA hK hro hw U hU hW⟩⟩ rfl rfl hl.1 rfl (lv_room (Nat.le_of_ble_eq_true rfl)) dX11_family_71 ⟨by show _ ≤ mc; omega, by show _ ≤ ms; omega⟩) (fun H locs hw => ?_)
          refine W.widen (k := mc - kc6) (n := ms - ks6) (by omega) (by omega) ?_
          have hk1 : kc6 ≤ mc := by omega
          have hk2 : ks6 ≤ ms := by omega
          obtain ⟨hf7, h⟩ := of_grd h
          obtain ⟨q74, hq74, h⟩ := of_cal h
          obtain ⟨⟨r74, S74⟩, c1_74, c2_74⟩ := q74
          have h := of_un2 h
          have h := of_un2 h
          have h := of_un2 h
          obtain ⟨kc8, ks8, h, ek1, ek2⟩ := of_adc h
          refine C_i hA hw (va_runV (As := [.ref q65]) (rest := []) ⟨hx, hb, hml, hown, hts⟩ (cL_add_ok l D cc E n hE 2 (by decide) S71 b62 q65 hq74) (cwV 1 hts gX11_family_Jx4a65c_add_9ea2d rfl rfl rfl (by decide +kernel) ⟨Nat.le_of_ble_eq_true rfl, Nat.le_of_ble_eq_true rfl⟩) ⟨cBlind D cc E S71 _, C_recv hK hw (by omega) (cell_L (r := 2) (by decide) hf7) (r := (RJx4a65c, TJx4a65c, 3)) rfl, fun U hU hW => ⟨rfl, C_pre hA hK hro hw U hU hW⟩⟩ rfl rfl hl.1 rfl (lv_room (Nat.le_of_ble_eq_true rfl)) dX11_family_74 ⟨by show _ ≤ mc; omega, by show _ ≤ ms; omega⟩) (fun H locs hw => ?_)
          refine W.widen (k := mc - kc8) (n := ms - ks8) (by omega) (by omega) ?_
          have hk1 : kc8 ≤ mc := by omega
          have hk2 : ks8 ≤ ms := by omega
          refine lv_pop hx hb dX11_family_77 rfl ?_
          refine lv_aload_n hx hb dX11_family_78 rfl (lv_at hl 0 rfl) ?_
          refine lv_aload_n hx hb dX11_family_79 rfl (lv_at hl 0 rfl) ?_
          obtain ⟨hf9, h⟩ := of_grd h
          obtain ⟨b80, eb80, h⟩ := of_onn h
          refine C_get hx hb hts hinX11 hown hK hw (cell_12 hf9) (by omega) rfl 3 (by decide) (index := 27) (by decide +kernel) rfl (v := .ref b80) (congrArg (fun o => some (va_rf o)) eb80) dX11_family_80 ?_
          obtain ⟨hf10, h⟩ := of_grd h
          obtain ⟨q83, hq83, h⟩ := of_cal h
          refine C_i hA hw (va_runV (As := []) (rest := [.ref a0]) ⟨hx, hb, hml, hown, hts⟩ (cL_size_ok l D cc E n 2 (by decide) S74 b80 hq83) (cwV 0 hts gX11_family_Jx4a65c_size_8abf5 rfl rfl rfl (by decide +kernel) ⟨Nat.le_of_ble_eq_true rfl, Nat.le_of_ble_eq_true rfl⟩) ⟨cBlind D cc E S74 _, C_recv hK hw (by omega) (cell_L (r := 2) (by decide) hf10) (r := (RJx4a65c, TJx4a65c, 3)) rfl, fun U hU hW => ⟨rfl, C_pre hA hK hro hw U hU hW⟩⟩ rfl rfl hl.1 rfl (lv_room (Nat.le_of_ble_eq_true rfl)) dX11_family_83 ⟨by show _ ≤ mc; omega, by show _ ≤ ms; omega⟩) (fun H locs hw => ?_)
          refine W.widen (k := mc - kc8) (n := ms - ks8) (Nat.le_refl _) (Nat.le_refl _) ?_
          refine lv_iconst (v := 1) hx hb dX11_family_86 (by decide) ?_
          refine lv_isub hx hb dX11_family_87 ?_
          obtain ⟨q88, hq88, h⟩ := of_cal h
          obtain ⟨r88, S88⟩ := q88
          have h := of_un2 h
          refine C_i hA hw (va_runV (As := [.int (q83 - (1 : Int32))]) (rest := []) ⟨hx, hb, hml, hown, hts⟩ (cX11_accept_ok l D cc E n S74 a0 (q83 - (1 : Int32)) hq88) (cwV 1 hts gX11_family_X11_accept rfl rfl rfl (by decide +kernel) ⟨Nat.le_of_ble_eq_true rfl, Nat.le_of_ble_eq_true rfl⟩) ⟨cBlind D cc E S74 _, C_recv hK hw (by omega) (cell_12 hf9) (r := (RX11, TX11, 12)) rfl, fun U hU hW => ⟨rfl, C_pre hA hK hro hw U hU hW⟩⟩ rfl rfl hl.1 rfl (lv_room (Nat.le_of_ble_eq_true rfl)) dX11_family_88 ⟨by show _ ≤ mc; omega, by show _ ≤ ms; omega⟩) (fun H locs hw => ?_)
          refine W.widen (k := mc - kc8) (n := ms - ks8) (Nat.le_refl _) (Nat.le_refl _) ?_
          obtain ⟨rfl, rfl, ek1, ek2⟩ := of_retA h
          refine W.widen (k := mc) (n := ms) (by omega) (by omega) ?_
          exact C_iret hx hb hr hlocks hw (by rfl) dX11_family_91
        · have h := of_if h c51
          refine lv_aload_n hx hb dX11_family_54 rfl (lv_at hl 0 rfl) ?_
          refine lv_bipush (v := -5) hx hb dX11_family_55 (by decide) ?_
          obtain ⟨q57, hq57, h⟩ := of_cal h
          obtain ⟨r57, S57⟩ := q57
          have h := of_un2 h
          refine C_i hA hw (va_runV (As := [.int (-5 : Int32)]) (rest := []) ⟨hx, hb, hml, hown, hts⟩ (cX11_refuse_ok l D cc E n S a0 (-5 : Int32) hq57) (cwV 1 hts gX11_family_X11_refuse rfl rfl rfl (by decide +kernel) ⟨Nat.le_of_ble_eq_true rfl, Nat.le_of_ble_eq_true rfl⟩) ⟨cBlind D cc E S _, C_recv hK hw (by omega) (cell_12 hf2) (r := (RX11, TX11, 12)) rfl, fun U hU hW => ⟨rfl, C_pre hA hK hro hw U hU hW⟩⟩ rfl rfl hl.1 rfl (lv_room (Nat.le_of_ble_eq_true rfl)) dX11_family_57 ⟨by show _ ≤ mc; omega, by show _ ≤ ms; omega⟩) (fun H locs hw => ?_)
          refine W.widen (k := mc - mc) (n := ms - ms) (Nat.le_refl _) (Nat.le_refl _) ?_
          obtain ⟨rfl, rfl, ek1, ek2⟩ := of_retA h
          refine W.widen (k := mc) (n := ms) (by omega) (by omega) ?_
          exact C_iret hx hb hr hlocks hw (by rfl) dX11_family_60
    · have h := of_it h c18
      refine lv_aload_n hx hb dX11_family_21 rfl (lv_at hl 0 rfl) ?_
      refine lv_iconst (v := -1) hx hb dX11_family_22 (by decide) ?_
      obtain ⟨hf11, h⟩ := of_grd h
      obtain ⟨q23, hq23, h⟩ := of_cal h
      obtain ⟨r23, S23⟩ := q23
      have h := of_un2 h
      refine C_i hA hw (va_runV (As := [.int (-1 : Int32)]) (rest := []) ⟨hx, hb, hml, hown, hts⟩ (cX11_refuse_ok l D cc E n S a0 (-1 : Int32) hq23) (cwV 1 hts gX11_family_X11_refuse rfl rfl rfl (by decide +kernel) ⟨Nat.le_of_ble_eq_true rfl, Nat.le_of_ble_eq_true rfl⟩) ⟨cBlind D cc E S _, C_recv hK hw (by omega) (cell_12 hf11) (r := (RX11, TX11, 12)) rfl, fun U hU hW => ⟨rfl, C_pre hA hK hro hw U hU hW⟩⟩ rfl rfl hl.1 rfl (lv_room (Nat.le_of_ble_eq_true rfl)) dX11_family_23 ⟨by show _ ≤ mc; omega, by show _ ≤ ms; omega⟩) (fun H locs hw => ?_)
      refine W.widen (k := mc - mc) (n := ms - ms) (Nat.le_refl _) (Nat.le_refl _) ?_
      obtain ⟨rfl, rfl, ek1, ek2⟩ := of_retA h
      refine W.widen (k := mc) (n := ms) (by omega) (by omega) ?_
      exact C_iret hx hb hr hlocks hw (by rfl) dX11_family_26

def fX11_refer (n : Nat × Nat) (S : CS) (a0 : Nat) (a1 : Int32) (a2 : Int32) (a3 : Int32) (a4 : Int32) : Option ((Int32 × CS) × Nat × Nat) :=
  bnd (fX11_isWithin a2 (0 : Int32) (1000 : Int32)) (fun r5 => if r5 = 0 then 
    grd (cD S a0 = 12) (cal (fX11_refuse n S a0 (-1 : Int32)) (un2 fun r35 S35 => some ((r35, S35), 0, 0)))
    else bnd (fX11_isWithin a3 a2 (1000 : Int32)) (fun r16 => if r16 = 0 then 
      grd (cD S a0 = 12) (cal (fX11_refuse n S a0 (-1 : Int32)) (un2 fun r35 S35 => some ((r35, S35), 0, 0)))
      else bnd (fX11_isWithin a4 (1 : Int32) (20 : Int32)) (fun r27 => if r27 = 0 then 
        grd (cD S a0 = 12) (cal (fX11_refuse n S a0 (-1 : Int32)) (un2 fun r35 S35 => some ((r35, S35), 0, 0)))
        else grd (cD S a0 = 12) (cal (fX11_findFamily n S a0 a1) (fun q41 => oel q41 (cal (fX11_refuse n S a0 (-2 : Int32)) (un2 fun r54 S54 => some ((r54, S54), 0, 0))) (fun b48 => bnd (cI S 249 a0) (fun v59 => if v59 < (100 : Int32) then 
            adc 1 4 (bnd (nx S) (fun q76 => bnd (nw S 5 0) (fun S76 => grd (cD S76 b48 = 1) (bnd (cR S76 23 b48) (fun o86 => cal (fX4_init n S76 q76 a2 a3 a4 o86) (fun S89 => grd (cD S89 b48 = 1) (bnd (uR S89 23 b48 (some q76)) (fun S92 => grd (cD S92 a0 = 12) (bnd (cI S92 249 a0) (fun v97 => bnd (uI S92 249 a0 (v97 + (1 : Int32))) (fun S102 => bnd (cI S102 249 a0) (fun v107 => cal (fX11_accept n S102 a0 v107) (un2 fun r110 S110 => some ((r110, S110), 0, 0))))))))))))))
            else cal (fX11_refuse n S a0 (-5 : Int32)) (un2 fun r70 S70 => some ((r70, S70), 0, 0)))))))))
set_option maxHeartbeats 8000000 in
set_option maxRecDepth 100000 in
theorem cX11_refer_ok (l : Launch) (D : va_G) (cc : Nat → ClassId) (E : Nat → Nat) (n : Nat × Nat) (S : CS) (a0 : Nat) (a1 : Int32) (a2 : Int32) (a3 : Int32) (a4 : Int32) {r : Int32} {T : CS} {mc ms : Nat} (h : fX11_refer n S a0 a1 a2 a3 a4 = some ((r, T), mc, ms)) : Ci l yX11_refer wsX11_refer 4 85 D cc E [.ref a0, .int a1, .int a2, .int a3, .int a4] S r T mc ms := by
  refine C_of (own := RX11) (bb := cX11_refer) (nL := 6) (ret := (some .int)) (by decide) rfl rfl (Nat.le_of_ble_eq_true rfl) ?_
  intro p e s m args below meth c hx hb hr hlocks hml hts hown hnm hA hK hro hw ls hl
  generalize va_A (cPs cc S) (nx S) = A at hA hro hw ⊢
  unfold fX11_refer at h
  have hinX0 : ∀ w ∈ wsX00, w ∈ wsX11_refer := by decide +kernel
  have hinX11 : ∀ w ∈ wsX110, w ∈ wsX11_refer := by decide +kernel
  have hinX4 : ∀ w ∈ wsX40, w ∈ wsX11_refer := by decide +kernel
  have hl : lv_has ls 6 [(0, .ref a0), (1, .int a1), (2, .int a2), (3, .int a3), (4, .int a4)] := hl
  refine W.widen (k := mc - mc) (n := ms - ms) (by omega) (by omega) ?_
  have hk1 : mc ≤ mc := Nat.le_refl _
  have hk2 : ms ≤ ms := Nat.le_refl _
  refine lv_iload_n hx hb dX11_refer_0 rfl (lv_at hl 2 rfl) ?_
  refine lv_iconst (v := 0) hx hb dX11_refer_1 (by decide) ?_
  refine lv_sipush (v := 1000) hx hb dX11_refer_2 (by decide) ?_
  refine C_s (va_runS (As := [.int a2, .int (0 : Int32), .int (1000 : Int32)]) (rest := []) ⟨hx, hb, hml, hown, hts⟩ (cX11_isWithin_ok l a2 (0 : Int32) (1000 : Int32)) (va_cwS 3 hts gX11_refer_X11_isWithin rfl rfl rfl (by decide +kernel) ⟨Nat.le_of_ble_eq_true rfl, Nat.le_of_ble_eq_true rfl⟩) ⟨fun a U g mk q => ⟨q.1, trivial⟩, fun U hU hW => ⟨rfl, trivial⟩⟩ rfl rfl hl.1 rfl (lv_room (Nat.le_of_ble_eq_true rfl)) dX11_refer_5 ⟨by show _ ≤ mc; omega, by show _ ≤ ms; omega⟩) (fun r5 er5 => ?_)
  have h := of_bnd h er5
  refine lv_if_eq (tgt := 33) hx hb dX11_refer_8 (by decide) (fun c8 => ?_) (fun c8 => ?_)
  · have h := of_it h c8
    refine lv_aload_n hx hb dX11_refer_33 rfl (lv_at hl 0 rfl) ?_
    refine lv_iconst (v := -1) hx hb dX11_refer_34 (by decide) ?_
    obtain ⟨hf1, h⟩ := of_grd h
    obtain ⟨q35, hq35, h⟩ := of_cal h
    obtain ⟨r35, S35⟩ := q35
    have h := of_un2 h
    refine C_i hA hw (va_runV (As := [.int (-1 : Int32)]) (rest := []) ⟨hx, hb, hml, hown, hts⟩ (cX11_refuse_ok l D cc E n S a0 (-1 : Int32) hq35) (cwV 1 hts gX11_refer_X11_refuse rfl rfl rfl (by decide +kernel) ⟨Nat.le_of_ble_eq_true rfl, Nat.le_of_ble_eq_true rfl⟩) ⟨cBlind D cc E S _, C_recv hK hw (by omega) (cell_12 hf1) (r := (RX11, TX11, 12)) rfl, fun U hU hW => ⟨rfl, C_pre hA hK hro hw U hU hW⟩⟩ rfl rfl hl.1 rfl (lv_room (Nat.le_of_ble_eq_true rfl)) dX11_refer_35 ⟨by show _ ≤ mc; omega, by show _ ≤ ms; omega⟩) (fun H locs hw => ?_)
    refine W.widen (k := mc - mc) (n := ms - ms) (Nat.le_refl _) (Nat.le_refl _) ?_
    obtain ⟨rfl, rfl, ek1, ek2⟩ := of_retA h
    refine W.widen (k := mc) (n := ms) (by omega) (by omega) ?_
    exact C_iret hx hb hr hlocks hw (by rfl) dX11_refer_38
  · have h := of_if h c8
    refine lv_iload_n hx hb dX11_refer_11 rfl (lv_at hl 3 rfl) ?_
    refine lv_iload_n hx hb dX11_refer_12 rfl (lv_at hl 2 rfl) ?_
    refine lv_sipush (v := 1000) hx hb dX11_refer_13 (by decide) ?_
    refine C_s (va_runS (As := [.int a3, .int a2, .int (1000 : Int32)]) (rest := []) ⟨hx, hb, hml, hown, hts⟩ (cX11_isWithin_ok l a3 a2 (1000 : Int32)) (va_cwS 3 hts gX11_refer_X11_isWithin rfl rfl rfl (by decide +kernel) ⟨Nat.le_of_ble_eq_true rfl, Nat.le_of_ble_eq_true rfl⟩) ⟨fun a U g mk q => ⟨q.1, trivial⟩, fun U hU hW => ⟨rfl, trivial⟩⟩ rfl rfl hl.1 rfl (lv_room (Nat.le_of_ble_eq_true rfl)) dX11_refer_16 ⟨by show _ ≤ mc; omega, by show _ ≤ ms; omega⟩) (fun r16 er16 => ?_)
    have h := of_bnd h er16
    refine lv_if_eq (tgt := 33) hx hb dX11_refer_19 (by decide) (fun c19 => ?_) (fun c19 => ?_)
    · have h := of_it h c19
      refine lv_aload_n hx hb dX11_refer_33 rfl (lv_at hl 0 rfl) ?_
      refine lv_iconst (v := -1) hx hb dX11_refer_34 (by decide) ?_
      obtain ⟨hf2, h⟩ := of_grd h
      obtain ⟨q35, hq35, h⟩ := of_cal h
      obtain ⟨r35, S35⟩ := q35
      have h := of_un2 h
      refine C_i hA hw (va_runV (As := [.int (-1 : Int32)]) (rest := []) ⟨hx, hb, hml, hown, hts⟩ (cX11_refuse_ok l D cc E n S a0 (-1 : Int32) hq35) (cwV 1 hts gX11_refer_X11_refuse rfl rfl rfl (by decide +kernel) ⟨Nat.le_of_ble_eq_true rfl, Nat.le_of_ble_eq_true rfl⟩) ⟨cBlind D cc E S _, C_recv hK hw (by omega) (cell_12 hf2) (r := (RX11, TX11, 12)) rfl, fun U hU hW => ⟨rfl, C_pre hA hK hro hw U hU hW⟩⟩ rfl rfl hl.1 rfl (lv_room (Nat.le_of_ble_eq_true rfl)) dX11_refer_35 ⟨by show _ ≤ mc; omega, by show _ ≤ ms; omega⟩) (fun H locs hw => ?_)
      refine W.widen (k := mc - mc) (n := ms - ms) (Nat.le_refl _) (Nat.le_refl _) ?_
      obtain ⟨rfl, rfl, ek1, ek2⟩ := of_retA h
      refine W.widen (k := mc) (n := ms) (by omega) (by omega) ?_
      exact C_iret hx hb hr hlocks hw (by rfl) dX11_refer_38
    · have h := of_if h c19
      refine lv_iload hx hb dX11_refer_22 (lv_at hl 4 rfl) ?_
      refine lv_iconst (v := 1) hx hb dX11_refer_24 (by decide) ?_
      refine lv_bipush (v := 20) hx hb dX11_refer_25 (by decide) ?_
      refine C_s (va_runS (As := [.int a4, .int (1 : Int32), .int (20 : Int32)]) (rest := []) ⟨hx, hb, hml, hown, hts⟩ (cX11_isWithin_ok l a4 (1 : Int32) (20 : Int32)) (va_cwS 3 hts gX11_refer_X11_isWithin rfl rfl rfl (by decide +kernel) ⟨Nat.le_of_ble_eq_true rfl, Nat.le_of_ble_eq_true rfl⟩) ⟨fun a U g mk q => ⟨q.1, trivial⟩, fun U hU hW => ⟨rfl, trivial⟩⟩ rfl rfl hl.1 rfl (lv_room (Nat.le_of_ble_eq_true rfl)) dX11_refer_27 ⟨by show _ ≤ mc; omega, by show _ ≤ ms; omega⟩) (fun r27 er27 => ?_)
      have h := of_bnd h er27
      refine lv_if_ne (tgt := 39) hx hb dX11_refer_30 (by decide) (fun c30 => ?_) (fun c30 => ?_)
      · have h := of_if h c30
        refine lv_aload_n hx hb dX11_refer_39 rfl (lv_at hl 0 rfl) ?_
        refine lv_iload_n hx hb dX11_refer_40 rfl (lv_at hl 1 rfl) ?_
        obtain ⟨hf3, h⟩ := of_grd h
        obtain ⟨q41, hq41, h⟩ := of_cal h
        refine C_q hA hw (va_runV (As := [.int a1]) (rest := []) ⟨hx, hb, hml, hown, hts⟩ (cX11_findFamily_ok l D cc E n S a0 a1 hq41) (cwV 1 hts gX11_refer_X11_findFamily rfl rfl rfl (by decide +kernel) ⟨Nat.le_of_ble_eq_true rfl, Nat.le_of_ble_eq_true rfl⟩) ⟨cBlind D cc E S _, C_recv hK hw (by omega) (cell_12 hf3) (r := (RX11, TX11, 12)) rfl, fun U hU hW => ⟨rfl, C_pre hA hK hro hw U hU hW⟩⟩ rfl rfl hl.1 rfl (lv_room (Nat.le_of_ble_eq_true rfl)) dX11_refer_41 ⟨by show _ ≤ mc; omega, by show _ ≤ ms; omega⟩) (fun H locs hw => ?_)
        refine W.widen (k := mc - mc) (n := ms - ms) (Nat.le_refl _) (Nat.le_refl _) ?_
        refine lv_astoreq (lv' := [(5, va_rf q41), (0, .ref a0), (1, .int a1), (2, .int a2), (3, .int a3), (4, .int a4)]) hx hb dX11_refer_44 hl (by decide) rfl (fun ls hl => ?_)
        refine lv_aloadq hx hb dX11_refer_46 (lv_at hl 0 rfl) ?_
        rcases q41 with _ | b48
        · have h := of_oelN h
          have hl : lv_has ls 6 [(5, .null), (0, .ref a0), (1, .int a1), (2, .int a2), (3, .int a3), (4, .int a4)] := hl
          refine lv_ifnonnullN hx hb dX11_refer_48 ?_
          refine lv_aload_n hx hb dX11_refer_51 rfl (lv_at hl 1 rfl) ?_
          refine lv_bipush (v := -2) hx hb dX11_refer_52 (by decide) ?_
          obtain ⟨q54, hq54, h⟩ := of_cal h
          obtain ⟨r54, S54⟩ := q54
          have h := of_un2 h
          refine C_i hA hw (va_runV (As := [.int (-2 : Int32)]) (rest := []) ⟨hx, hb, hml, hown, hts⟩ (cX11_refuse_ok l D cc E n S a0 (-2 : Int32) hq54) (cwV 1 hts gX11_refer_X11_refuse rfl rfl rfl (by decide +kernel) ⟨Nat.le_of_ble_eq_true rfl, Nat.le_of_ble_eq_true rfl⟩) ⟨cBlind D cc E S _, C_recv hK hw (by omega) (cell_12 hf3) (r := (RX11, TX11, 12)) rfl, fun U hU hW => ⟨rfl, C_pre hA hK hro hw U hU hW⟩⟩ rfl rfl hl.1 rfl (lv_room (Nat.le_of_ble_eq_true rfl)) dX11_refer_54 ⟨by show _ ≤ mc; omega, by show _ ≤ ms; omega⟩) (fun H locs hw => ?_)
          refine W.widen (k := mc - mc) (n := ms - ms) (Nat.le_refl _) (Nat.le_refl _) ?_
          obtain ⟨rfl, rfl, ek1, ek2⟩ := of_retA h
          refine W.widen (k := mc) (n := ms) (by omega) (by omega) ?_
          exact C_iret hx hb hr hlocks hw (by rfl) dX11_refer_57
        · have h := of_oelS h
          have hl : lv_has ls 6 [(5, .ref b48), (0, .ref a0), (1, .int a1), (2, .int a2), (3, .int a3), (4, .int a4)] := hl
          refine lv_ifnonnull (tgt := 58) hx hb dX11_refer_48 (by decide) ?_
          refine lv_aload_n hx hb dX11_refer_58 rfl (lv_at hl 1 rfl) ?_
          refine C_get hx hb hts hinX11 hown hK hw (cell_12 hf3) (by omega) rfl 9 (by decide) (index := 58) (by decide +kernel) rfl rfl dX11_refer_59 ?_
          refine lv_topi (fun v59 ev59 => ?_)
          have h := of_bnd h ev59
          refine lv_bipush (v := 100) hx hb dX11_refer_62 (by decide) ?_
          refine lv_icmp_lt (tgt := 74) hx hb dX11_refer_64 (by decide) (fun c64 => ?_) (fun c64 => ?_)
          · have h := of_it h c64
            refine lv_aload hx hb dX11_refer_74 (lv_at hl 0 rfl) ?_
            obtain ⟨kc4, ks4, h, ek1, ek2⟩ := of_adc h
            refine C_new (d := 5) hx hb hts hinX4 tyX4 tyX4_ok hown (index := 123) (by decide +kernel) (by decide +kernel) (by decide +kernel) hK hA hw rfl (fun j hj => dfX4 j hj) (cnew_5 S) (by show _ ≤ mc; omega) (by show _ ≤ ms; omega) dX11_refer_76 (fun q76 S76 H eq76 eS76 hw => ?_)
            have h := of_bnd h eq76
            have h := of_bnd h eS76
            refine W.widen (k := mc - kc4) (n := ms - ks4) (by omega) (by omega) ?_
            have hk1 : kc4 ≤ mc := by omega
            have hk2 : ks4 ≤ ms := by omega
            have hf5 : cD S76 q76 = 5 := by rw [eS76, eq76]; exact cD_new _ _ _
            refine lv_dup hx hb dX11_refer_79 rfl ?_
            refine lv_iload_n hx hb dX11_refer_80 rfl (lv_at hl 3 rfl) ?_
            refine lv_iload_n hx hb dX11_refer_81 rfl (lv_at hl 4 rfl) ?_
            refine lv_iload hx hb dX11_refer_82 (lv_at hl 5 rfl) ?_
            refine lv_aload hx hb dX11_refer_84 (lv_at hl 0 rfl) ?_
            obtain ⟨hf6, h⟩ := of_grd h
            obtain ⟨o86, eo86⟩ : ∃ o, o = cR S76 23 b48 := ⟨_, rfl⟩
            have h := of_bnd h eo86
            refine C_get hx hb hts hinX0 hown hK hw (cell_1 hf6) (by omega) rfl 3 (by decide) (index := 125) (by decide +kernel) rfl (v := va_rf o86) (congrArg (fun o => some (va_rf o)) eo86.symm) dX11_refer_86 ?_
            obtain ⟨q89, hq89, h⟩ := of_cal h
            obtain ⟨S89, eS89⟩ : ∃ x, x = q89 := ⟨_, rfl⟩
            subst eS89
            refine C_v hA hw (va_runI (As := [.int a2, .int a3, .int a4, va_rf o86]) (rest := [.ref q76, .ref b48]) ⟨hx, hb, hml, hown, hts⟩ (cX4_init_ok l D cc E n S76 q76 a2 a3 a4 o86 hq89) (cwI 4 hts gX11_refer_X4_init rfl rfl rfl (hts (.initialized RX4) (by decide +kernel)) (hts (.methodLink RX11 129 yX4_init) (by decide +kernel)) (hts (.instanceMethod yX4_init) (by decide +kernel)) rfl (by decide +kernel) ⟨Nat.le_of_ble_eq_true rfl, Nat.le_of_ble_eq_true rfl⟩) ⟨cBlind D cc E S76 _, fun U hU hW => ⟨rfl, C_pre hA hK hro hw U hU hW⟩⟩ rfl rfl hl.1 rfl (lv_room (Nat.le_of_ble_eq_true rfl)) dX11_refer_89 ⟨by show _ ≤ mc; omega, by show _ ≤ ms; omega⟩) (fun H locs hw => ?_)
            refine W.widen (k := mc - kc4) (n := ms - ks4) (Nat.le_refl _) (Nat.le_refl _) ?_
            obtain ⟨hf7, h⟩ := of_grd h
            refine C_put hx hb hts hinX0 tyX0 tyX0_ok nmX0 hown hK hw (cell_1 hf7) (by omega) rfl 3 (by decide) (index := 125) (by decide +kernel) rfl rfl (ty := (.object "FoodShares$Referral")) (by decide +kernel) rfl rfl (Nat.le_of_ble_eq_true rfl) (S' := uR S89 23 b48 (some q76)) rfl rfl rfl (pu_23 hf7 (some q76)) (fun b hb => off_uR hb) dX11_refer_92 (fun S92 H locs eS92 hw => ?_)
            have h := of_bnd h eS92
            refine lv_aload_n hx hb dX11_refer_95 rfl (lv_at hl 1 rfl) ?_
            refine lv_dup hx hb dX11_refer_96 rfl ?_
            obtain ⟨hf8, h⟩ := of_grd h
            refine C_get hx hb hts hinX11 hown hK hw (cell_12 hf8) (by omega) rfl 9 (by decide) (index := 58) (by decide +kernel) rfl rfl dX11_refer_97 ?_
            refine lv_topi (fun v97 ev97 => ?_)
            have h := of_bnd h ev97
            refine lv_iconst (v := 1) hx hb dX11_refer_100 (by decide) ?_
            refine lv_iadd hx hb dX11_refer_101 ?_
            refine C_put hx hb hts hinX11 tyX11 tyX11_ok nmX11 hown hK hw (cell_12 hf8) (by omega) rfl 9 (by decide) (index := 58) (by decide +kernel) rfl rfl (ty := .int) (by decide +kernel) rfl rfl (Nat.le_of_ble_eq_true rfl) (S' := uI S92 249 a0 (v97 + (1 : Int32))) rfl rfl rfl (pu_249 hf8 (v97 + (1 : Int32))) (fun b hb => off_uI hb) dX11_refer_102 (fun S102 H locs eS102 hw => ?_)
            have h := of_bnd h eS102
            refine lv_aload_n hx hb dX11_refer_105 rfl (lv_at hl 1 rfl) ?_
            refine lv_aload_n hx hb dX11_refer_106 rfl (lv_at hl 1 rfl) ?_
            have hf9 : cD S102 a0 = 12 := by rw [eS102]; exact hf8
            refine C_get hx hb hts hinX11 hown hK hw (cell_12 hf9) (by omega) rfl 9 (by decide) (index := 58) (by decide +kernel) rfl rfl dX11_refer_107 ?_
            refine lv_topi (fun v107 ev107 => ?_)
            have h := of_bnd h ev107
            obtain ⟨q110, hq110, h⟩ := of_cal h
            obtain ⟨r110, S110⟩ := q110
            have h := of_un2 h
            refine C_i hA hw (va_runV (As := [.int v107]) (rest := []) ⟨hx, hb, hml, hown, hts⟩ (cX11_accept_ok l D cc E n S102 a0 v107 hq110) (cwV 1 hts gX11_refer_X11_accept rfl rfl rfl (by decide +kernel) ⟨Nat.le_of_ble_eq_true rfl, Nat.le_of_ble_eq_true rfl⟩) ⟨cBlind D cc E S102 _, C_recv hK hw (by omega) (cell_12 hf9) (r := (RX11, TX11, 12)) rfl, fun U hU hW => ⟨rfl, C_pre hA hK hro hw U hU hW⟩⟩ rfl rfl hl.1 rfl (lv_room (Nat.le_of_ble_eq_true rfl)) dX11_refer_110 ⟨by show _ ≤ mc; omega, by show _ ≤ ms; omega⟩) (fun H locs hw => ?_)
            refine W.widen (k := mc - kc4) (n := ms - ks4) (Nat.le_refl _) (Nat.le_refl _) ?_
            obtain ⟨rfl, rfl, ek1, ek2⟩ := of_retA h
            refine W.widen (k := mc) (n := ms) (by omega) (by omega) ?_
            exact C_iret hx hb hr hlocks hw (by rfl) dX11_refer_113
          · have h := of_if h c64
            refine lv_aload_n hx hb dX11_refer_67 rfl (lv_at hl 1 rfl) ?_
            refine lv_bipush (v := -5) hx hb dX11_refer_68 (by decide) ?_
            obtain ⟨q70, hq70, h⟩ := of_cal h
            obtain ⟨r70, S70⟩ := q70
            have h := of_un2 h
            refine C_i hA hw (va_runV (As := [.int (-5 : Int32)]) (rest := []) ⟨hx, hb, hml, hown, hts⟩ (cX11_refuse_ok l D cc E n S a0 (-5 : Int32) hq70) (cwV 1 hts gX11_refer_X11_refuse rfl rfl rfl (by decide +kernel) ⟨Nat.le_of_ble_eq_true rfl, Nat.le_of_ble_eq_true rfl⟩) ⟨cBlind D cc E S _, C_recv hK hw (by omega) (cell_12 hf3) (r := (RX11, TX11, 12)) rfl, fun U hU hW => ⟨rfl, C_pre hA hK hro hw U hU hW⟩⟩ rfl rfl hl.1 rfl (lv_room (Nat.le_of_ble_eq_true rfl)) dX11_refer_70 ⟨by show _ ≤ mc; omega, by show _ ≤ ms; omega⟩) (fun H locs hw => ?_)
            refine W.widen (k := mc - mc) (n := ms - ms) (Nat.le_refl _) (Nat.le_refl _) ?_
            obtain ⟨rfl, rfl, ek1, ek2⟩ := of_retA h
            refine W.widen (k := mc) (n := ms) (by omega) (by omega) ?_
            exact C_iret hx hb hr hlocks hw (by rfl) dX11_refer_73
      · have h := of_it h c30
        refine lv_aload_n hx hb dX11_refer_33 rfl (lv_at hl 0 rfl) ?_
        refine lv_iconst (v := -1) hx hb dX11_refer_34 (by decide) ?_
        obtain ⟨hf10, h⟩ := of_grd h
        obtain ⟨q35, hq35, h⟩ := of_cal h
        obtain ⟨r35, S35⟩ := q35
        have h := of_un2 h
        refine C_i hA hw (va_runV (As := [.int (-1 : Int32)]) (rest := []) ⟨hx, hb, hml, hown, hts⟩ (cX11_refuse_ok l D cc E n S a0 (-1 : Int32) hq35) (cwV 1 hts gX11_refer_X11_refuse rfl rfl rfl (by decide +kernel) ⟨Nat.le_of_ble_eq_true rfl, Nat.le_of_ble_eq_true rfl⟩) ⟨cBlind D cc E S _, C_recv hK hw (by omega) (cell_12 hf10) (r := (RX11, TX11, 12)) rfl, fun U hU hW => ⟨rfl, C_pre hA hK hro hw U hU hW⟩⟩ rfl rfl hl.1 rfl (lv_room (Nat.le_of_ble_eq_true rfl)) dX11_refer_35 ⟨by show _ ≤ mc; omega, by show _ ≤ ms; omega⟩) (fun H locs hw => ?_)
        refine W.widen (k := mc - mc) (n := ms - ms) (Nat.le_refl _) (Nat.le_refl _) ?_
        obtain ⟨rfl, rfl, ek1, ek2⟩ := of_retA h
        refine W.widen (k := mc) (n := ms) (by omega) (by omega) ?_
        exact C_iret hx hb hr hlocks hw (by rfl) dX11_refer_38

def fX11_allowed (n : Nat × Nat) (S : CS) (a0 : Nat) (a1 : Int32) (a2 : Int32) : Option Int32 :=
  grd (cD S a0 = 12) (cal (fX11_findFamily n S a0 a1) (fun q2 => oel q2 (some (-1 : Int32)) (fun b7 => bnd (fX11_isWithin a2 (0 : Int32) (1000 : Int32)) (fun r15 => if r15 = 0 then 
      some (-1 : Int32)
      else grd (cD S b7 = 1) (cal (fX0_parcelsLeftOn n S b7 a2) (fun q27 => some q27))))))
set_option maxHeartbeats 8000000 in
set_option maxRecDepth 100000 in
theorem cX11_allowed_ok (l : Launch) (D : va_G) (cc : Nat → ClassId) (E : Nat → Nat) (n : Nat × Nat) (S : CS) (a0 : Nat) (a1 : Int32) (a2 : Int32) {r : Int32} (h : fX11_allowed n S a0 a1 a2 = some r) : Ci l yX11_allowed wsX11_allowed 4 85 D cc E [.ref a0, .int a1, .int a2] S r S 0 0 := by
  refine C_of (own := RX11) (bb := cX11_allowed) (nL := 4) (ret := (some .int)) (by decide) rfl rfl (Nat.le_of_ble_eq_true rfl) ?_
  intro p e s m args below meth c hx hb hr hlocks hml hts hown hnm hA hK hro hw ls hl
  generalize va_A (cPs cc S) (nx S) = A at hA hro hw ⊢
  unfold fX11_allowed at h
  have hl : lv_has ls 4 [(0, .ref a0), (1, .int a1), (2, .int a2)] := hl
  refine lv_aload_n hx hb dX11_allowed_0 rfl (lv_at hl 0 rfl) ?_
  refine lv_iload_n hx hb dX11_allowed_1 rfl (lv_at hl 1 rfl) ?_
  obtain ⟨hf1, h⟩ := of_grd h
  obtain ⟨q2, hq2, h⟩ := of_cal h
  refine C_q hA hw (va_runV (As := [.int a1]) (rest := []) ⟨hx, hb, hml, hown, hts⟩ (cX11_findFamily_ok l D cc E n S a0 a1 hq2) (cwV 1 hts gX11_allowed_X11_findFamily rfl rfl rfl (by decide +kernel) ⟨Nat.le_of_ble_eq_true rfl, Nat.le_of_ble_eq_true rfl⟩) ⟨cBlind D cc E S _, C_recv hK hw (by omega) (cell_12 hf1) (r := (RX11, TX11, 12)) rfl, fun U hU hW => ⟨rfl, C_pre hA hK hro hw U hU hW⟩⟩ rfl rfl hl.1 rfl (lv_room (Nat.le_of_ble_eq_true rfl)) dX11_allowed_2 ⟨Nat.le_refl _, Nat.le_refl _⟩) (fun H locs hw => ?_)
  refine W.widen (k := 0) (n := 0) (Nat.le_refl _) (Nat.le_refl _) ?_
  refine lv_astore_nq (lv' := [(3, va_rf q2), (0, .ref a0), (1, .int a1), (2, .int a2)]) hx hb dX11_allowed_5 rfl hl (by decide) rfl (fun ls hl => ?_)
  refine lv_aload_nq hx hb dX11_allowed_6 rfl (lv_at hl 0 rfl) ?_
  rcases q2 with _ | b7
  · have h := of_oelN h
    have hl : lv_has ls 4 [(3, .null), (0, .ref a0), (1, .int a1), (2, .int a2)] := hl
    refine lv_ifnullN (tgt := 21) hx hb dX11_allowed_7 (by decide) ?_
    refine lv_iconst (v := -1) hx hb dX11_allowed_21 (by decide) ?_
    refine lv_goto (tgt := 30) hx hb dX11_allowed_22 (by decide) ?_
    obtain rfl := Option.some.inj h
    exact C_iret hx hb hr hlocks hw (by rfl) dX11_allowed_30
  · have h := of_oelS h
    have hl : lv_has ls 4 [(3, .ref b7), (0, .ref a0), (1, .int a1), (2, .int a2)] := hl
    refine lv_ifnull hx hb dX11_allowed_7 ?_
    refine lv_iload_n hx hb dX11_allowed_10 rfl (lv_at hl 3 rfl) ?_
    refine lv_iconst (v := 0) hx hb dX11_allowed_11 (by decide) ?_
    refine lv_sipush (v := 1000) hx hb dX11_allowed_12 (by decide) ?_
    refine C_s (va_runS (As := [.int a2, .int (0 : Int32), .int (1000 : Int32)]) (rest := []) ⟨hx, hb, hml, hown, hts⟩ (cX11_isWithin_ok l a2 (0 : Int32) (1000 : Int32)) (va_cwS 3 hts gX11_allowed_X11_isWithin rfl rfl rfl (by decide +kernel) ⟨Nat.le_of_ble_eq_true rfl, Nat.le_of_ble_eq_true rfl⟩) ⟨fun a U g mk q => ⟨q.1, trivial⟩, fun U hU hW => ⟨rfl, trivial⟩⟩ rfl rfl hl.1 rfl (lv_room (Nat.le_of_ble_eq_true rfl)) dX11_allowed_15 ⟨Nat.le_refl _, Nat.le_refl _⟩) (fun r15 er15 => ?_)
    have h := of_bnd h er15
    refine lv_if_ne (tgt := 25) hx hb dX11_allowed_18 (by decide) (fun c18 => ?_) (fun c18 => ?_)
    · have h := of_if h c18
      refine lv_aload_n hx hb dX11_allowed_25 rfl (lv_at hl 0 rfl) ?_
      refine lv_iload_n hx hb dX11_allowed_26 rfl (lv_at hl 3 rfl) ?_
      obtain ⟨hf2, h⟩ := of_grd h
      obtain ⟨q27, hq27, h⟩ := of_cal h
      refine C_i hA hw (va_runV (As := [.int a2]) (rest := []) ⟨hx, hb, hml, hown, hts⟩ (cX0_parcelsLeftOn_ok l D cc E n S b7 a2 hq27) (cwV 1 hts gX11_allowed_X0_parcelsLeftOn rfl rfl rfl (by decide +kernel) ⟨Nat.le_of_ble_eq_true rfl, Nat.le_of_ble_eq_true rfl⟩) ⟨cBlind D cc E S _, C_recv hK hw (by omega) (cell_1 hf2) (r := (RX0, TX0, 4)) rfl, fun U hU hW => ⟨rfl, C_pre hA hK hro hw U hU hW⟩⟩ rfl rfl hl.1 rfl (lv_room (Nat.le_of_ble_eq_true rfl)) dX11_allowed_27 ⟨Nat.le_refl _, Nat.le_refl _⟩) (fun H locs hw => ?_)
      refine W.widen (k := 0) (n := 0) (Nat.le_refl _) (Nat.le_refl _) ?_
      obtain rfl := Option.some.inj h
      exact C_iret hx hb hr hlocks hw (by rfl) dX11_allowed_30
    · have h := of_it h c18
      refine lv_iconst (v := -1) hx hb dX11_allowed_21 (by decide) ?_
      refine lv_goto (tgt := 30) hx hb dX11_allowed_22 (by decide) ?_
      obtain rfl := Option.some.inj h
      exact C_iret hx hb hr hlocks hw (by rfl) dX11_allowed_30

def fX11_need (n : Nat × Nat) (S : CS) (a0 : Nat) (a1 : Int32) (a2 : Int32) : Option Int32 :=
  grd (cD S a0 = 12) (cal (fX11_findFamily n S a0 a1) (fun q2 => oel q2 (some (-1 : Int32)) (fun b7 => bnd (fX11_isKind a2) (fun r11 => if r11 = 0 then 
      some (-1 : Int32)
      else onn (cR S 247 a0) (fun b22 => grd (cD S b7 = 1) (bnd (cI S 20 b7) (fun v27 => grd (cD S b22 = 7) (cal (fX6_gramsNeeded n S b22 a2 v27) (fun q30 => some q30)))))))))
set_option maxHeartbeats 8000000 in
set_option maxRecDepth 100000 in
theorem cX11_need_ok (l : Launch) (D : va_G) (cc : Nat → ClassId) (E : Nat → Nat) (n : Nat × Nat) (S : CS) (a0 : Nat) (a1 : Int32) (a2 : Int32) {r : Int32} (h : fX11_need n S a0 a1 a2 = some r) : Ci l yX11_need wsX11_need 4 85 D cc E [.ref a0, .int a1, .int a2] S r S 0 0 := by
  refine C_of (own := RX11) (bb := cX11_need) (nL := 4) (ret := (some .int)) (by decide) rfl rfl (Nat.le_of_ble_eq_true rfl) ?_
  intro p e s m args below meth c hx hb hr hlocks hml hts hown hnm hA hK hro hw ls hl
  generalize va_A (cPs cc S) (nx S) = A at hA hro hw ⊢
  unfold fX11_need at h
  have hinX0 : ∀ w ∈ wsX00, w ∈ wsX11_need := by decide +kernel
  have hinX11 : ∀ w ∈ wsX110, w ∈ wsX11_need := by decide +kernel
  have hl : lv_has ls 4 [(0, .ref a0), (1, .int a1), (2, .int a2)] := hl
  refine lv_aload_n hx hb dX11_need_0 rfl (lv_at hl 0 rfl) ?_
  refine lv_iload_n hx hb dX11_need_1 rfl (lv_at hl 1 rfl) ?_
  obtain ⟨hf1, h⟩ := of_grd h
  obtain ⟨q2, hq2, h⟩ := of_cal h
  refine C_q hA hw (va_runV (As := [.int a1]) (rest := []) ⟨hx, hb, hml, hown, hts⟩ (cX11_findFamily_ok l D cc E n S a0 a1 hq2) (cwV 1 hts gX11_need_X11_findFamily rfl rfl rfl (by decide +kernel) ⟨Nat.le_of_ble_eq_true rfl, Nat.le_of_ble_eq_true rfl⟩) ⟨cBlind D cc E S _, C_recv hK hw (by omega) (cell_12 hf1) (r := (RX11, TX11, 12)) rfl, fun U hU hW => ⟨rfl, C_pre hA hK hro hw U hU hW⟩⟩ rfl rfl hl.1 rfl (lv_room (Nat.le_of_ble_eq_true rfl)) dX11_need_2 ⟨Nat.le_refl _, Nat.le_refl _⟩) (fun H locs hw => ?_)
  refine W.widen (k := 0) (n := 0) (Nat.le_refl _) (Nat.le_refl _) ?_
  refine lv_astore_nq (lv' := [(3, va_rf q2), (0, .ref a0), (1, .int a1), (2, .int a2)]) hx hb dX11_need_5 rfl hl (by decide) rfl (fun ls hl => ?_)
  refine lv_aload_nq hx hb dX11_need_6 rfl (lv_at hl 0 rfl) ?_
  rcases q2 with _ | b7
  · have h := of_oelN h
    have hl : lv_has ls 4 [(3, .null), (0, .ref a0), (1, .int a1), (2, .int a2)] := hl
    refine lv_ifnullN (tgt := 17) hx hb dX11_need_7 (by decide) ?_
    refine lv_iconst (v := -1) hx hb dX11_need_17 (by decide) ?_
    refine lv_goto (tgt := 33) hx hb dX11_need_18 (by decide) ?_
    obtain rfl := Option.some.inj h
    exact C_iret hx hb hr hlocks hw (by rfl) dX11_need_33
  · have h := of_oelS h
    have hl : lv_has ls 4 [(3, .ref b7), (0, .ref a0), (1, .int a1), (2, .int a2)] := hl
    refine lv_ifnull hx hb dX11_need_7 ?_
    refine lv_iload_n hx hb dX11_need_10 rfl (lv_at hl 3 rfl) ?_
    refine C_s (va_runS (As := [.int a2]) (rest := []) ⟨hx, hb, hml, hown, hts⟩ (cX11_isKind_ok l a2) (va_cwS 1 hts gX11_need_X11_isKind rfl rfl rfl (by decide +kernel) ⟨Nat.le_of_ble_eq_true rfl, Nat.le_of_ble_eq_true rfl⟩) ⟨fun a U g mk q => ⟨q.1, trivial⟩, fun U hU hW => ⟨rfl, trivial⟩⟩ rfl rfl hl.1 rfl (lv_room (Nat.le_of_ble_eq_true rfl)) dX11_need_11 ⟨Nat.le_refl _, Nat.le_refl _⟩) (fun r11 er11 => ?_)
    have h := of_bnd h er11
    refine lv_if_ne (tgt := 21) hx hb dX11_need_14 (by decide) (fun c14 => ?_) (fun c14 => ?_)
    · have h := of_if h c14
      refine lv_aload_n hx hb dX11_need_21 rfl (lv_at hl 1 rfl) ?_
      obtain ⟨b22, eb22, h⟩ := of_onn h
      refine C_get hx hb hts hinX11 hown hK hw (cell_12 hf1) (by omega) rfl 7 (by decide) (index := 50) (by decide +kernel) rfl (v := .ref b22) (congrArg (fun o => some (va_rf o)) eb22) dX11_need_22 ?_
      refine lv_iload_n hx hb dX11_need_25 rfl (lv_at hl 3 rfl) ?_
      refine lv_aload_n hx hb dX11_need_26 rfl (lv_at hl 0 rfl) ?_
      obtain ⟨hf2, h⟩ := of_grd h
      refine C_get hx hb hts hinX0 hown hK hw (cell_1 hf2) (by omega) rfl 0 (by decide) (index := 135) (by decide +kernel) rfl rfl dX11_need_27 ?_
      refine lv_topi (fun v27 ev27 => ?_)
      have h := of_bnd h ev27
      obtain ⟨hf3, h⟩ := of_grd h
      obtain ⟨q30, hq30, h⟩ := of_cal h
      refine C_i hA hw (va_runV (As := [.int a2, .int v27]) (rest := []) ⟨hx, hb, hml, hown, hts⟩ (cX6_gramsNeeded_ok l D cc E n S b22 a2 v27 hq30) (cwV 2 hts gX11_need_X6_gramsNeeded rfl rfl rfl (by decide +kernel) ⟨Nat.le_of_ble_eq_true rfl, Nat.le_of_ble_eq_true rfl⟩) ⟨cBlind D cc E S _, C_recv hK hw (by omega) (cell_7 hf3) (r := (RX6, TX6, 5)) rfl, fun U hU hW => ⟨rfl, C_pre hA hK hro hw U hU hW⟩⟩ rfl rfl hl.1 rfl (lv_room (Nat.le_of_ble_eq_true rfl)) dX11_need_30 ⟨Nat.le_refl _, Nat.le_refl _⟩) (fun H locs hw => ?_)
      refine W.widen (k := 0) (n := 0) (Nat.le_refl _) (Nat.le_refl _) ?_
      obtain rfl := Option.some.inj h
      exact C_iret hx hb hr hlocks hw (by rfl) dX11_need_33
    · have h := of_it h c14
      refine lv_iconst (v := -1) hx hb dX11_need_17 (by decide) ?_
      refine lv_goto (tgt := 33) hx hb dX11_need_18 (by decide) ?_
      obtain rfl := Option.some.inj h
      exact C_iret hx hb hr hlocks hw (by rfl) dX11_need_33
