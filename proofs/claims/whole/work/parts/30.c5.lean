def fX7_init (n : Nat × Nat) (S : CS) (a0 : Nat) : Option (CS × Nat × Nat) :=
  adc 1 3 (bnd (nx S) (fun q5 => bnd (nw S 20 0) (fun S5 => cal (fL_init n 0 S5 q5) (fun S9 => grd (cD S9 a0 = 8) (bnd (uR S9 160 a0 (some q5)) (fun S12 => adc 1 10 (bnd (nx S12) (fun q18 => bnd (nw S12 61 10) (fun S18 => grd (cD S18 a0 = 8) (bnd (uR S18 161 a0 (some q18)) (fun S21 => some (S21, 0, 0))))))))))))
set_option maxHeartbeats 8000000 in
set_option maxRecDepth 100000 in
theorem cX7_init_ok (l : Launch) (D : va_G) (cc : Nat → ClassId) (E : Nat → Nat) (n : Nat × Nat) (hE : E 0 = n.2) (S : CS) (a0 : Nat) {T : CS} {mc ms : Nat} (h : fX7_init n S a0 = some (T, mc, ms)) : Cv l yX7_init wsX7_init 4 80 D cc E [.ref a0] S T mc ms := by
  refine C_of (own := RX7) (bb := cX7_init) (nL := 1) (ret := none) (by decide) rfl rfl (Nat.le_of_ble_eq_true rfl) ?_
  intro p e s m args below meth c hx hb hr hlocks hml hts hown hnm hA hK hro hw ls hl
  generalize va_A (cPs cc S) (nx S) = A at hA hro hw ⊢
  unfold fX7_init at h
  have hinJx4a65c : ∀ w ∈ wsJx4a65c0, w ∈ wsX7_init := by decide +kernel
  have hinX7 : ∀ w ∈ wsX70, w ∈ wsX7_init := by decide +kernel
  have hl : lv_has ls 1 [(0, .ref a0)] := hl
  refine W.widen (k := mc - mc) (n := ms - ms) (by omega) (by omega) ?_
  have hk1 : mc ≤ mc := Nat.le_refl _
  have hk2 : ms ≤ ms := Nat.le_refl _
  refine lv_aload_n hx hb dX7_init_0 rfl (lv_at hl 0 rfl) ?_
  refine W.objInit hx hb hown (hts (.methodLink RX7 3 objectInit) (by decide +kernel)) (hts (.instanceMethod objectInit) (by decide +kernel)) (hts (.code objectInit ⟨#[0xb1]⟩ 1 none) (by decide +kernel)) rfl (by rw [hml]; exact hl.1) rfl dX7_init_1 (Nat.le_of_ble_eq_true rfl) (Nat.le_of_ble_eq_true rfl) ?_
  refine W.eq (g2 := F0 m 4 ls []) rfl ?_
  refine lv_aload_n hx hb dX7_init_4 rfl (lv_at hl 0 rfl) ?_
  obtain ⟨kc1, ks1, h, ek1, ek2⟩ := of_adc h
  refine C_new (d := 20) hx hb hts hinJx4a65c tyJx4a65c tyJx4a65c_ok hown (index := 9) (by decide +kernel) (by decide +kernel) (by decide +kernel) hK hA hw rfl (fun j hj => dfJx4a65c j hj) (cnew_L (r := 0) (by decide) S) (by show _ ≤ mc; omega) (by show _ ≤ ms; omega) dX7_init_5 (fun q5 S5 H eq5 eS5 hw => ?_)
  have h := of_bnd h eq5
  have h := of_bnd h eS5
  refine W.widen (k := mc - kc1) (n := ms - ks1) (by omega) (by omega) ?_
  have hk1 : kc1 ≤ mc := by omega
  have hk2 : ks1 ≤ ms := by omega
  have hf2 : cD S5 q5 = 20 := by rw [eS5, eq5]; exact cD_new _ _ _
  refine lv_dup hx hb dX7_init_8 rfl ?_
  obtain ⟨q9, hq9, h⟩ := of_cal h
  obtain ⟨S9, eS9⟩ : ∃ x, x = q9 := ⟨_, rfl⟩
  subst eS9
  refine C_v hA hw (va_runI (As := []) (rest := [.ref q5, .ref a0]) ⟨hx, hb, hml, hown, hts⟩ (cL_init_ok l D cc E n hE 0 (by decide) S5 q5 hq9) (cwI 0 hts gX7_init_Jx4a65c_init_da8c8 rfl rfl rfl (hts (.initialized RJx4a65c) (by decide +kernel)) (hts (.methodLink RX7 11 yJx4a65c_init_da8c8) (by decide +kernel)) (hts (.instanceMethod yJx4a65c_init_da8c8) (by decide +kernel)) rfl (by decide +kernel) ⟨Nat.le_of_ble_eq_true rfl, Nat.le_of_ble_eq_true rfl⟩) ⟨cBlind D cc E S5 _, fun U hU hW => ⟨rfl, C_pre hA hK hro hw U hU hW⟩⟩ rfl rfl hl.1 rfl (lv_room (Nat.le_of_ble_eq_true rfl)) dX7_init_9 ⟨by show _ ≤ mc; omega, by show _ ≤ ms; omega⟩) (fun H locs hw => ?_)
  refine W.widen (k := mc - kc1) (n := ms - ks1) (Nat.le_refl _) (Nat.le_refl _) ?_
  obtain ⟨hf3, h⟩ := of_grd h
  refine C_putF hx hb hts hinX7 tyX7 tyX7_ok nmX7 hown hK hw (cell_8 hf3) (by omega) rfl 0 (by decide) (index := 12) (by decide +kernel) rfl rfl hnm rfl (ty := (.object "java/util/ArrayList")) (by decide +kernel) rfl rfl (Nat.le_of_ble_eq_true rfl) (S' := uR S9 160 a0 (some q5)) rfl rfl rfl (pu_160 hf3 (some q5)) (fun b hb => off_uR hb) dX7_init_12 (fun S12 H locs eS12 hw => ?_)
  have h := of_bnd h eS12
  refine lv_aload_n hx hb dX7_init_15 rfl (lv_at hl 0 rfl) ?_
  refine lv_bipush (v := 10) hx hb dX7_init_16 (by decide) ?_
  obtain ⟨kc4, ks4, h, ek1, ek2⟩ := of_adc h
  refine C_newO (d := 61) (N := 10) hx hb hown (hts (.classLink RX7 18 RX2) (by decide +kernel)) hro.2.2.2.2.2.2.2.2.2.2.1 hK hA hw 3 rfl (cnew_61 S12) (by decide) (by decide) (by decide) (by show _ ≤ mc; omega) (by show _ ≤ ms; omega) dX7_init_18 (fun q18 S18 H eq18 eS18 hw => ?_)
  have h := of_bnd h eq18
  have h := of_bnd h eS18
  refine W.widen (k := mc - kc4) (n := ms - ks4) (by omega) (by omega) ?_
  have hk1 : kc4 ≤ mc := by omega
  have hk2 : ks4 ≤ ms := by omega
  have hf5 : cD S18 q18 = 61 := by rw [eS18, eq18]; exact cD_new _ _ _
  obtain ⟨hf6, h⟩ := of_grd h
  refine C_putF hx hb hts hinX7 tyX7 tyX7_ok nmX7 hown hK hw (cell_8 hf6) (by omega) rfl 1 (by decide) (index := 20) (by decide +kernel) rfl rfl hnm rfl (ty := (.array (.object "FoodShares$Lot"))) (by decide +kernel) rfl rfl (Nat.le_of_ble_eq_true rfl) (S' := uR S18 161 a0 (some q18)) rfl rfl rfl (pu_161 hf6 (some q18)) (fun b hb => off_uR hb) dX7_init_21 (fun S21 H locs eS21 hw => ?_)
  have h := of_bnd h eS21
  obtain ⟨rfl, ek1, ek2⟩ := of_retV h
  refine W.widen (k := mc) (n := ms) (by omega) (by omega) ?_
  exact C_vret hx hb hr hlocks hw dX7_init_24

def fX7_size (n : Nat × Nat) (S : CS) (a0 : Nat) : Option Int32 :=
  grd (cD S a0 = 8) (onn (cR S 160 a0) (fun b1 => grd (cD S b1 = 20) (cal (fL_size n 0 S b1) (fun q4 => some q4))))
set_option maxHeartbeats 8000000 in
set_option maxRecDepth 100000 in
theorem cX7_size_ok (l : Launch) (D : va_G) (cc : Nat → ClassId) (E : Nat → Nat) (n : Nat × Nat) (S : CS) (a0 : Nat) {r : Int32} (h : fX7_size n S a0 = some r) : Ci l yX7_size wsX7_size 1 20 D cc E [.ref a0] S r S 0 0 := by
  refine C_of (own := RX7) (bb := cX7_size) (nL := 1) (ret := (some .int)) (by decide) rfl rfl (Nat.le_of_ble_eq_true rfl) ?_
  intro p e s m args below meth c hx hb hr hlocks hml hts hown hnm hA hK hro hw ls hl
  generalize va_A (cPs cc S) (nx S) = A at hA hro hw ⊢
  unfold fX7_size at h
  have hinX7 : ∀ w ∈ wsX70, w ∈ wsX7_size := by decide +kernel
  have hl : lv_has ls 1 [(0, .ref a0)] := hl
  refine lv_aload_n hx hb dX7_size_0 rfl (lv_at hl 0 rfl) ?_
  obtain ⟨hf1, h⟩ := of_grd h
  obtain ⟨b1, eb1, h⟩ := of_onn h
  refine C_get hx hb hts hinX7 hown hK hw (cell_8 hf1) (by omega) rfl 0 (by decide) (index := 12) (by decide +kernel) rfl (v := .ref b1) (congrArg (fun o => some (va_rf o)) eb1) dX7_size_1 ?_
  obtain ⟨hf2, h⟩ := of_grd h
  obtain ⟨q4, hq4, h⟩ := of_cal h
  refine C_i hA hw (va_runV (As := []) (rest := []) ⟨hx, hb, hml, hown, hts⟩ (cL_size_ok l D cc E n 0 (by decide) S b1 hq4) (cwV 0 hts gX7_size_Jx4a65c_size_8abf5 rfl rfl rfl (by decide +kernel) ⟨Nat.le_of_ble_eq_true rfl, Nat.le_of_ble_eq_true rfl⟩) ⟨cBlind D cc E S _, C_recv hK hw (by omega) (cell_L (r := 0) (by decide) hf2) (r := (RJx4a65c, TJx4a65c, 3)) rfl, fun U hU hW => ⟨rfl, C_pre hA hK hro hw U hU hW⟩⟩ rfl rfl hl.1 rfl (lv_room (Nat.le_of_ble_eq_true rfl)) dX7_size_4 ⟨Nat.le_refl _, Nat.le_refl _⟩) (fun H locs hw => ?_)
  refine W.widen (k := 0) (n := 0) (Nat.le_refl _) (Nat.le_refl _) ?_
  obtain rfl := Option.some.inj h
  exact C_iret hx hb hr hlocks hw (by rfl) dX7_size_7

def fX7_find (n : Nat × Nat) (S : CS) (a0 : Nat) (a1 : Int32) : Option (Option Nat) :=
  grd (cD S a0 = 8) (onn (cR S 160 a0) (fun b3 => grd (cD S b3 = 20) (cal (fL_size n 0 S b3) (fun q6 => bnd (fX11_isWithin a1 (0 : Int32) (q6 - (1 : Int32))) (fun r11 => if r11 = 0 then 
    some none
    else onn (cR S 160 a0) (fun b18 => grd (cD S b18 = 20) (cal (fL_get n 0 S b18 a1) (fun q22 => onn q22 (fun b25 => grd (cD S b25 = 3) (some (some b25)))))))))))
set_option maxHeartbeats 8000000 in
set_option maxRecDepth 100000 in
theorem cX7_find_ok (l : Launch) (D : va_G) (cc : Nat → ClassId) (E : Nat → Nat) (n : Nat × Nat) (S : CS) (a0 : Nat) (a1 : Int32) {r : Option Nat} (h : fX7_find n S a0 a1 = some r) : Cq l yX7_find wsX7_find 3 64 D cc E [.ref a0, .int a1] S r S 0 0 := by
  refine C_of (own := RX7) (bb := cX7_find) (nL := 2) (ret := (some (.object "FoodShares$Lot"))) (by decide) rfl rfl (Nat.le_of_ble_eq_true rfl) ?_
  intro p e s m args below meth c hx hb hr hlocks hml hts hown hnm hA hK hro hw ls hl
  generalize va_A (cPs cc S) (nx S) = A at hA hro hw ⊢
  unfold fX7_find at h
  have hinX7 : ∀ w ∈ wsX70, w ∈ wsX7_find := by decide +kernel
  have hl : lv_has ls 2 [(0, .ref a0), (1, .int a1)] := hl
  refine lv_iload_n hx hb dX7_find_0 rfl (lv_at hl 1 rfl) ?_
  refine lv_iconst (v := 0) hx hb dX7_find_1 (by decide) ?_
  refine lv_aload_n hx hb dX7_find_2 rfl (lv_at hl 0 rfl) ?_
  obtain ⟨hf1, h⟩ := of_grd h
  obtain ⟨b3, eb3, h⟩ := of_onn h
  refine C_get hx hb hts hinX7 hown hK hw (cell_8 hf1) (by omega) rfl 0 (by decide) (index := 12) (by decide +kernel) rfl (v := .ref b3) (congrArg (fun o => some (va_rf o)) eb3) dX7_find_3 ?_
  obtain ⟨hf2, h⟩ := of_grd h
  obtain ⟨q6, hq6, h⟩ := of_cal h
  refine C_i hA hw (va_runV (As := []) (rest := [.int (0 : Int32), .int a1]) ⟨hx, hb, hml, hown, hts⟩ (cL_size_ok l D cc E n 0 (by decide) S b3 hq6) (cwV 0 hts gX7_find_Jx4a65c_size_8abf5 rfl rfl rfl (by decide +kernel) ⟨Nat.le_of_ble_eq_true rfl, Nat.le_of_ble_eq_true rfl⟩) ⟨cBlind D cc E S _, C_recv hK hw (by omega) (cell_L (r := 0) (by decide) hf2) (r := (RJx4a65c, TJx4a65c, 3)) rfl, fun U hU hW => ⟨rfl, C_pre hA hK hro hw U hU hW⟩⟩ rfl rfl hl.1 rfl (lv_room (Nat.le_of_ble_eq_true rfl)) dX7_find_6 ⟨Nat.le_refl _, Nat.le_refl _⟩) (fun H locs hw => ?_)
  refine W.widen (k := 0) (n := 0) (Nat.le_refl _) (Nat.le_refl _) ?_
  refine lv_iconst (v := 1) hx hb dX7_find_9 (by decide) ?_
  refine lv_isub hx hb dX7_find_10 ?_
  refine C_s (va_runSN (As := [.int a1, .int (0 : Int32), .int (q6 - (1 : Int32))]) (rest := []) ⟨hx, hb, hml, hown, hts⟩ (cX11_isWithin_ok l a1 (0 : Int32) (q6 - (1 : Int32))) ⟨va_cnB 3 hts gX7_find_X11_isWithin_n28 rfl rfl rfl (hro.1 (RX7, 28, yX11_isWithin) (by decide +kernel)) (hts (.initialized RX11) (by decide +kernel)) (by decide +kernel) ⟨Nat.le_of_ble_eq_true rfl, Nat.le_of_ble_eq_true rfl⟩, (hts (.static yX11_isWithin) (by decide +kernel)), trivial⟩ ⟨fun a U g mk q => ⟨q.1, trivial⟩, fun U hU hW => ⟨rfl, trivial⟩⟩ rfl rfl hl.1 rfl (lv_room (Nat.le_of_ble_eq_true rfl)) dX7_find_11 ⟨Nat.le_refl _, Nat.le_refl _⟩) (fun r11 er11 => ?_)
  have h := of_bnd h er11
  refine lv_if_eq (tgt := 31) hx hb dX7_find_14 (by decide) (fun c14 => ?_) (fun c14 => ?_)
  · have h := of_it h c14
    refine lv_null hx hb dX7_find_31 ?_
    obtain rfl := Option.some.inj h
    exact C_aret hx hb hr hlocks (Or.inl ⟨_, rfl⟩) hw dX7_find_32
  · have h := of_if h c14
    refine lv_aload_n hx hb dX7_find_17 rfl (lv_at hl 0 rfl) ?_
    obtain ⟨b18, eb18, h⟩ := of_onn h
    refine C_get hx hb hts hinX7 hown hK hw (cell_8 hf1) (by omega) rfl 0 (by decide) (index := 12) (by decide +kernel) rfl (v := .ref b18) (congrArg (fun o => some (va_rf o)) eb18) dX7_find_18 ?_
    refine lv_iload_n hx hb dX7_find_21 rfl (lv_at hl 1 rfl) ?_
    obtain ⟨hf3, h⟩ := of_grd h
    obtain ⟨q22, hq22, h⟩ := of_cal h
    refine C_q hA hw (va_runV (As := [.int a1]) (rest := []) ⟨hx, hb, hml, hown, hts⟩ (cL_get_ok l D cc E n 0 (by decide) S b18 a1 hq22) (cwV 1 hts gX7_find_Jx4a65c_get_915e3 rfl rfl rfl (by decide +kernel) ⟨Nat.le_of_ble_eq_true rfl, Nat.le_of_ble_eq_true rfl⟩) ⟨cBlind D cc E S _, C_recv hK hw (by omega) (cell_L (r := 0) (by decide) hf3) (r := (RJx4a65c, TJx4a65c, 3)) rfl, fun U hU hW => ⟨rfl, C_pre hA hK hro hw U hU hW⟩⟩ rfl rfl hl.1 rfl (lv_room (Nat.le_of_ble_eq_true rfl)) dX7_find_22 ⟨Nat.le_refl _, Nat.le_refl _⟩) (fun H locs hw => ?_)
    refine W.widen (k := 0) (n := 0) (Nat.le_refl _) (Nat.le_refl _) ?_
    obtain ⟨b25, eb25, h⟩ := of_onn h
    subst eb25
    obtain ⟨hf4, h⟩ := of_grd h
    refine va_castE hx hb hown (hts (.classLink RX7 18 RX2) (by decide +kernel)) (C_recv hK hw (by omega) (cell_3 hf4) (r := (RX2, TX2, 11)) rfl) dX7_find_25 ?_
    refine lv_goto (tgt := 32) hx hb dX7_find_28 (by decide) ?_
    obtain rfl := Option.some.inj h
    exact C_aret hx hb hr hlocks (Or.inl ⟨_, rfl⟩) hw dX7_find_32

def fX7_soonestOf (n : Nat × Nat) (S : CS) (a0 : Nat) (a1 : Int32) : Option (Option Nat) :=
  bnd (fX11_isKind a1) (fun r1 => if r1 = 0 then 
    some none
    else grd (cD S a0 = 8) (onn (cR S 161 a0) (fun b8 => grd (cD S b8 = 61) (grd (¬ (a1 < 0 ∨ cN S b8 ≤ a1.toNatClampNeg)) (bnd (cQ S 61 b8 a1.toNatClampNeg) (fun o12 => some o12))))))
set_option maxHeartbeats 8000000 in
set_option maxRecDepth 100000 in
theorem cX7_soonestOf_ok (l : Launch) (D : va_G) (cc : Nat → ClassId) (E : Nat → Nat) (n : Nat × Nat) (S : CS) (a0 : Nat) (a1 : Int32) {r : Option Nat} (h : fX7_soonestOf n S a0 a1 = some r) : Cq l yX7_soonestOf wsX7_soonestOf 2 42 D cc E [.ref a0, .int a1] S r S 0 0 := by
  refine C_of (own := RX7) (bb := cX7_soonestOf) (nL := 2) (ret := (some (.object "FoodShares$Lot"))) (by decide) rfl rfl (Nat.le_of_ble_eq_true rfl) ?_
  intro p e s m args below meth c hx hb hr hlocks hml hts hown hnm hA hK hro hw ls hl
  generalize va_A (cPs cc S) (nx S) = A at hA hro hw ⊢
  unfold fX7_soonestOf at h
  have hinX7 : ∀ w ∈ wsX70, w ∈ wsX7_soonestOf := by decide +kernel
  have hl : lv_has ls 2 [(0, .ref a0), (1, .int a1)] := hl
  refine lv_iload_n hx hb dX7_soonestOf_0 rfl (lv_at hl 1 rfl) ?_
  refine C_s (va_runSN (As := [.int a1]) (rest := []) ⟨hx, hb, hml, hown, hts⟩ (cX11_isKind_ok l a1) ⟨va_cnB 1 hts gX7_soonestOf_X11_isKind_n36 rfl rfl rfl (hro.1 (RX7, 36, yX11_isKind) (by decide +kernel)) (hts (.initialized RX11) (by decide +kernel)) (by decide +kernel) ⟨Nat.le_of_ble_eq_true rfl, Nat.le_of_ble_eq_true rfl⟩, (hts (.static yX11_isKind) (by decide +kernel)), trivial⟩ ⟨fun a U g mk q => ⟨q.1, trivial⟩, fun U hU hW => ⟨rfl, trivial⟩⟩ rfl rfl hl.1 rfl (lv_room (Nat.le_of_ble_eq_true rfl)) dX7_soonestOf_1 ⟨Nat.le_refl _, Nat.le_refl _⟩) (fun r1 er1 => ?_)
  have h := of_bnd h er1
  refine lv_if_eq (tgt := 16) hx hb dX7_soonestOf_4 (by decide) (fun c4 => ?_) (fun c4 => ?_)
  · have h := of_it h c4
    refine lv_null hx hb dX7_soonestOf_16 ?_
    obtain rfl := Option.some.inj h
    exact C_aret hx hb hr hlocks (Or.inl ⟨_, rfl⟩) hw dX7_soonestOf_17
  · have h := of_if h c4
    refine lv_aload_n hx hb dX7_soonestOf_7 rfl (lv_at hl 0 rfl) ?_
    obtain ⟨hf1, h⟩ := of_grd h
    obtain ⟨b8, eb8, h⟩ := of_onn h
    refine C_get hx hb hts hinX7 hown hK hw (cell_8 hf1) (by omega) rfl 1 (by decide) (index := 20) (by decide +kernel) rfl (v := .ref b8) (congrArg (fun o => some (va_rf o)) eb8) dX7_soonestOf_8 ?_
    refine lv_iload_n hx hb dX7_soonestOf_11 rfl (lv_at hl 1 rfl) ?_
    obtain ⟨hf2, h⟩ := of_grd h
    obtain ⟨hi12, h⟩ := of_grd h
    refine C_aald61 hx hb hK hw hf2 hi12 dX7_soonestOf_12 ?_
    obtain ⟨o12, eo12⟩ : ∃ o, o = cQ S 61 b8 a1.toNatClampNeg := ⟨_, rfl⟩
    have h := of_bnd h eo12
    rw [← eo12]
    refine lv_goto (tgt := 17) hx hb dX7_soonestOf_13 (by decide) ?_
    obtain rfl := Option.some.inj h
    exact C_aret hx hb hr hlocks (Or.inl ⟨_, rfl⟩) hw dX7_soonestOf_17

def fX3_init (n : Nat × Nat) (S : CS) (a0 : Nat) (a1 : Int32) (a2 : Int32) : Option (CS × Nat × Nat) :=
  adc 1 3 (bnd (nx S) (fun q5 => bnd (nw S 24 0) (fun S5 => cal (fL_init n 4 S5 q5) (fun S9 => grd (cD S9 a0 = 4) (bnd (uR S9 82 a0 (some q5)) (fun S12 => bnd (uI S12 83 a0 (0 : Int32)) (fun S17 => bnd (uI S17 84 a0 (0 : Int32)) (fun S22 => bnd (uI S22 80 a0 a1) (fun S27 => bnd (uI S27 81 a0 a2) (fun S32 => some (S32, 0, 0)))))))))))
set_option maxHeartbeats 8000000 in
set_option maxRecDepth 100000 in
theorem cX3_init_ok (l : Launch) (D : va_G) (cc : Nat → ClassId) (E : Nat → Nat) (n : Nat × Nat) (hE : E 0 = n.2) (S : CS) (a0 : Nat) (a1 : Int32) (a2 : Int32) {T : CS} {mc ms : Nat} (h : fX3_init n S a0 a1 a2 = some (T, mc, ms)) : Cv l yX3_init wsX3_init 4 80 D cc E [.ref a0, .int a1, .int a2] S T mc ms := by
  refine C_of (own := RX3) (bb := cX3_init) (nL := 3) (ret := none) (by decide) rfl rfl (Nat.le_of_ble_eq_true rfl) ?_
  intro p e s m args below meth c hx hb hr hlocks hml hts hown hnm hA hK hro hw ls hl
  generalize va_A (cPs cc S) (nx S) = A at hA hro hw ⊢
  unfold fX3_init at h
  have hinJx4a65c : ∀ w ∈ wsJx4a65c0, w ∈ wsX3_init := by decide +kernel
  have hinX3 : ∀ w ∈ wsX30, w ∈ wsX3_init := by decide +kernel
  have hl : lv_has ls 3 [(0, .ref a0), (1, .int a1), (2, .int a2)] := hl
  refine W.widen (k := mc - mc) (n := ms - ms) (by omega) (by omega) ?_
  have hk1 : mc ≤ mc := Nat.le_refl _
  have hk2 : ms ≤ ms := Nat.le_refl _
  refine lv_aload_n hx hb dX3_init_0 rfl (lv_at hl 0 rfl) ?_
  refine W.objInit hx hb hown (hts (.methodLink RX3 3 objectInit) (by decide +kernel)) (hts (.instanceMethod objectInit) (by decide +kernel)) (hts (.code objectInit ⟨#[0xb1]⟩ 1 none) (by decide +kernel)) rfl (by rw [hml]; exact hl.1) rfl dX3_init_1 (Nat.le_of_ble_eq_true rfl) (Nat.le_of_ble_eq_true rfl) ?_
  refine W.eq (g2 := F0 m 4 ls []) rfl ?_
  refine lv_aload_n hx hb dX3_init_4 rfl (lv_at hl 0 rfl) ?_
  obtain ⟨kc1, ks1, h, ek1, ek2⟩ := of_adc h
  refine C_new (d := 24) hx hb hts hinJx4a65c tyJx4a65c tyJx4a65c_ok hown (index := 9) (by decide +kernel) (by decide +kernel) (by decide +kernel) hK hA hw rfl (fun j hj => dfJx4a65c j hj) (cnew_L (r := 4) (by decide) S) (by show _ ≤ mc; omega) (by show _ ≤ ms; omega) dX3_init_5 (fun q5 S5 H eq5 eS5 hw => ?_)
  have h := of_bnd h eq5
  have h := of_bnd h eS5
  refine W.widen (k := mc - kc1) (n := ms - ks1) (by omega) (by omega) ?_
  have hk1 : kc1 ≤ mc := by omega
  have hk2 : ks1 ≤ ms := by omega
  have hf2 : cD S5 q5 = 24 := by rw [eS5, eq5]; exact cD_new _ _ _
  refine lv_dup hx hb dX3_init_8 rfl ?_
  obtain ⟨q9, hq9, h⟩ := of_cal h
  obtain ⟨S9, eS9⟩ : ∃ x, x = q9 := ⟨_, rfl⟩
  subst eS9
  refine C_v hA hw (va_runI (As := []) (rest := [.ref q5, .ref a0]) ⟨hx, hb, hml, hown, hts⟩ (cL_init_ok l D cc E n hE 4 (by decide) S5 q5 hq9) (cwI 0 hts gX3_init_Jx4a65c_init_da8c8 rfl rfl rfl (hts (.initialized RJx4a65c) (by decide +kernel)) (hts (.methodLink RX3 11 yJx4a65c_init_da8c8) (by decide +kernel)) (hts (.instanceMethod yJx4a65c_init_da8c8) (by decide +kernel)) rfl (by decide +kernel) ⟨Nat.le_of_ble_eq_true rfl, Nat.le_of_ble_eq_true rfl⟩) ⟨cBlind D cc E S5 _, fun U hU hW => ⟨rfl, C_pre hA hK hro hw U hU hW⟩⟩ rfl rfl hl.1 rfl (lv_room (Nat.le_of_ble_eq_true rfl)) dX3_init_9 ⟨by show _ ≤ mc; omega, by show _ ≤ ms; omega⟩) (fun H locs hw => ?_)
  refine W.widen (k := mc - kc1) (n := ms - ks1) (Nat.le_refl _) (Nat.le_refl _) ?_
  obtain ⟨hf3, h⟩ := of_grd h
  refine C_putF hx hb hts hinX3 tyX3 tyX3_ok nmX3 hown hK hw (cell_4 hf3) (by omega) rfl 2 (by decide) (index := 12) (by decide +kernel) rfl rfl hnm rfl (ty := (.object "java/util/ArrayList")) (by decide +kernel) rfl rfl (Nat.le_of_ble_eq_true rfl) (S' := uR S9 82 a0 (some q5)) rfl rfl rfl (pu_82 hf3 (some q5)) (fun b hb => off_uR hb) dX3_init_12 (fun S12 H locs eS12 hw => ?_)
  have h := of_bnd h eS12
  refine lv_aload_n hx hb dX3_init_15 rfl (lv_at hl 0 rfl) ?_
  refine lv_iconst (v := 0) hx hb dX3_init_16 (by decide) ?_
  have hf4 : cD S12 a0 = 4 := by rw [eS12]; exact hf3
  refine C_put hx hb hts hinX3 tyX3 tyX3_ok nmX3 hown hK hw (cell_4 hf4) (by omega) rfl 3 (by decide) (index := 18) (by decide +kernel) rfl rfl (ty := .int) (by decide +kernel) rfl rfl (Nat.le_of_ble_eq_true rfl) (S' := uI S12 83 a0 (0 : Int32)) rfl rfl rfl (pu_83 hf4 (0 : Int32)) (fun b hb => off_uI hb) dX3_init_17 (fun S17 H locs eS17 hw => ?_)
  have h := of_bnd h eS17
  refine lv_aload_n hx hb dX3_init_20 rfl (lv_at hl 0 rfl) ?_
  refine lv_iconst (v := 0) hx hb dX3_init_21 (by decide) ?_
  have hf5 : cD S17 a0 = 4 := by rw [eS17]; exact hf4
  refine C_put hx hb hts hinX3 tyX3 tyX3_ok nmX3 hown hK hw (cell_4 hf5) (by omega) rfl 4 (by decide) (index := 22) (by decide +kernel) rfl rfl (ty := .int) (by decide +kernel) rfl rfl (Nat.le_of_ble_eq_true rfl) (S' := uI S17 84 a0 (0 : Int32)) rfl rfl rfl (pu_84 hf5 (0 : Int32)) (fun b hb => off_uI hb) dX3_init_22 (fun S22 H locs eS22 hw => ?_)
  have h := of_bnd h eS22
  refine lv_aload_n hx hb dX3_init_25 rfl (lv_at hl 0 rfl) ?_
  refine lv_iload_n hx hb dX3_init_26 rfl (lv_at hl 1 rfl) ?_
  have hf6 : cD S22 a0 = 4 := by rw [eS22]; exact hf5
  refine C_putF hx hb hts hinX3 tyX3 tyX3_ok nmX3 hown hK hw (cell_4 hf6) (by omega) rfl 0 (by decide) (index := 25) (by decide +kernel) rfl rfl hnm rfl (ty := .int) (by decide +kernel) rfl rfl (Nat.le_of_ble_eq_true rfl) (S' := uI S22 80 a0 a1) rfl rfl rfl (pu_80 hf6 a1) (fun b hb => off_uI hb) dX3_init_27 (fun S27 H locs eS27 hw => ?_)
  have h := of_bnd h eS27
  refine lv_aload_n hx hb dX3_init_30 rfl (lv_at hl 0 rfl) ?_
  refine lv_iload_n hx hb dX3_init_31 rfl (lv_at hl 2 rfl) ?_
  have hf7 : cD S27 a0 = 4 := by rw [eS27]; exact hf6
  refine C_putF hx hb hts hinX3 tyX3 tyX3_ok nmX3 hown hK hw (cell_4 hf7) (by omega) rfl 1 (by decide) (index := 28) (by decide +kernel) rfl rfl hnm rfl (ty := .int) (by decide +kernel) rfl rfl (Nat.le_of_ble_eq_true rfl) (S' := uI S27 81 a0 a2) rfl rfl rfl (pu_81 hf7 a2) (fun b hb => off_uI hb) dX3_init_32 (fun S32 H locs eS32 hw => ?_)
  have h := of_bnd h eS32
  obtain ⟨rfl, ek1, ek2⟩ := of_retV h
  refine W.widen (k := mc) (n := ms) (by omega) (by omega) ?_
  exact C_vret hx hb hr hlocks hw dX3_init_35

def fX3_addLine (n : Nat × Nat) (S : CS) (a0 : Nat) (a1 : Int32) (a2 : Int32) : Option (CS × Nat × Nat) :=
  grd (cD S a0 = 4) (onn (cR S 82 a0) (fun b1 => adc 1 2 (bnd (nx S) (fun q4 => bnd (nw S 2 0) (fun S4 => cal (fX1_init n S4 q4 a1 a2) (fun S10 => grd (cD S10 b1 = 24) (cal (fL_add n 4 S10 b1 q4) (un2 fun w13 u13 => un2 (fun r13 S13 => un2 (fun c1_13 c2_13 => adc c1_13 c2_13 (grd (cD S13 a0 = 4) (bnd (cI S13 83 a0) (fun v19 => bnd (uI S13 83 a0 (v19 + a2)) (fun S24 => some (S24, 0, 0)))))) u13) w13))))))))
set_option maxHeartbeats 8000000 in
set_option maxRecDepth 100000 in
theorem cX3_addLine_ok (l : Launch) (D : va_G) (cc : Nat → ClassId) (E : Nat → Nat) (n : Nat × Nat) (hE : E 0 = n.2) (S : CS) (a0 : Nat) (a1 : Int32) (a2 : Int32) {T : CS} {mc ms : Nat} (h : fX3_addLine n S a0 a1 a2 = some (T, mc, ms)) : Cv l yX3_addLine wsX3_addLine 7 191 D cc E [.ref a0, .int a1, .int a2] S T mc ms := by
  refine C_of (own := RX3) (bb := cX3_addLine) (nL := 3) (ret := none) (by decide) rfl rfl (Nat.le_of_ble_eq_true rfl) ?_
  intro p e s m args below meth c hx hb hr hlocks hml hts hown hnm hA hK hro hw ls hl
  generalize va_A (cPs cc S) (nx S) = A at hA hro hw ⊢
  unfold fX3_addLine at h
  have hinX1 : ∀ w ∈ wsX10, w ∈ wsX3_addLine := by decide +kernel
  have hinX3 : ∀ w ∈ wsX30, w ∈ wsX3_addLine := by decide +kernel
  have hl : lv_has ls 3 [(0, .ref a0), (1, .int a1), (2, .int a2)] := hl
  refine W.widen (k := mc - mc) (n := ms - ms) (by omega) (by omega) ?_
  have hk1 : mc ≤ mc := Nat.le_refl _
  have hk2 : ms ≤ ms := Nat.le_refl _
  refine lv_aload_n hx hb dX3_addLine_0 rfl (lv_at hl 0 rfl) ?_
  obtain ⟨hf1, h⟩ := of_grd h
  obtain ⟨b1, eb1, h⟩ := of_onn h
  refine C_get hx hb hts hinX3 hown hK hw (cell_4 hf1) (by omega) rfl 2 (by decide) (index := 12) (by decide +kernel) rfl (v := .ref b1) (congrArg (fun o => some (va_rf o)) eb1) dX3_addLine_1 ?_
  obtain ⟨kc2, ks2, h, ek1, ek2⟩ := of_adc h
  refine C_new (d := 2) hx hb hts hinX1 tyX1 tyX1_ok hown (index := 31) (by decide +kernel) (by decide +kernel) (by decide +kernel) hK hA hw rfl (fun j hj => dfX1 j hj) (cnew_2 S) (by show _ ≤ mc; omega) (by show _ ≤ ms; omega) dX3_addLine_4 (fun q4 S4 H eq4 eS4 hw => ?_)
  have h := of_bnd h eq4
  have h := of_bnd h eS4
  refine W.widen (k := mc - kc2) (n := ms - ks2) (by omega) (by omega) ?_
  have hk1 : kc2 ≤ mc := by omega
  have hk2 : ks2 ≤ ms := by omega
  have hf3 : cD S4 q4 = 2 := by rw [eS4, eq4]; exact cD_new _ _ _
  refine lv_dup hx hb dX3_addLine_7 rfl ?_
  refine lv_iload_n hx hb dX3_addLine_8 rfl (lv_at hl 1 rfl) ?_
  refine lv_iload_n hx hb dX3_addLine_9 rfl (lv_at hl 2 rfl) ?_
  obtain ⟨q10, hq10, h⟩ := of_cal h
  obtain ⟨S10, eS10⟩ : ∃ x, x = q10 := ⟨_, rfl⟩
  subst eS10
  refine C_v hA hw (va_runI (As := [.int a1, .int a2]) (rest := [.ref q4, .ref b1]) ⟨hx, hb, hml, hown, hts⟩ (cX1_init_ok l D cc E n S4 q4 a1 a2 hq10) (cwI 2 hts gX3_addLine_X1_init rfl rfl rfl (hts (.initialized RX1) (by decide +kernel)) (hts (.methodLink RX3 33 yX1_init) (by decide +kernel)) (hts (.instanceMethod yX1_init) (by decide +kernel)) rfl (by decide +kernel) ⟨Nat.le_of_ble_eq_true rfl, Nat.le_of_ble_eq_true rfl⟩) ⟨cBlind D cc E S4 _, fun U hU hW => ⟨rfl, C_pre hA hK hro hw U hU hW⟩⟩ rfl rfl hl.1 rfl (lv_room (Nat.le_of_ble_eq_true rfl)) dX3_addLine_10 ⟨by show _ ≤ mc; omega, by show _ ≤ ms; omega⟩) (fun H locs hw => ?_)
  refine W.widen (k := mc - kc2) (n := ms - ks2) (Nat.le_refl _) (Nat.le_refl _) ?_
  obtain ⟨hf4, h⟩ := of_grd h
  obtain ⟨q13, hq13, h⟩ := of_cal h
  obtain ⟨⟨r13, S13⟩, c1_13, c2_13⟩ := q13
  have h := of_un2 h
  have h := of_un2 h
  have h := of_un2 h
  obtain ⟨kc5, ks5, h, ek1, ek2⟩ := of_adc h
  refine C_i hA hw (va_runV (As := [.ref q4]) (rest := []) ⟨hx, hb, hml, hown, hts⟩ (cL_add_ok l D cc E n hE 4 (by decide) S10 b1 q4 hq13) (cwV 1 hts gX3_addLine_Jx4a65c_add_9ea2d rfl rfl rfl (by decide +kernel) ⟨Nat.le_of_ble_eq_true rfl, Nat.le_of_ble_eq_true rfl⟩) ⟨cBlind D cc E S10 _, C_recv hK hw (by omega) (cell_L (r := 4) (by decide) hf4) (r := (RJx4a65c, TJx4a65c, 3)) rfl, fun U hU hW => ⟨rfl, C_pre hA hK hro hw U hU hW⟩⟩ rfl rfl hl.1 rfl (lv_room (Nat.le_of_ble_eq_true rfl)) dX3_addLine_13 ⟨by show _ ≤ mc; omega, by show _ ≤ ms; omega⟩) (fun H locs hw => ?_)
  refine W.widen (k := mc - kc5) (n := ms - ks5) (by omega) (by omega) ?_
  have hk1 : kc5 ≤ mc := by omega
  have hk2 : ks5 ≤ ms := by omega
  refine lv_pop hx hb dX3_addLine_16 rfl ?_
  refine lv_aload_n hx hb dX3_addLine_17 rfl (lv_at hl 0 rfl) ?_
  refine lv_dup hx hb dX3_addLine_18 rfl ?_
  obtain ⟨hf6, h⟩ := of_grd h
  refine C_get hx hb hts hinX3 hown hK hw (cell_4 hf6) (by omega) rfl 3 (by decide) (index := 18) (by decide +kernel) rfl rfl dX3_addLine_19 ?_
  refine lv_topi (fun v19 ev19 => ?_)
  have h := of_bnd h ev19
  refine lv_iload_n hx hb dX3_addLine_22 rfl (lv_at hl 2 rfl) ?_
  refine lv_iadd hx hb dX3_addLine_23 ?_
  refine C_put hx hb hts hinX3 tyX3 tyX3_ok nmX3 hown hK hw (cell_4 hf6) (by omega) rfl 3 (by decide) (index := 18) (by decide +kernel) rfl rfl (ty := .int) (by decide +kernel) rfl rfl (Nat.le_of_ble_eq_true rfl) (S' := uI S13 83 a0 (v19 + a2)) rfl rfl rfl (pu_83 hf6 (v19 + a2)) (fun b hb => off_uI hb) dX3_addLine_24 (fun S24 H locs eS24 hw => ?_)
  have h := of_bnd h eS24
  obtain ⟨rfl, ek1, ek2⟩ := of_retV h
  refine W.widen (k := mc) (n := ms) (by omega) (by omega) ?_
  exact C_vret hx hb hr hlocks hw dX3_addLine_27

def fX3_tell (n : Nat × Nat) (S : CS) (a0 : Nat) (a1 : Int32) : Option Int32 :=
  grd (cD S a0 = 4) (onn (cR S 82 a0) (fun b6 => grd (cD S b6 = 24) (cal (fL_size n 4 S b6) (fun q9 => bnd (fX11_isWithin a1 (10 : Int32) (((10 : Int32) + q9) - (1 : Int32))) (fun r15 => if r15 = 0 then 
    onn (cR S 82 a0) (fun b47 => grd (cD S b47 = 24) (cal (fL_size n 4 S b47) (fun q50 => bnd (fX11_isWithin a1 (400 : Int32) (((400 : Int32) + q50) - (1 : Int32))) (fun r56 => if r56 = 0 then 
      if a1 = 0 then bnd (cI S 80 a0) (fun v117 => some v117) else if a1 = 1 then bnd (cI S 81 a0) (fun v122 => some v122) else if a1 = 2 then onn (cR S 82 a0) (fun b127 => grd (cD S b127 = 24) (cal (fL_size n 4 S b127) (fun q130 => some q130))) else if a1 = 3 then bnd (cI S 83 a0) (fun v135 => some v135) else if a1 = 4 then bnd (cI S 84 a0) (fun v140 => some v140) else some (-1 : Int32)
      else onn (cR S 82 a0) (fun b63 => grd (cD S b63 = 24) (cal (fL_get n 4 S b63 (a1 - (400 : Int32))) (fun q71 => onn q71 (fun b74 => grd (cD S b74 = 2) (bnd (cI S 41 b74) (fun v77 => some v77))))))))))
    else onn (cR S 82 a0) (fun b22 => grd (cD S b22 = 24) (cal (fL_get n 4 S b22 (a1 - (10 : Int32))) (fun q29 => onn q29 (fun b32 => grd (cD S b32 = 2) (bnd (cI S 40 b32) (fun v35 => some v35)))))))))))
set_option maxHeartbeats 8000000 in
set_option maxRecDepth 100000 in
theorem cX3_tell_ok (l : Launch) (D : va_G) (cc : Nat → ClassId) (E : Nat → Nat) (n : Nat × Nat) (S : CS) (a0 : Nat) (a1 : Int32) {r : Int32} (h : fX3_tell n S a0 a1 = some r) : Ci l yX3_tell wsX3_tell 3 64 D cc E [.ref a0, .int a1] S r S 0 0 := by
  refine C_of (own := RX3) (bb := cX3_tell) (nL := 2) (ret := (some .int)) (by decide) rfl rfl (Nat.le_of_ble_eq_true rfl) ?_
  intro p e s m args below meth c hx hb hr hlocks hml hts hown hnm hA hK hro hw ls hl
  generalize va_A (cPs cc S) (nx S) = A at hA hro hw ⊢
  unfold fX3_tell at h
  have hinX1 : ∀ w ∈ wsX10, w ∈ wsX3_tell := by decide +kernel
  have hinX3 : ∀ w ∈ wsX30, w ∈ wsX3_tell := by decide +kernel
  have hl : lv_has ls 2 [(0, .ref a0), (1, .int a1)] := hl
  refine lv_iload_n hx hb dX3_tell_0 rfl (lv_at hl 1 rfl) ?_
  refine lv_bipush (v := 10) hx hb dX3_tell_1 (by decide) ?_
  refine lv_bipush (v := 10) hx hb dX3_tell_3 (by decide) ?_
  refine lv_aload_n hx hb dX3_tell_5 rfl (lv_at hl 0 rfl) ?_
  obtain ⟨hf1, h⟩ := of_grd h
  obtain ⟨b6, eb6, h⟩ := of_onn h
  refine C_get hx hb hts hinX3 hown hK hw (cell_4 hf1) (by omega) rfl 2 (by decide) (index := 12) (by decide +kernel) rfl (v := .ref b6) (congrArg (fun o => some (va_rf o)) eb6) dX3_tell_6 ?_
  obtain ⟨hf2, h⟩ := of_grd h
  obtain ⟨q9, hq9, h⟩ := of_cal h
  refine C_i hA hw (va_runV (As := []) (rest := [.int (10 : Int32), .int (10 : Int32), .int a1]) ⟨hx, hb, hml, hown, hts⟩ (cL_size_ok l D cc E n 4 (by decide) S b6 hq9) (cwV 0 hts gX3_tell_Jx4a65c_size_8abf5 rfl rfl rfl (by decide +kernel) ⟨Nat.le_of_ble_eq_true rfl, Nat.le_of_ble_eq_true rfl⟩) ⟨cBlind D cc E S _, C_recv hK hw (by omega) (cell_L (r := 4) (by decide) hf2) (r := (RJx4a65c, TJx4a65c, 3)) rfl, fun U hU hW => ⟨rfl, C_pre hA hK hro hw U hU hW⟩⟩ rfl rfl hl.1 rfl (lv_room (Nat.le_of_ble_eq_true rfl)) dX3_tell_9 ⟨Nat.le_refl _, Nat.le_refl _⟩) (fun H locs hw => ?_)
  refine W.widen (k := 0) (n := 0) (Nat.le_refl _) (Nat.le_refl _) ?_
  refine lv_iadd hx hb dX3_tell_12 ?_
  refine lv_iconst (v := 1) hx hb dX3_tell_13 (by decide) ?_
  refine lv_isub hx hb dX3_tell_14 ?_
  refine C_s (va_runSN (As := [.int a1, .int (10 : Int32), .int (((10 : Int32) + q9) - (1 : Int32))]) (rest := []) ⟨hx, hb, hml, hown, hts⟩ (cX11_isWithin_ok l a1 (10 : Int32) (((10 : Int32) + q9) - (1 : Int32))) ⟨va_cnB 3 hts gX3_tell_X11_isWithin_n44 rfl rfl rfl (hro.1 (RX3, 44, yX11_isWithin) (by decide +kernel)) (hts (.initialized RX11) (by decide +kernel)) (by decide +kernel) ⟨Nat.le_of_ble_eq_true rfl, Nat.le_of_ble_eq_true rfl⟩, (hts (.static yX11_isWithin) (by decide +kernel)), trivial⟩ ⟨fun a U g mk q => ⟨q.1, trivial⟩, fun U hU hW => ⟨rfl, trivial⟩⟩ rfl rfl hl.1 rfl (lv_room (Nat.le_of_ble_eq_true rfl)) dX3_tell_15 ⟨Nat.le_refl _, Nat.le_refl _⟩) (fun r15 er15 => ?_)
  have h := of_bnd h er15
  refine lv_if_eq (tgt := 39) hx hb dX3_tell_18 (by decide) (fun c18 => ?_) (fun c18 => ?_)
  · have h := of_it h c18
    refine lv_iload_n hx hb dX3_tell_39 rfl (lv_at hl 1 rfl) ?_
    refine lv_sipush (v := 400) hx hb dX3_tell_40 (by decide) ?_
    refine lv_sipush (v := 400) hx hb dX3_tell_43 (by decide) ?_
    refine lv_aload_n hx hb dX3_tell_46 rfl (lv_at hl 0 rfl) ?_
    obtain ⟨b47, eb47, h⟩ := of_onn h
    refine C_get hx hb hts hinX3 hown hK hw (cell_4 hf1) (by omega) rfl 2 (by decide) (index := 12) (by decide +kernel) rfl (v := .ref b47) (congrArg (fun o => some (va_rf o)) eb47) dX3_tell_47 ?_
    obtain ⟨hf3, h⟩ := of_grd h
    obtain ⟨q50, hq50, h⟩ := of_cal h
    refine C_i hA hw (va_runV (As := []) (rest := [.int (400 : Int32), .int (400 : Int32), .int a1]) ⟨hx, hb, hml, hown, hts⟩ (cL_size_ok l D cc E n 4 (by decide) S b47 hq50) (cwV 0 hts gX3_tell_Jx4a65c_size_8abf5 rfl rfl rfl (by decide +kernel) ⟨Nat.le_of_ble_eq_true rfl, Nat.le_of_ble_eq_true rfl⟩) ⟨cBlind D cc E S _, C_recv hK hw (by omega) (cell_L (r := 4) (by decide) hf3) (r := (RJx4a65c, TJx4a65c, 3)) rfl, fun U hU hW => ⟨rfl, C_pre hA hK hro hw U hU hW⟩⟩ rfl rfl hl.1 rfl (lv_room (Nat.le_of_ble_eq_true rfl)) dX3_tell_50 ⟨Nat.le_refl _, Nat.le_refl _⟩) (fun H locs hw => ?_)
    refine W.widen (k := 0) (n := 0) (Nat.le_refl _) (Nat.le_refl _) ?_
    refine lv_iadd hx hb dX3_tell_53 ?_
    refine lv_iconst (v := 1) hx hb dX3_tell_54 (by decide) ?_
    refine lv_isub hx hb dX3_tell_55 ?_
    refine C_s (va_runSN (As := [.int a1, .int (400 : Int32), .int (((400 : Int32) + q50) - (1 : Int32))]) (rest := []) ⟨hx, hb, hml, hown, hts⟩ (cX11_isWithin_ok l a1 (400 : Int32) (((400 : Int32) + q50) - (1 : Int32))) ⟨va_cnB 3 hts gX3_tell_X11_isWithin_n44 rfl rfl rfl (hro.1 (RX3, 44, yX11_isWithin) (by decide +kernel)) (hts (.initialized RX11) (by decide +kernel)) (by decide +kernel) ⟨Nat.le_of_ble_eq_true rfl, Nat.le_of_ble_eq_true rfl⟩, (hts (.static yX11_isWithin) (by decide +kernel)), trivial⟩ ⟨fun a U g mk q => ⟨q.1, trivial⟩, fun U hU hW => ⟨rfl, trivial⟩⟩ rfl rfl hl.1 rfl (lv_room (Nat.le_of_ble_eq_true rfl)) dX3_tell_56 ⟨Nat.le_refl _, Nat.le_refl _⟩) (fun r56 er56 => ?_)
    have h := of_bnd h er56
    refine lv_if_eq (tgt := 81) hx hb dX3_tell_59 (by decide) (fun c59 => ?_) (fun c59 => ?_)
    · have h := of_it h c59
      refine lv_iload_n hx hb dX3_tell_81 rfl (lv_at hl 1 rfl) ?_
      by_cases c82_0 : a1 = 0
      · have h := of_it h c82_0
        refine lv_tableIn (tgt := 116) hx hb dX3_tell_82 (by rw [c82_0]; decide) (by rw [c82_0]; decide) (by rw [c82_0]; rfl) (by decide) ?_
        refine lv_aload_n hx hb dX3_tell_116 rfl (lv_at hl 0 rfl) ?_
        refine C_get hx hb hts hinX3 hown hK hw (cell_4 hf1) (by omega) rfl 0 (by decide) (index := 25) (by decide +kernel) rfl rfl dX3_tell_117 ?_
        refine lv_topi (fun v117 ev117 => ?_)
        have h := of_bnd h ev117
        obtain rfl := Option.some.inj h
        exact C_iret hx hb hr hlocks hw (by rfl) dX3_tell_120
      have h := of_if h c82_0
      by_cases c82_1 : a1 = 1
      · have h := of_it h c82_1
        refine lv_tableIn (tgt := 121) hx hb dX3_tell_82 (by rw [c82_1]; decide) (by rw [c82_1]; decide) (by rw [c82_1]; rfl) (by decide) ?_
        refine lv_aload_n hx hb dX3_tell_121 rfl (lv_at hl 0 rfl) ?_
        refine C_get hx hb hts hinX3 hown hK hw (cell_4 hf1) (by omega) rfl 1 (by decide) (index := 28) (by decide +kernel) rfl rfl dX3_tell_122 ?_
        refine lv_topi (fun v122 ev122 => ?_)
        have h := of_bnd h ev122
        obtain rfl := Option.some.inj h
        exact C_iret hx hb hr hlocks hw (by rfl) dX3_tell_125
      have h := of_if h c82_1
      by_cases c82_2 : a1 = 2
      · have h := of_it h c82_2
        refine lv_tableIn (tgt := 126) hx hb dX3_tell_82 (by rw [c82_2]; decide) (by rw [c82_2]; decide) (by rw [c82_2]; rfl) (by decide) ?_
        refine lv_aload_n hx hb dX3_tell_126 rfl (lv_at hl 0 rfl) ?_
        obtain ⟨b127, eb127, h⟩ := of_onn h
        refine C_get hx hb hts hinX3 hown hK hw (cell_4 hf1) (by omega) rfl 2 (by decide) (index := 12) (by decide +kernel) rfl (v := .ref b127) (congrArg (fun o => some (va_rf o)) eb127) dX3_tell_127 ?_
        obtain ⟨hf4, h⟩ := of_grd h
        obtain ⟨q130, hq130, h⟩ := of_cal h
        refine C_i hA hw (va_runV (As := []) (rest := []) ⟨hx, hb, hml, hown, hts⟩ (cL_size_ok l D cc E n 4 (by decide) S b127 hq130) (cwV 0 hts gX3_tell_Jx4a65c_size_8abf5 rfl rfl rfl (by decide +kernel) ⟨Nat.le_of_ble_eq_true rfl, Nat.le_of_ble_eq_true rfl⟩) ⟨cBlind D cc E S _, C_recv hK hw (by omega) (cell_L (r := 4) (by decide) hf4) (r := (RJx4a65c, TJx4a65c, 3)) rfl, fun U hU hW => ⟨rfl, C_pre hA hK hro hw U hU hW⟩⟩ rfl rfl hl.1 rfl (lv_room (Nat.le_of_ble_eq_true rfl)) dX3_tell_130 ⟨Nat.le_refl _, Nat.le_refl _⟩) (fun H locs hw => ?_)
        refine W.widen (k := 0) (n := 0) (Nat.le_refl _) (Nat.le_refl _) ?_
        obtain rfl := Option.some.inj h
        exact C_iret hx hb hr hlocks hw (by rfl) dX3_tell_133
      have h := of_if h c82_2
      by_cases c82_3 : a1 = 3
      · have h := of_it h c82_3
        refine lv_tableIn (tgt := 134) hx hb dX3_tell_82 (by rw [c82_3]; decide) (by rw [c82_3]; decide) (by rw [c82_3]; rfl) (by decide) ?_
        refine lv_aload_n hx hb dX3_tell_134 rfl (lv_at hl 0 rfl) ?_
        refine C_get hx hb hts hinX3 hown hK hw (cell_4 hf1) (by omega) rfl 3 (by decide) (index := 18) (by decide +kernel) rfl rfl dX3_tell_135 ?_
        refine lv_topi (fun v135 ev135 => ?_)
        have h := of_bnd h ev135
        obtain rfl := Option.some.inj h
        exact C_iret hx hb hr hlocks hw (by rfl) dX3_tell_138
      have h := of_if h c82_3
      by_cases c82_4 : a1 = 4
      · have h := of_it h c82_4
        refine lv_tableIn (tgt := 139) hx hb dX3_tell_82 (by rw [c82_4]; decide) (by rw [c82_4]; decide) (by rw [c82_4]; rfl) (by decide) ?_
        refine lv_aload_n hx hb dX3_tell_139 rfl (lv_at hl 0 rfl) ?_
        refine C_get hx hb hts hinX3 hown hK hw (cell_4 hf1) (by omega) rfl 4 (by decide) (index := 22) (by decide +kernel) rfl rfl dX3_tell_140 ?_
        refine lv_topi (fun v140 ev140 => ?_)
        have h := of_bnd h ev140
        obtain rfl := Option.some.inj h
        exact C_iret hx hb hr hlocks hw (by rfl) dX3_tell_143
      have h := of_if h c82_4
      refine lv_tableOut (tgt := 144) hx hb dX3_tell_82 ?_ (by decide) ?_
      · refine sw_out (0) (4) a1 (by decide) (fun k h1 h2 => ?_)
        have h3 : k = 0 ∨ k = 1 ∨ k = 2 ∨ k = 3 ∨ k = 4 := by omega
        rcases h3 with rfl | rfl | rfl | rfl | rfl <;> first | exact c82_0 | exact c82_1 | exact c82_2 | exact c82_3 | exact c82_4
      refine lv_iconst (v := -1) hx hb dX3_tell_144 (by decide) ?_
      obtain rfl := Option.some.inj h
      exact C_iret hx hb hr hlocks hw (by rfl) dX3_tell_145
    · have h := of_if h c59
      refine lv_aload_n hx hb dX3_tell_62 rfl (lv_at hl 0 rfl) ?_
      obtain ⟨b63, eb63, h⟩ := of_onn h
      refine C_get hx hb hts hinX3 hown hK hw (cell_4 hf1) (by omega) rfl 2 (by decide) (index := 12) (by decide +kernel) rfl (v := .ref b63) (congrArg (fun o => some (va_rf o)) eb63) dX3_tell_63 ?_
      refine lv_iload_n hx hb dX3_tell_66 rfl (lv_at hl 1 rfl) ?_
      refine lv_sipush (v := 400) hx hb dX3_tell_67 (by decide) ?_
      refine lv_isub hx hb dX3_tell_70 ?_
      obtain ⟨hf5, h⟩ := of_grd h
      obtain ⟨q71, hq71, h⟩ := of_cal h
      refine C_q hA hw (va_runV (As := [.int (a1 - (400 : Int32))]) (rest := []) ⟨hx, hb, hml, hown, hts⟩ (cL_get_ok l D cc E n 4 (by decide) S b63 (a1 - (400 : Int32)) hq71) (cwV 1 hts gX3_tell_Jx4a65c_get_915e3 rfl rfl rfl (by decide +kernel) ⟨Nat.le_of_ble_eq_true rfl, Nat.le_of_ble_eq_true rfl⟩) ⟨cBlind D cc E S _, C_recv hK hw (by omega) (cell_L (r := 4) (by decide) hf5) (r := (RJx4a65c, TJx4a65c, 3)) rfl, fun U hU hW => ⟨rfl, C_pre hA hK hro hw U hU hW⟩⟩ rfl rfl hl.1 rfl (lv_room (Nat.le_of_ble_eq_true rfl)) dX3_tell_71 ⟨Nat.le_refl _, Nat.le_refl _⟩) (fun H locs hw => ?_)
      refine W.widen (k := 0) (n := 0) (Nat.le_refl _) (Nat.le_refl _) ?_
      obtain ⟨b74, eb74, h⟩ := of_onn h
      subst eb74
      obtain ⟨hf6, h⟩ := of_grd h
      refine va_castE hx hb hown (hts (.classLink RX3 31 RX1) (by decide +kernel)) (C_recv hK hw (by omega) (cell_2 hf6) (r := (RX1, TX1, 2)) rfl) dX3_tell_74 ?_
      refine C_get hx hb hts hinX1 hown hK hw (cell_2 hf6) (by omega) rfl 1 (by decide) (index := 55) (by decide +kernel) rfl rfl dX3_tell_77 ?_
      refine lv_topi (fun v77 ev77 => ?_)
      have h := of_bnd h ev77
      obtain rfl := Option.some.inj h
      exact C_iret hx hb hr hlocks hw (by rfl) dX3_tell_80
  · have h := of_if h c18
    refine lv_aload_n hx hb dX3_tell_21 rfl (lv_at hl 0 rfl) ?_
    obtain ⟨b22, eb22, h⟩ := of_onn h
    refine C_get hx hb hts hinX3 hown hK hw (cell_4 hf1) (by omega) rfl 2 (by decide) (index := 12) (by decide +kernel) rfl (v := .ref b22) (congrArg (fun o => some (va_rf o)) eb22) dX3_tell_22 ?_
    refine lv_iload_n hx hb dX3_tell_25 rfl (lv_at hl 1 rfl) ?_
    refine lv_bipush (v := 10) hx hb dX3_tell_26 (by decide) ?_
    refine lv_isub hx hb dX3_tell_28 ?_
    obtain ⟨hf7, h⟩ := of_grd h
    obtain ⟨q29, hq29, h⟩ := of_cal h
    refine C_q hA hw (va_runV (As := [.int (a1 - (10 : Int32))]) (rest := []) ⟨hx, hb, hml, hown, hts⟩ (cL_get_ok l D cc E n 4 (by decide) S b22 (a1 - (10 : Int32)) hq29) (cwV 1 hts gX3_tell_Jx4a65c_get_915e3 rfl rfl rfl (by decide +kernel) ⟨Nat.le_of_ble_eq_true rfl, Nat.le_of_ble_eq_true rfl⟩) ⟨cBlind D cc E S _, C_recv hK hw (by omega) (cell_L (r := 4) (by decide) hf7) (r := (RJx4a65c, TJx4a65c, 3)) rfl, fun U hU hW => ⟨rfl, C_pre hA hK hro hw U hU hW⟩⟩ rfl rfl hl.1 rfl (lv_room (Nat.le_of_ble_eq_true rfl)) dX3_tell_29 ⟨Nat.le_refl _, Nat.le_refl _⟩) (fun H locs hw => ?_)
    refine W.widen (k := 0) (n := 0) (Nat.le_refl _) (Nat.le_refl _) ?_
    obtain ⟨b32, eb32, h⟩ := of_onn h
    subst eb32
    obtain ⟨hf8, h⟩ := of_grd h
    refine va_castE hx hb hown (hts (.classLink RX3 31 RX1) (by decide +kernel)) (C_recv hK hw (by omega) (cell_2 hf8) (r := (RX1, TX1, 2)) rfl) dX3_tell_32 ?_
    refine C_get hx hb hts hinX1 hown hK hw (cell_2 hf8) (by omega) rfl 0 (by decide) (index := 52) (by decide +kernel) rfl rfl dX3_tell_35 ?_
    refine lv_topi (fun v35 ev35 => ?_)
    have h := of_bnd h ev35
    obtain rfl := Option.some.inj h
    exact C_iret hx hb hr hlocks hw (by rfl) dX3_tell_38

def fX8_init (n : Nat × Nat) (S : CS) (a0 : Nat) : Option (CS × Nat × Nat) :=
  adc 1 10 (bnd (nx S) (fun q7 => bnd (nw S 46 10) (fun S7 => grd (cD S7 a0 = 9) (bnd (uR S7 180 a0 (some q7)) (fun S9 => adc 1 10 (bnd (nx S9) (fun q15 => bnd (nw S9 47 10) (fun S15 => grd (cD S15 a0 = 9) (bnd (uR S15 181 a0 (some q15)) (fun S17 => bnd (uI S17 182 a0 (0 : Int32)) (fun S22 => some (S22, 0, 0))))))))))))
set_option maxHeartbeats 8000000 in
set_option maxRecDepth 100000 in
theorem cX8_init_ok (l : Launch) (D : va_G) (cc : Nat → ClassId) (E : Nat → Nat) (n : Nat × Nat) (S : CS) (a0 : Nat) {T : CS} {mc ms : Nat} (h : fX8_init n S a0 = some (T, mc, ms)) : Cv l yX8_init wsX8_init 1 20 D cc E [.ref a0] S T mc ms := by
  refine C_of (own := RX8) (bb := cX8_init) (nL := 1) (ret := none) (by decide) rfl rfl (Nat.le_of_ble_eq_true rfl) ?_
  intro p e s m args below meth c hx hb hr hlocks hml hts hown hnm hA hK hro hw ls hl
  generalize va_A (cPs cc S) (nx S) = A at hA hro hw ⊢
  unfold fX8_init at h
  have hinX8 : ∀ w ∈ wsX80, w ∈ wsX8_init := by decide +kernel
  have hl : lv_has ls 1 [(0, .ref a0)] := hl
  refine W.widen (k := mc - mc) (n := ms - ms) (by omega) (by omega) ?_
  have hk1 : mc ≤ mc := Nat.le_refl _
  have hk2 : ms ≤ ms := Nat.le_refl _
  refine lv_aload_n hx hb dX8_init_0 rfl (lv_at hl 0 rfl) ?_
  refine W.objInit hx hb hown (hts (.methodLink RX8 3 objectInit) (by decide +kernel)) (hts (.instanceMethod objectInit) (by decide +kernel)) (hts (.code objectInit ⟨#[0xb1]⟩ 1 none) (by decide +kernel)) rfl (by rw [hml]; exact hl.1) rfl dX8_init_1 (Nat.le_of_ble_eq_true rfl) (Nat.le_of_ble_eq_true rfl) ?_
  refine W.eq (g2 := F0 m 4 ls []) rfl ?_
  refine lv_aload_n hx hb dX8_init_4 rfl (lv_at hl 0 rfl) ?_
  refine lv_bipush (v := 10) hx hb dX8_init_5 (by decide) ?_
  obtain ⟨kc1, ks1, h, ek1, ek2⟩ := of_adc h
  refine C_newa (d := 46) hx hb hts (by decide +kernel) (ty := .int) rfl hK hA hw 0 rfl (fun _ _ => rfl) (N' := 10) (fun _ => rfl) (cnew_A S (by decide) (by decide)) (by decide) (by decide) (by decide) (by decide) (by show _ ≤ mc; omega) (by show _ ≤ ms; omega) dX8_init_7 (fun q7 S7 H eq7 eS7 hw => ?_)
  have h := of_bnd h eq7
  have h := of_bnd h eS7
  refine W.widen (k := mc - kc1) (n := ms - ks1) (by omega) (by omega) ?_
  have hk1 : kc1 ≤ mc := by omega
  have hk2 : ks1 ≤ ms := by omega
  have hf2 : cD S7 q7 = 46 := by rw [eS7, eq7]; exact cD_new _ _ _
  obtain ⟨hf3, h⟩ := of_grd h
  refine C_putF hx hb hts hinX8 tyX8 tyX8_ok nmX8 hown hK hw (cell_9 hf3) (by omega) rfl 0 (by decide) (index := 9) (by decide +kernel) rfl rfl hnm rfl (ty := (.array .int)) (by decide +kernel) rfl rfl (Nat.le_of_ble_eq_true rfl) (S' := uR S7 180 a0 (some q7)) rfl rfl rfl (pu_180 hf3 (some q7)) (fun b hb => off_uR hb) dX8_init_9 (fun S9 H locs eS9 hw => ?_)
  have h := of_bnd h eS9
  refine lv_aload_n hx hb dX8_init_12 rfl (lv_at hl 0 rfl) ?_
  refine lv_bipush (v := 10) hx hb dX8_init_13 (by decide) ?_
  obtain ⟨kc4, ks4, h, ek1, ek2⟩ := of_adc h
  refine C_newa (d := 47) hx hb hts (by decide +kernel) (ty := .int) rfl hK hA hw 0 rfl (fun _ _ => rfl) (N' := 10) (fun _ => rfl) (cnew_A S9 (by decide) (by decide)) (by decide) (by decide) (by decide) (by decide) (by show _ ≤ mc; omega) (by show _ ≤ ms; omega) dX8_init_15 (fun q15 S15 H eq15 eS15 hw => ?_)
  have h := of_bnd h eq15
  have h := of_bnd h eS15
  refine W.widen (k := mc - kc4) (n := ms - ks4) (by omega) (by omega) ?_
  have hk1 : kc4 ≤ mc := by omega
  have hk2 : ks4 ≤ ms := by omega
  have hf5 : cD S15 q15 = 47 := by rw [eS15, eq15]; exact cD_new _ _ _
  obtain ⟨hf6, h⟩ := of_grd h
  refine C_putF hx hb hts hinX8 tyX8 tyX8_ok nmX8 hown hK hw (cell_9 hf6) (by omega) rfl 1 (by decide) (index := 15) (by decide +kernel) rfl rfl hnm rfl (ty := (.array .int)) (by decide +kernel) rfl rfl (Nat.le_of_ble_eq_true rfl) (S' := uR S15 181 a0 (some q15)) rfl rfl rfl (pu_181 hf6 (some q15)) (fun b hb => off_uR hb) dX8_init_17 (fun S17 H locs eS17 hw => ?_)
  have h := of_bnd h eS17
  refine lv_aload_n hx hb dX8_init_20 rfl (lv_at hl 0 rfl) ?_
  refine lv_iconst (v := 0) hx hb dX8_init_21 (by decide) ?_
  have hf7 : cD S17 a0 = 9 := by rw [eS17]; exact hf6
  refine C_put hx hb hts hinX8 tyX8 tyX8_ok nmX8 hown hK hw (cell_9 hf7) (by omega) rfl 2 (by decide) (index := 18) (by decide +kernel) rfl rfl (ty := .int) (by decide +kernel) rfl rfl (Nat.le_of_ble_eq_true rfl) (S' := uI S17 182 a0 (0 : Int32)) rfl rfl rfl (pu_182 hf7 (0 : Int32)) (fun b hb => off_uI hb) dX8_init_22 (fun S22 H locs eS22 hw => ?_)
  have h := of_bnd h eS22
  obtain ⟨rfl, ek1, ek2⟩ := of_retV h
  refine W.widen (k := mc) (n := ms) (by omega) (by omega) ?_
  exact C_vret hx hb hr hlocks hw dX8_init_25

def fX7_add_lp32 (n : Nat × Nat) (S : CS) (f1 : Nat) : Nat → Option Nat → Option Nat → Option ((Option Nat))
  | 0, _, _ => none
  | k + 1, l2, l3 =>
    oel l3 (some l2) (fun b33 => grd (cD S b33 = 3) (bnd (cI S 63 b33) (fun v37 => grd (cD S f1 = 3) (bnd (cI S 63 f1) (fun v41 => if v41 < v37 then 
            some l2
            else bnd (cR S 69 b33) (fun o50 => fX7_add_lp32 n S f1 k (some b33) o50 ))))))
def fX7_add (n : Nat × Nat) (S : CS) (a0 : Nat) (a1 : Nat) : Option (CS × Nat × Nat) :=
  grd (cD S a1 = 3) (bnd (cI S 61 a1) (fun v1 => bnd (fX11_isKind v1) (fun r4 => if r4 = 0 then 
    some (S, 0, 0)
    else grd (cD S a0 = 8) (onn (cR S 160 a0) (fun b12 => grd (cD S b12 = 20) (cal (fL_add n 0 S b12 a1) (un2 fun w16 u16 => un2 (fun r16 S16 => un2 (fun c1_16 c2_16 => adc c1_16 c2_16 (grd (cD S16 a0 = 8) (onn (cR S16 161 a0) (fun b23 => grd (cD S16 a1 = 3) (bnd (cI S16 61 a1) (fun v27 => grd (cD S16 b23 = 61) (grd (¬ (v27 < 0 ∨ cN S16 b23 ≤ v27.toNatClampNeg)) (bnd (cQ S16 61 b23 v27.toNatClampNeg) (fun o30 => cal (fX7_add_lp32 n S16 a1 n.1 none o30 ) (fun t2_32 => oel t2_32 (onn (cR S16 161 a0) (fun b63 => bnd (cI S16 61 a1) (fun v67 => grd (cD S16 b63 = 61) (grd (¬ (v67 < 0 ∨ cN S16 b63 ≤ v67.toNatClampNeg)) (bnd (cQ S16 61 b63 v67.toNatClampNeg) (fun o70 => bnd (uR S16 69 a1 o70) (fun S71 => onn (cR S71 161 a0) (fun b75 => bnd (cI S71 61 a1) (fun v79 => grd (cD S71 b75 = 61) (grd (¬ (v79 < 0 ∨ cN S71 b75 ≤ v79.toNatClampNeg)) (bnd (uQ S71 61 b75 v79.toNatClampNeg (some a1)) (fun S83 => some (S83, 0, 0))))))))))))) (fun b58 => grd (cD S16 b58 = 3) (bnd (cR S16 69 b58) (fun o89 => bnd (uR S16 69 a1 o89) (fun S92 => bnd (uR S92 69 b58 (some a1)) (fun S97 => some (S97, 0, 0)))))))))))))))) u16) w16)))))))
set_option maxHeartbeats 8000000 in
set_option maxRecDepth 100000 in
theorem cX7_add_ok (l : Launch) (D : va_G) (cc : Nat → ClassId) (E : Nat → Nat) (n : Nat × Nat) (hE : E 0 = n.2) (S : CS) (a0 : Nat) (a1 : Nat) {T : CS} {mc ms : Nat} (h : fX7_add n S a0 a1 = some (T, mc, ms)) : Cv l yX7_add wsX7_add 7 191 D cc E [.ref a0, .ref a1] S T mc ms := by
  refine C_of (own := RX7) (bb := cX7_add) (nL := 4) (ret := none) (by decide) rfl rfl (Nat.le_of_ble_eq_true rfl) ?_
  intro p e s m args below meth c hx hb hr hlocks hml hts hown hnm hA hK hro hw ls hl
  generalize va_A (cPs cc S) (nx S) = A at hA hro hw ⊢
  unfold fX7_add at h
  have hinX2 : ∀ w ∈ wsX20, w ∈ wsX7_add := by decide +kernel
  have hinX7 : ∀ w ∈ wsX70, w ∈ wsX7_add := by decide +kernel
  have hl : lv_has ls 4 [(0, .ref a0), (1, .ref a1)] := hl
  refine W.widen (k := mc - mc) (n := ms - ms) (by omega) (by omega) ?_
  have hk1 : mc ≤ mc := Nat.le_refl _
  have hk2 : ms ≤ ms := Nat.le_refl _
  refine lv_aload_n hx hb dX7_add_0 rfl (lv_at hl 1 rfl) ?_
  obtain ⟨hf1, h⟩ := of_grd h
  refine C_get hx hb hts hinX2 hown hK hw (cell_3 hf1) (by omega) rfl 1 (by decide) (index := 40) (by decide +kernel) rfl rfl dX7_add_1 ?_
  refine lv_topi (fun v1 ev1 => ?_)
  have h := of_bnd h ev1
  refine C_s (va_runSN (As := [.int v1]) (rest := []) ⟨hx, hb, hml, hown, hts⟩ (cX11_isKind_ok l v1) ⟨va_cnB 1 hts gX7_add_X11_isKind_n36 rfl rfl rfl (hro.1 (RX7, 36, yX11_isKind) (by decide +kernel)) (hts (.initialized RX11) (by decide +kernel)) (by decide +kernel) ⟨Nat.le_of_ble_eq_true rfl, Nat.le_of_ble_eq_true rfl⟩, (hts (.static yX11_isKind) (by decide +kernel)), trivial⟩ ⟨fun a U g mk q => ⟨q.1, trivial⟩, fun U hU hW => ⟨rfl, trivial⟩⟩ rfl rfl hl.1 rfl (lv_room (Nat.le_of_ble_eq_true rfl)) dX7_add_4 ⟨by show _ ≤ mc; omega, by show _ ≤ ms; omega⟩) (fun r4 er4 => ?_)
  have h := of_bnd h er4
  refine lv_if_ne (tgt := 11) hx hb dX7_add_7 (by decide) (fun c7 => ?_) (fun c7 => ?_)
  · have h := of_if h c7
    refine lv_aload_n hx hb dX7_add_11 rfl (lv_at hl 0 rfl) ?_
    obtain ⟨hf2, h⟩ := of_grd h
    obtain ⟨b12, eb12, h⟩ := of_onn h
    refine C_get hx hb hts hinX7 hown hK hw (cell_8 hf2) (by omega) rfl 0 (by decide) (index := 12) (by decide +kernel) rfl (v := .ref b12) (congrArg (fun o => some (va_rf o)) eb12) dX7_add_12 ?_
    refine lv_aload_n hx hb dX7_add_15 rfl (lv_at hl 1 rfl) ?_
    obtain ⟨hf3, h⟩ := of_grd h
    obtain ⟨q16, hq16, h⟩ := of_cal h
    obtain ⟨⟨r16, S16⟩, c1_16, c2_16⟩ := q16
    have h := of_un2 h
    have h := of_un2 h
    have h := of_un2 h
    obtain ⟨kc4, ks4, h, ek1, ek2⟩ := of_adc h
    refine C_i hA hw (va_runV (As := [.ref a1]) (rest := []) ⟨hx, hb, hml, hown, hts⟩ (cL_add_ok l D cc E n hE 0 (by decide) S b12 a1 hq16) (cwV 1 hts gX7_add_Jx4a65c_add_9ea2d rfl rfl rfl (by decide +kernel) ⟨Nat.le_of_ble_eq_true rfl, Nat.le_of_ble_eq_true rfl⟩) ⟨cBlind D cc E S _, C_recv hK hw (by omega) (cell_L (r := 0) (by decide) hf3) (r := (RJx4a65c, TJx4a65c, 3)) rfl, fun U hU hW => ⟨rfl, C_pre hA hK hro hw U hU hW⟩⟩ rfl rfl hl.1 rfl (lv_room (Nat.le_of_ble_eq_true rfl)) dX7_add_16 ⟨by show _ ≤ mc; omega, by show _ ≤ ms; omega⟩) (fun H locs hw => ?_)
    refine W.widen (k := mc - kc4) (n := ms - ks4) (by omega) (by omega) ?_
    have hk1 : kc4 ≤ mc := by omega
    have hk2 : ks4 ≤ ms := by omega
    refine lv_pop hx hb dX7_add_19 rfl ?_
    refine lv_null hx hb dX7_add_20 ?_
    refine lv_astore_nN (lv' := [(2, .null), (0, .ref a0), (1, .ref a1)]) hx hb dX7_add_21 rfl hl (by decide) rfl (fun ls hl => ?_)
    refine lv_aload_n hx hb dX7_add_22 rfl (lv_at hl 1 rfl) ?_
    obtain ⟨hf5, h⟩ := of_grd h
    obtain ⟨b23, eb23, h⟩ := of_onn h
    refine C_get hx hb hts hinX7 hown hK hw (cell_8 hf5) (by omega) rfl 1 (by decide) (index := 20) (by decide +kernel) rfl (v := .ref b23) (congrArg (fun o => some (va_rf o)) eb23) dX7_add_23 ?_
    refine lv_aload_n hx hb dX7_add_26 rfl (lv_at hl 2 rfl) ?_
    obtain ⟨hf6, h⟩ := of_grd h
    refine C_get hx hb hts hinX2 hown hK hw (cell_3 hf6) (by omega) rfl 1 (by decide) (index := 40) (by decide +kernel) rfl rfl dX7_add_27 ?_
    refine lv_topi (fun v27 ev27 => ?_)
    have h := of_bnd h ev27
    obtain ⟨hf7, h⟩ := of_grd h
    obtain ⟨hi30, h⟩ := of_grd h
    refine C_aald61 hx hb hK hw hf7 hi30 dX7_add_30 ?_
    obtain ⟨o30, eo30⟩ : ∃ o, o = cQ S16 61 b23 v27.toNatClampNeg := ⟨_, rfl⟩
    have h := of_bnd h eo30
    rw [← eo30]
    refine lv_astore_nq (lv' := [(3, va_rf o30), (2, .null), (0, .ref a0), (1, .ref a1)]) hx hb dX7_add_31 rfl hl (by decide) rfl (fun ls hl => ?_)
    have lp32 : ∀ (f0 : Nat) (f1 : Nat) (S : CS) (k : Nat) (l2 : Option Nat) (l3 : Option Nat) (q : (Option Nat)) (g1 g2 : Nat), fX7_add_lp32 n S f1 k l2 l3  = some q → g1 ≤ mc → g2 ≤ ms → ∀ (H : Heap) (locs : List Loc), cWd D cc A s.heap S H locs → ∀ ls : Array Slot, lv_has ls 4 [(0, .ref f0), (1, .ref f1), (2, va_rf l2), (3, va_rf l3)] → (∀ (t2 : Option Nat), t2 = q → ∀ (H : Heap) (locs : List Loc), cWd D cc A s.heap S H locs → ∀ ls : Array Slot, lv_has ls 4 [(0, .ref f0), (1, .ref f1), (2, va_rf t2)] → W p l e (cRm 7 191 mc ms) s m args below meth c H locs (mc - g1) (ms - g2) (MQ below (va_Qv (fun u => u = T) (cAft D cc A) A) args s mc ms A) (F0 m 57 ls [])) → W p l e (cRm 7 191 mc ms) s m args below meth c H locs (mc - g1) (ms - g2) (MQ below (va_Qv (fun u => u = T) (cAft D cc A) A) args s mc ms A) (F0 m 32 ls []) := by
      intro f0 f1 S k
      induction k with
      | zero => intro l2 l3 q g1 g2 h; rw [fX7_add_lp32] at h; cases h
      | succ k ih32 =>
        intro l2 l3 q g1 g2 h hk1 hk2 H locs hw ls hl kx32_0
        rw [fX7_add_lp32] at h
        refine lv_aload_nq hx hb dX7_add_32 rfl (lv_at hl 3 rfl) ?_
        rcases l3 with _ | b33
        · have h := of_oelN h
          have hl : lv_has ls 4 [(0, .ref f0), (1, .ref f1), (2, va_rf l2), (3, .null)] := hl
          refine lv_ifnullN (tgt := 57) hx hb dX7_add_33 (by decide) ?_
          exact kx32_0 l2 (Option.some.inj h) _ _ hw ls (lv_sub hl [0, 1, 2] rfl)
        · have h := of_oelS h
          have hl : lv_has ls 4 [(0, .ref f0), (1, .ref f1), (2, va_rf l2), (3, .ref b33)] := hl
          refine lv_ifnull hx hb dX7_add_33 ?_
          refine lv_aload_n hx hb dX7_add_36 rfl (lv_at hl 3 rfl) ?_
          obtain ⟨hf8, h⟩ := of_grd h
          refine C_get hx hb hts hinX2 hown hK hw (cell_3 hf8) (by omega) rfl 3 (by decide) (index := 48) (by decide +kernel) rfl rfl dX7_add_37 ?_
          refine lv_topi (fun v37 ev37 => ?_)
          have h := of_bnd h ev37
          refine lv_aload_n hx hb dX7_add_40 rfl (lv_at hl 1 rfl) ?_
          obtain ⟨hf9, h⟩ := of_grd h
          refine C_get hx hb hts hinX2 hown hK hw (cell_3 hf9) (by omega) rfl 3 (by decide) (index := 48) (by decide +kernel) rfl rfl dX7_add_41 ?_
          refine lv_topi (fun v41 ev41 => ?_)
          have h := of_bnd h ev41
          refine lv_icmp_gt (tgt := 57) hx hb dX7_add_44 (by decide) (fun c44 => ?_) (fun c44 => ?_)
          · have h := of_it h c44
            exact kx32_0 l2 (Option.some.inj h) _ _ hw ls (lv_sub hl [0, 1, 2] rfl)
          · have h := of_if h c44
            refine lv_aload_n hx hb dX7_add_47 rfl (lv_at hl 3 rfl) ?_
            refine lv_astore_n (lv' := [(2, .ref b33), (0, .ref f0), (1, .ref f1), (3, .ref b33)]) hx hb dX7_add_48 rfl hl (by decide) rfl (fun ls hl => ?_)
            refine lv_aload_n hx hb dX7_add_49 rfl (lv_at hl 3 rfl) ?_
            obtain ⟨o50, eo50⟩ : ∃ o, o = cR S 69 b33 := ⟨_, rfl⟩
            have h := of_bnd h eo50
            refine C_get hx hb hts hinX2 hown hK hw (cell_3 hf8) (by omega) rfl 9 (by decide) (index := 51) (by decide +kernel) rfl (v := va_rf o50) (congrArg (fun o => some (va_rf o)) eo50.symm) dX7_add_50 ?_
            refine lv_astore_nq (lv' := [(3, va_rf o50), (2, .ref b33), (0, .ref f0), (1, .ref f1)]) hx hb dX7_add_53 rfl hl (by decide) rfl (fun ls hl => ?_)
            refine lv_goto (tgt := 32) hx hb dX7_add_54 (by decide) ?_
            exact ih32 (some b33) o50 _ _ _ h (by omega) (by omega) _ _ hw ls (lv_sub hl [2, 3, 1, 0] rfl) kx32_0
    obtain ⟨q32, hq32, h⟩ := of_cal h
    refine lp32 a0 a1 S16 n.1 none o30 q32 kc4 ks4 hq32 (by omega) (by omega) _ _ hw ls (lv_sub hl [2, 3, 1, 0] rfl) ?_
    · intro t2_32 eq H locs hw ls hl
      subst eq
      have hk1 : kc4 ≤ mc := by omega
      have hk2 : ks4 ≤ ms := by omega
      refine lv_aload_nq hx hb dX7_add_57 rfl (lv_at hl 2 rfl) ?_
      rcases t2_32 with _ | b58
      · have h := of_oelN h
        have hl : lv_has ls 4 [(0, .ref a0), (1, .ref a1), (2, .null)] := hl
        refine lv_ifnonnullN hx hb dX7_add_58 ?_
        refine lv_aload_n hx hb dX7_add_61 rfl (lv_at hl 1 rfl) ?_
        refine lv_aload_n hx hb dX7_add_62 rfl (lv_at hl 0 rfl) ?_
        obtain ⟨b63, eb63, h⟩ := of_onn h
        refine C_get hx hb hts hinX7 hown hK hw (cell_8 hf5) (by omega) rfl 1 (by decide) (index := 20) (by decide +kernel) rfl (v := .ref b63) (congrArg (fun o => some (va_rf o)) eb63) dX7_add_63 ?_
        refine lv_aload_n hx hb dX7_add_66 rfl (lv_at hl 1 rfl) ?_
        refine C_get hx hb hts hinX2 hown hK hw (cell_3 hf6) (by omega) rfl 1 (by decide) (index := 40) (by decide +kernel) rfl rfl dX7_add_67 ?_
        refine lv_topi (fun v67 ev67 => ?_)
        have h := of_bnd h ev67
        obtain ⟨hf10, h⟩ := of_grd h
        obtain ⟨hi70, h⟩ := of_grd h
        refine C_aald61 hx hb hK hw hf10 hi70 dX7_add_70 ?_
        obtain ⟨o70, eo70⟩ : ∃ o, o = cQ S16 61 b63 v67.toNatClampNeg := ⟨_, rfl⟩
        have h := of_bnd h eo70
        rw [← eo70]
        refine C_put hx hb hts hinX2 tyX2 tyX2_ok nmX2 hown hK hw (cell_3 hf6) (by omega) rfl 9 (by decide) (index := 51) (by decide +kernel) rfl rfl (ty := (.object "FoodShares$Lot")) (by decide +kernel) (nar_rf _ _) (fit_rf _ _) (Nat.le_of_ble_eq_true rfl) (S' := uR S16 69 a1 o70) rfl rfl rfl (pu_69 hf6 o70) (fun b hb => off_uR hb) dX7_add_71 (fun S71 H locs eS71 hw => ?_)
        have h := of_bnd h eS71
        refine lv_aload_n hx hb dX7_add_74 rfl (lv_at hl 0 rfl) ?_
        have hf11 : cD S71 a0 = 8 := by rw [eS71]; exact hf5
        obtain ⟨b75, eb75, h⟩ := of_onn h
        refine C_get hx hb hts hinX7 hown hK hw (cell_8 hf11) (by omega) rfl 1 (by decide) (index := 20) (by decide +kernel) rfl (v := .ref b75) (congrArg (fun o => some (va_rf o)) eb75) dX7_add_75 ?_
        refine lv_aload_n hx hb dX7_add_78 rfl (lv_at hl 1 rfl) ?_
        have hf12 : cD S71 a1 = 3 := by rw [eS71]; exact hf6
        refine C_get hx hb hts hinX2 hown hK hw (cell_3 hf12) (by omega) rfl 1 (by decide) (index := 40) (by decide +kernel) rfl rfl dX7_add_79 ?_
        refine lv_topi (fun v79 ev79 => ?_)
        have h := of_bnd h ev79
        refine lv_aload_n hx hb dX7_add_82 rfl (lv_at hl 1 rfl) ?_
        obtain ⟨hf13, h⟩ := of_grd h
        obtain ⟨hi83, h⟩ := of_grd h
        refine C_aast61 hx hb hK hw hf13 hf12 hi83 dX7_add_83 (fun S83 H locs eS83 hw => ?_)
        have h := of_bnd h eS83
        refine lv_goto (tgt := 100) hx hb dX7_add_84 (by decide) ?_
        obtain ⟨rfl, ek1, ek2⟩ := of_retV h
        refine W.widen (k := mc) (n := ms) (by omega) (by omega) ?_
        exact C_vret hx hb hr hlocks hw dX7_add_100
      · have h := of_oelS h
        have hl : lv_has ls 4 [(0, .ref a0), (1, .ref a1), (2, .ref b58)] := hl
        refine lv_ifnonnull (tgt := 87) hx hb dX7_add_58 (by decide) ?_
        refine lv_aload_n hx hb dX7_add_87 rfl (lv_at hl 1 rfl) ?_
        refine lv_aload_n hx hb dX7_add_88 rfl (lv_at hl 2 rfl) ?_
        obtain ⟨hf14, h⟩ := of_grd h
        obtain ⟨o89, eo89⟩ : ∃ o, o = cR S16 69 b58 := ⟨_, rfl⟩
        have h := of_bnd h eo89
        refine C_get hx hb hts hinX2 hown hK hw (cell_3 hf14) (by omega) rfl 9 (by decide) (index := 51) (by decide +kernel) rfl (v := va_rf o89) (congrArg (fun o => some (va_rf o)) eo89.symm) dX7_add_89 ?_
        refine C_put hx hb hts hinX2 tyX2 tyX2_ok nmX2 hown hK hw (cell_3 hf6) (by omega) rfl 9 (by decide) (index := 51) (by decide +kernel) rfl rfl (ty := (.object "FoodShares$Lot")) (by decide +kernel) (nar_rf _ _) (fit_rf _ _) (Nat.le_of_ble_eq_true rfl) (S' := uR S16 69 a1 o89) rfl rfl rfl (pu_69 hf6 o89) (fun b hb => off_uR hb) dX7_add_92 (fun S92 H locs eS92 hw => ?_)
        have h := of_bnd h eS92
        refine lv_aload_n hx hb dX7_add_95 rfl (lv_at hl 2 rfl) ?_
        refine lv_aload_n hx hb dX7_add_96 rfl (lv_at hl 1 rfl) ?_
        have hf15 : cD S92 b58 = 3 := by rw [eS92]; exact hf14
        refine C_put hx hb hts hinX2 tyX2 tyX2_ok nmX2 hown hK hw (cell_3 hf15) (by omega) rfl 9 (by decide) (index := 51) (by decide +kernel) rfl rfl (ty := (.object "FoodShares$Lot")) (by decide +kernel) rfl rfl (Nat.le_of_ble_eq_true rfl) (S' := uR S92 69 b58 (some a1)) rfl rfl rfl (pu_69 hf15 (some a1)) (fun b hb => off_uR hb) dX7_add_97 (fun S97 H locs eS97 hw => ?_)
        have h := of_bnd h eS97
        obtain ⟨rfl, ek1, ek2⟩ := of_retV h
        refine W.widen (k := mc) (n := ms) (by omega) (by omega) ?_
        exact C_vret hx hb hr hlocks hw dX7_add_100
  · have h := of_it h c7
    obtain ⟨rfl, ek1, ek2⟩ := of_retV h
    refine W.widen (k := mc) (n := ms) (by omega) (by omega) ?_
    exact C_vret hx hb hr hlocks hw dX7_add_10

def fX7_spoilBefore_lp2 (n : Nat × Nat) (f0 : Nat) (f1 : Int32) : Nat → Int32 → CS → Option (CS)
  | 0, _, _ => none
  | k + 1, l2, S =>
    grd (cD S f0 = 8) (onn (cR S 160 f0) (fun b4 => grd (cD S b4 = 20) (cal (fL_size n 0 S b4) (fun q7 => if q7 ≤ l2 then 
        some S
        else onn (cR S 160 f0) (fun b14 => grd (cD S b14 = 20) (cal (fL_get n 0 S b14 l2) (fun q18 => onn q18 (fun b21 => grd (cD S b21 = 3) (bnd (cI S 63 b21) (fun v26 => if f1 ≤ v26 then 
          bnd (l2 + 1) (fun x50 => fX7_spoilBefore_lp2 n f0 f1 k x50 S)
          else bnd (cI S 68 b21) (fun v35 => bnd (cI S 65 b21) (fun v40 => cal (fX2_lose n S b21 v40) (un2 fun r43 S43 => grd (cD S43 b21 = 3) (bnd (uI S43 68 b21 (v35 + r43)) (fun S47 => bnd (l2 + 1) (fun x50 => fX7_spoilBefore_lp2 n f0 f1 k x50 S47))))))))))))))))
def fX7_spoilBefore (n : Nat × Nat) (S : CS) (a0 : Nat) (a1 : Int32) : Option (CS) :=
  bnd (0 : Int32) (fun x1 => cal (fX7_spoilBefore_lp2 n a0 a1 n.1 x1 S) (fun S2 => some S2))
set_option maxHeartbeats 8000000 in
set_option maxRecDepth 100000 in
theorem cX7_spoilBefore_ok (l : Launch) (D : va_G) (cc : Nat → ClassId) (E : Nat → Nat) (n : Nat × Nat) (S : CS) (a0 : Nat) (a1 : Int32) {T : CS} (h : fX7_spoilBefore n S a0 a1 = some T) : Cv l yX7_spoilBefore wsX7_spoilBefore 3 64 D cc E [.ref a0, .int a1] S T 0 0 := by
  refine C_of (own := RX7) (bb := cX7_spoilBefore) (nL := 4) (ret := none) (by decide) rfl rfl (Nat.le_of_ble_eq_true rfl) ?_
  intro p e s m args below meth c hx hb hr hlocks hml hts hown hnm hA hK hro hw ls hl
  generalize va_A (cPs cc S) (nx S) = A at hA hro hw ⊢
  unfold fX7_spoilBefore at h
  have hinX2 : ∀ w ∈ wsX20, w ∈ wsX7_spoilBefore := by decide +kernel
  have hinX7 : ∀ w ∈ wsX70, w ∈ wsX7_spoilBefore := by decide +kernel
  have hl : lv_has ls 4 [(0, .ref a0), (1, .int a1)] := hl
  refine lv_iconst (v := 0) hx hb dX7_spoilBefore_0 (by decide) ?_
  refine lv_topi (fun x1 ex1 => ?_)
  have h := of_bnd h ex1
  refine lv_istore_n (lv' := [(2, .int x1), (0, .ref a0), (1, .int a1)]) hx hb dX7_spoilBefore_1 rfl hl (by decide) rfl (fun ls hl => ?_)
  have lp2 : ∀ (f0 : Nat) (f1 : Int32) (k : Nat) (l2 : Int32) (S : CS) (q : CS) , fX7_spoilBefore_lp2 n f0 f1 k l2 S = some q → ∀ (H : Heap) (locs : List Loc), cWd D cc A s.heap S H locs → ∀ ls : Array Slot, lv_has ls 4 [(0, .ref f0), (1, .int f1), (2, .int l2)] → (∀  (S1 : CS), S1 = q → ∀ (H : Heap) (locs : List Loc), cWd D cc A s.heap S1 H locs → ∀ ls : Array Slot, lv_has ls 4 [] → W p l e (cRm 3 64 0 0) s m args below meth c H locs (0) (0) (MQ below (va_Qv (fun u => u = T) (cAft D cc A) A) args s 0 0 A) (F0 m 56 ls [])) → W p l e (cRm 3 64 0 0) s m args below meth c H locs (0) (0) (MQ below (va_Qv (fun u => u = T) (cAft D cc A) A) args s 0 0 A) (F0 m 2 ls []) := by
    intro f0 f1 k
    induction k with
    | zero => intro l2 S q h; rw [fX7_spoilBefore_lp2] at h; cases h
    | succ k ih2 =>
      intro l2 S q h H locs hw ls hl kx2_0
      rw [fX7_spoilBefore_lp2] at h
      refine lv_iload_n hx hb dX7_spoilBefore_2 rfl (lv_at hl 2 rfl) ?_
      refine lv_aload_n hx hb dX7_spoilBefore_3 rfl (lv_at hl 0 rfl) ?_
      obtain ⟨hf1, h⟩ := of_grd h
      obtain ⟨b4, eb4, h⟩ := of_onn h
      refine C_get hx hb hts hinX7 hown hK hw (cell_8 hf1) (by omega) rfl 0 (by decide) (index := 12) (by decide +kernel) rfl (v := .ref b4) (congrArg (fun o => some (va_rf o)) eb4) dX7_spoilBefore_4 ?_
      obtain ⟨hf2, h⟩ := of_grd h
      obtain ⟨q7, hq7, h⟩ := of_cal h
      refine C_i hA hw (va_runV (As := []) (rest := [.int l2]) ⟨hx, hb, hml, hown, hts⟩ (cL_size_ok l D cc E n 0 (by decide) S b4 hq7) (cwV 0 hts gX7_spoilBefore_Jx4a65c_size_8abf5 rfl rfl rfl (by decide +kernel) ⟨Nat.le_of_ble_eq_true rfl, Nat.le_of_ble_eq_true rfl⟩) ⟨cBlind D cc E S _, C_recv hK hw (by omega) (cell_L (r := 0) (by decide) hf2) (r := (RJx4a65c, TJx4a65c, 3)) rfl, fun U hU hW => ⟨rfl, C_pre hA hK hro hw U hU hW⟩⟩ rfl rfl hl.1 rfl (lv_room (Nat.le_of_ble_eq_true rfl)) dX7_spoilBefore_7 ⟨Nat.le_refl _, Nat.le_refl _⟩) (fun H locs hw => ?_)
      refine W.widen (k := 0) (n := 0) (Nat.le_refl _) (Nat.le_refl _) ?_
      refine lv_icmp_ge (tgt := 56) hx hb dX7_spoilBefore_10 (by decide) (fun c10 => ?_) (fun c10 => ?_)
      · have h := of_it h c10
        exact kx2_0 S (Option.some.inj h) _ _ hw ls (lv_sub hl [] rfl)
      · have h := of_if h c10
        refine lv_aload_n hx hb dX7_spoilBefore_13 rfl (lv_at hl 0 rfl) ?_
        obtain ⟨b14, eb14, h⟩ := of_onn h
        refine C_get hx hb hts hinX7 hown hK hw (cell_8 hf1) (by omega) rfl 0 (by decide) (index := 12) (by decide +kernel) rfl (v := .ref b14) (congrArg (fun o => some (va_rf o)) eb14) dX7_spoilBefore_14 ?_
        refine lv_iload_n hx hb dX7_spoilBefore_17 rfl (lv_at hl 2 rfl) ?_
        obtain ⟨hf3, h⟩ := of_grd h
        obtain ⟨q18, hq18, h⟩ := of_cal h
        refine C_q hA hw (va_runV (As := [.int l2]) (rest := []) ⟨hx, hb, hml, hown, hts⟩ (cL_get_ok l D cc E n 0 (by decide) S b14 l2 hq18) (cwV 1 hts gX7_spoilBefore_Jx4a65c_get_915e3 rfl rfl rfl (by decide +kernel) ⟨Nat.le_of_ble_eq_true rfl, Nat.le_of_ble_eq_true rfl⟩) ⟨cBlind D cc E S _, C_recv hK hw (by omega) (cell_L (r := 0) (by decide) hf3) (r := (RJx4a65c, TJx4a65c, 3)) rfl, fun U hU hW => ⟨rfl, C_pre hA hK hro hw U hU hW⟩⟩ rfl rfl hl.1 rfl (lv_room (Nat.le_of_ble_eq_true rfl)) dX7_spoilBefore_18 ⟨Nat.le_refl _, Nat.le_refl _⟩) (fun H locs hw => ?_)
        refine W.widen (k := 0) (n := 0) (Nat.le_refl _) (Nat.le_refl _) ?_
        obtain ⟨b21, eb21, h⟩ := of_onn h
        subst eb21
        obtain ⟨hf4, h⟩ := of_grd h
        refine va_castE hx hb hown (hts (.classLink RX7 18 RX2) (by decide +kernel)) (C_recv hK hw (by omega) (cell_3 hf4) (r := (RX2, TX2, 11)) rfl) dX7_spoilBefore_21 ?_
        refine lv_astore_n (lv' := [(3, .ref b21), (0, .ref f0), (1, .int f1), (2, .int l2)]) hx hb dX7_spoilBefore_24 rfl hl (by decide) rfl (fun ls hl => ?_)
        refine lv_aload_n hx hb dX7_spoilBefore_25 rfl (lv_at hl 0 rfl) ?_
        refine C_get hx hb hts hinX2 hown hK hw (cell_3 hf4) (by omega) rfl 3 (by decide) (index := 48) (by decide +kernel) rfl rfl dX7_spoilBefore_26 ?_
        refine lv_topi (fun v26 ev26 => ?_)
        have h := of_bnd h ev26
        refine lv_iload_n hx hb dX7_spoilBefore_29 rfl (lv_at hl 2 rfl) ?_
        refine lv_icmp_ge (tgt := 50) hx hb dX7_spoilBefore_30 (by decide) (fun c30 => ?_) (fun c30 => ?_)
        · have h := of_it h c30
          obtain ⟨x50, ex50⟩ : ∃ y : Int32, y = l2 + 1 := ⟨_, rfl⟩
          have h := of_bnd h ex50
          refine lv_iinc (v := x50) (lv' := [(2, .int x50), (3, .ref b21), (0, .ref f0), (1, .int f1)]) hx hb dX7_spoilBefore_50 hl (k := 3) rfl (by rw [ex50]; rfl) (by decide) rfl (fun ls hl => ?_)
          refine lv_goto (tgt := 2) hx hb dX7_spoilBefore_53 (by decide) ?_
          exact ih2 x50 S _ h _ _ hw ls (lv_sub hl [2, 3, 0] rfl) kx2_0
        · have h := of_if h c30
          refine lv_aload_n hx hb dX7_spoilBefore_33 rfl (lv_at hl 0 rfl) ?_
          refine lv_dup hx hb dX7_spoilBefore_34 rfl ?_
          refine C_get hx hb hts hinX2 hown hK hw (cell_3 hf4) (by omega) rfl 8 (by decide) (index := 55) (by decide +kernel) rfl rfl dX7_spoilBefore_35 ?_
          refine lv_topi (fun v35 ev35 => ?_)
          have h := of_bnd h ev35
          refine lv_aload_n hx hb dX7_spoilBefore_38 rfl (lv_at hl 0 rfl) ?_
          refine lv_aload_n hx hb dX7_spoilBefore_39 rfl (lv_at hl 0 rfl) ?_
          refine C_get hx hb hts hinX2 hown hK hw (cell_3 hf4) (by omega) rfl 5 (by decide) (index := 58) (by decide +kernel) rfl rfl dX7_spoilBefore_40 ?_
          refine lv_topi (fun v40 ev40 => ?_)
          have h := of_bnd h ev40
          obtain ⟨q43, hq43, h⟩ := of_cal h
          obtain ⟨r43, S43⟩ := q43
          have h := of_un2 h
          refine C_i hA hw (va_runV (As := [.int v40]) (rest := [.int v35, .ref b21]) ⟨hx, hb, hml, hown, hts⟩ (cX2_lose_ok l D cc E n S b21 v40 hq43) (cwV 1 hts gX7_spoilBefore_X2_lose rfl rfl rfl (by decide +kernel) ⟨Nat.le_of_ble_eq_true rfl, Nat.le_of_ble_eq_true rfl⟩) ⟨cBlind D cc E S _, C_recv hK hw (by omega) (cell_3 hf4) (r := (RX2, TX2, 11)) rfl, fun U hU hW => ⟨rfl, C_pre hA hK hro hw U hU hW⟩⟩ rfl rfl hl.1 rfl (lv_room (Nat.le_of_ble_eq_true rfl)) dX7_spoilBefore_43 ⟨Nat.le_refl _, Nat.le_refl _⟩) (fun H locs hw => ?_)
          refine W.widen (k := 0) (n := 0) (Nat.le_refl _) (Nat.le_refl _) ?_
          refine lv_iadd hx hb dX7_spoilBefore_46 ?_
          obtain ⟨hf5, h⟩ := of_grd h
          refine C_put hx hb hts hinX2 tyX2 tyX2_ok nmX2 hown hK hw (cell_3 hf5) (by omega) rfl 8 (by decide) (index := 55) (by decide +kernel) rfl rfl (ty := .int) (by decide +kernel) rfl rfl (Nat.le_of_ble_eq_true rfl) (S' := uI S43 68 b21 (v35 + r43)) rfl rfl rfl (pu_68 hf5 (v35 + r43)) (fun b hb => off_uI hb) dX7_spoilBefore_47 (fun S47 H locs eS47 hw => ?_)
          have h := of_bnd h eS47
          obtain ⟨x50, ex50⟩ : ∃ y : Int32, y = l2 + 1 := ⟨_, rfl⟩
          have h := of_bnd h ex50
          refine lv_iinc (v := x50) (lv' := [(2, .int x50), (3, .ref b21), (0, .ref f0), (1, .int f1)]) hx hb dX7_spoilBefore_50 hl (k := 3) rfl (by rw [ex50]; rfl) (by decide) rfl (fun ls hl => ?_)
          refine lv_goto (tgt := 2) hx hb dX7_spoilBefore_53 (by decide) ?_
          exact ih2 x50 S47 _ h _ _ hw ls (lv_sub hl [2, 3, 0] rfl) kx2_0
  obtain ⟨q2, hq2, h⟩ := of_cal h
  refine lp2 a0 a1 n.1 x1 S q2  hq2 _ _ hw ls (lv_sub hl [1, 2, 0] rfl) ?_
  · intro S2 eq H locs hw ls hl
    subst eq
    obtain rfl := Option.some.inj h
    exact C_vret hx hb hr hlocks hw dX7_spoilBefore_56

def fX7_gramsThatMayGo_lp9 (n : Nat × Nat) (S : CS) (f2 : Int32) : Nat → Int32 → Option Nat → Option (Int32)
  | 0, _, _ => none
  | k + 1, l3, l4 =>
    oel l4 (some l3) (fun b11 => grd (cD S b11 = 3) (cal (fX2_mayGo n S b11 f2) (fun q17 => if q17 = 0 then 
          bnd (cR S 69 b11) (fun o33 => fX7_gramsThatMayGo_lp9 n S f2 k l3 o33 )
          else bnd (cI S 65 b11) (fun v26 => bnd (l3 + v26) (fun x30 => bnd (cR S 69 b11) (fun o33 => fX7_gramsThatMayGo_lp9 n S f2 k x30 o33 ))))))
def fX7_gramsThatMayGo (n : Nat × Nat) (S : CS) (a0 : Nat) (a1 : Int32) (a2 : Int32) : Option Int32 :=
  bnd (0 : Int32) (fun x1 => grd (cD S a0 = 8) (cal (fX7_soonestOf n S a0 a1) (fun q4 => cal (fX7_gramsThatMayGo_lp9 n S a2 n.1 x1 q4 ) (fun t3_9 => some t3_9))))
set_option maxHeartbeats 8000000 in
set_option maxRecDepth 100000 in
theorem cX7_gramsThatMayGo_ok (l : Launch) (D : va_G) (cc : Nat → ClassId) (E : Nat → Nat) (n : Nat × Nat) (S : CS) (a0 : Nat) (a1 : Int32) (a2 : Int32) {r : Int32} (h : fX7_gramsThatMayGo n S a0 a1 a2 = some r) : Ci l yX7_gramsThatMayGo wsX7_gramsThatMayGo 3 63 D cc E [.ref a0, .int a1, .int a2] S r S 0 0 := by
  refine C_of (own := RX7) (bb := cX7_gramsThatMayGo) (nL := 5) (ret := (some .int)) (by decide) rfl rfl (Nat.le_of_ble_eq_true rfl) ?_
  intro p e s m args below meth c hx hb hr hlocks hml hts hown hnm hA hK hro hw ls hl
  generalize va_A (cPs cc S) (nx S) = A at hA hro hw ⊢
  unfold fX7_gramsThatMayGo at h
  have hinX2 : ∀ w ∈ wsX20, w ∈ wsX7_gramsThatMayGo := by decide +kernel
  have hl : lv_has ls 5 [(0, .ref a0), (1, .int a1), (2, .int a2)] := hl
  refine lv_iconst (v := 0) hx hb dX7_gramsThatMayGo_0 (by decide) ?_
  refine lv_topi (fun x1 ex1 => ?_)
  have h := of_bnd h ex1
  refine lv_istore_n (lv' := [(3, .int x1), (0, .ref a0), (1, .int a1), (2, .int a2)]) hx hb dX7_gramsThatMayGo_1 rfl hl (by decide) rfl (fun ls hl => ?_)
  refine lv_aload_n hx hb dX7_gramsThatMayGo_2 rfl (lv_at hl 1 rfl) ?_
  refine lv_iload_n hx hb dX7_gramsThatMayGo_3 rfl (lv_at hl 2 rfl) ?_
  obtain ⟨hf1, h⟩ := of_grd h
  obtain ⟨q4, hq4, h⟩ := of_cal h
  refine C_q hA hw (va_runV (As := [.int a1]) (rest := []) ⟨hx, hb, hml, hown, hts⟩ (cX7_soonestOf_ok l D cc E n S a0 a1 hq4) (cwV 1 hts gX7_gramsThatMayGo_X7_soonestOf rfl rfl rfl (by decide +kernel) ⟨Nat.le_of_ble_eq_true rfl, Nat.le_of_ble_eq_true rfl⟩) ⟨cBlind D cc E S _, C_recv hK hw (by omega) (cell_8 hf1) (r := (RX7, TX7, 2)) rfl, fun U hU hW => ⟨rfl, C_pre hA hK hro hw U hU hW⟩⟩ rfl rfl hl.1 rfl (lv_room (Nat.le_of_ble_eq_true rfl)) dX7_gramsThatMayGo_4 ⟨Nat.le_refl _, Nat.le_refl _⟩) (fun H locs hw => ?_)
  refine W.widen (k := 0) (n := 0) (Nat.le_refl _) (Nat.le_refl _) ?_
  refine lv_astoreq (lv' := [(4, va_rf q4), (3, .int x1), (0, .ref a0), (1, .int a1), (2, .int a2)]) hx hb dX7_gramsThatMayGo_7 hl (by decide) rfl (fun ls hl => ?_)
  have lp9 : ∀ (f2 : Int32) (S : CS) (k : Nat) (l3 : Int32) (l4 : Option Nat) (q : Int32) , fX7_gramsThatMayGo_lp9 n S f2 k l3 l4  = some q → ∀ (H : Heap) (locs : List Loc), cWd D cc A s.heap S H locs → ∀ ls : Array Slot, lv_has ls 5 [(2, .int f2), (3, .int l3), (4, va_rf l4)] → (∀ (t3 : Int32), t3 = q → ∀ (H : Heap) (locs : List Loc), cWd D cc A s.heap S H locs → ∀ ls : Array Slot, lv_has ls 5 [(3, .int t3)] → W p l e (cRm 3 63 0 0) s m args below meth c H locs (0) (0) (MQ below (va_Qi (fun x u => x = r ∧ u = S) (cAft D cc A) A) args s 0 0 A) (F0 m 41 ls [])) → W p l e (cRm 3 63 0 0) s m args below meth c H locs (0) (0) (MQ below (va_Qi (fun x u => x = r ∧ u = S) (cAft D cc A) A) args s 0 0 A) (F0 m 9 ls []) := by
    intro f2 S k
    induction k with
    | zero => intro l3 l4 q h; rw [fX7_gramsThatMayGo_lp9] at h; cases h
    | succ k ih9 =>
      intro l3 l4 q h H locs hw ls hl kx9_0
      rw [fX7_gramsThatMayGo_lp9] at h
      refine lv_aloadq hx hb dX7_gramsThatMayGo_9 (lv_at hl 2 rfl) ?_
      rcases l4 with _ | b11
      · have h := of_oelN h
        have hl : lv_has ls 5 [(2, .int f2), (3, .int l3), (4, .null)] := hl
        refine lv_ifnullN (tgt := 41) hx hb dX7_gramsThatMayGo_11 (by decide) ?_
        exact kx9_0 l3 (Option.some.inj h) _ _ hw ls (lv_sub hl [1] rfl)
      · have h := of_oelS h
        have hl : lv_has ls 5 [(2, .int f2), (3, .int l3), (4, .ref b11)] := hl
        refine lv_ifnull hx hb dX7_gramsThatMayGo_11 ?_
        refine lv_aload hx hb dX7_gramsThatMayGo_14 (lv_at hl 2 rfl) ?_
        refine lv_iload_n hx hb dX7_gramsThatMayGo_16 rfl (lv_at hl 0 rfl) ?_
        obtain ⟨hf2, h⟩ := of_grd h
        obtain ⟨q17, hq17, h⟩ := of_cal h
        refine C_i hA hw (va_runV (As := [.int f2]) (rest := []) ⟨hx, hb, hml, hown, hts⟩ (cX2_mayGo_ok l D cc E n S b11 f2 hq17) (cwV 1 hts gX7_gramsThatMayGo_X2_mayGo rfl rfl rfl (by decide +kernel) ⟨Nat.le_of_ble_eq_true rfl, Nat.le_of_ble_eq_true rfl⟩) ⟨cBlind D cc E S _, C_recv hK hw (by omega) (cell_3 hf2) (r := (RX2, TX2, 11)) rfl, fun U hU hW => ⟨rfl, C_pre hA hK hro hw U hU hW⟩⟩ rfl rfl hl.1 rfl (lv_room (Nat.le_of_ble_eq_true rfl)) dX7_gramsThatMayGo_17 ⟨Nat.le_refl _, Nat.le_refl _⟩) (fun H locs hw => ?_)
        refine W.widen (k := 0) (n := 0) (Nat.le_refl _) (Nat.le_refl _) ?_
        refine lv_if_eq (tgt := 31) hx hb dX7_gramsThatMayGo_20 (by decide) (fun c20 => ?_) (fun c20 => ?_)
        · have h := of_it h c20
          refine lv_aload hx hb dX7_gramsThatMayGo_31 (lv_at hl 2 rfl) ?_
          obtain ⟨o33, eo33⟩ : ∃ o, o = cR S 69 b11 := ⟨_, rfl⟩
          have h := of_bnd h eo33
          refine C_get hx hb hts hinX2 hown hK hw (cell_3 hf2) (by omega) rfl 9 (by decide) (index := 51) (by decide +kernel) rfl (v := va_rf o33) (congrArg (fun o => some (va_rf o)) eo33.symm) dX7_gramsThatMayGo_33 ?_
          refine lv_astoreq (lv' := [(4, va_rf o33), (2, .int f2), (3, .int l3)]) hx hb dX7_gramsThatMayGo_36 hl (by decide) rfl (fun ls hl => ?_)
          refine lv_goto (tgt := 9) hx hb dX7_gramsThatMayGo_38 (by decide) ?_
          exact ih9 l3 o33 _ h _ _ hw ls (lv_sub hl [1, 2, 0] rfl) kx9_0
        · have h := of_if h c20
          refine lv_iload_n hx hb dX7_gramsThatMayGo_23 rfl (lv_at hl 1 rfl) ?_
          refine lv_aload hx hb dX7_gramsThatMayGo_24 (lv_at hl 2 rfl) ?_
          refine C_get hx hb hts hinX2 hown hK hw (cell_3 hf2) (by omega) rfl 5 (by decide) (index := 58) (by decide +kernel) rfl rfl dX7_gramsThatMayGo_26 ?_
          refine lv_topi (fun v26 ev26 => ?_)
          have h := of_bnd h ev26
          refine lv_iadd hx hb dX7_gramsThatMayGo_29 ?_
          refine lv_topi (fun x30 ex30 => ?_)
          have h := of_bnd h ex30
          refine lv_istore_n (lv' := [(3, .int x30), (2, .int f2), (4, .ref b11)]) hx hb dX7_gramsThatMayGo_30 rfl hl (by decide) rfl (fun ls hl => ?_)
          refine lv_aload hx hb dX7_gramsThatMayGo_31 (lv_at hl 2 rfl) ?_
          obtain ⟨o33, eo33⟩ : ∃ o, o = cR S 69 b11 := ⟨_, rfl⟩
          have h := of_bnd h eo33
          refine C_get hx hb hts hinX2 hown hK hw (cell_3 hf2) (by omega) rfl 9 (by decide) (index := 51) (by decide +kernel) rfl (v := va_rf o33) (congrArg (fun o => some (va_rf o)) eo33.symm) dX7_gramsThatMayGo_33 ?_
          refine lv_astoreq (lv' := [(4, va_rf o33), (3, .int x30), (2, .int f2)]) hx hb dX7_gramsThatMayGo_36 hl (by decide) rfl (fun ls hl => ?_)
          refine lv_goto (tgt := 9) hx hb dX7_gramsThatMayGo_38 (by decide) ?_
          exact ih9 x30 o33 _ h _ _ hw ls (lv_sub hl [2, 1, 0] rfl) kx9_0
  obtain ⟨q9, hq9, h⟩ := of_cal h
  refine lp9 a2 S n.1 x1 q4 q9  hq9 _ _ hw ls (lv_sub hl [4, 1, 0] rfl) ?_
  · intro t3_9 eq H locs hw ls hl
    subst eq
    refine lv_iload_n hx hb dX7_gramsThatMayGo_41 rfl (lv_at hl 0 rfl) ?_
    obtain rfl := Option.some.inj h
    exact C_iret hx hb hr hlocks hw (by rfl) dX7_gramsThatMayGo_42

def fX7_partOut_lp10 (n : Nat × Nat) (f2 : Int32) : Nat → Int32 → Option Nat → CS → Option (CS)
  | 0, _, _, _ => none
  | k + 1, l4, l5, S =>
    oel l5 (some S) (fun b12 => if l4 ≤ 0 then 
          some S
          else grd (cD S b12 = 3) (cal (fX2_mayGo n S b12 f2) (fun q23 => if q23 = 0 then 
            bnd (cR S 69 b12) (fun o59 => fX7_partOut_lp10 n f2 k l4 o59 S)
            else cal (fX2_lose n S b12 l4) (un2 fun r33 S33 => grd (cD S33 b12 = 3) (bnd (cI S33 67 b12) (fun v41 => bnd (uI S33 67 b12 (v41 + r33)) (fun S47 => bnd (l4 - r33) (fun x55 => bnd (cR S47 69 b12) (fun o59 => fX7_partOut_lp10 n f2 k x55 o59 S47)))))))))
def fX7_partOut (n : Nat × Nat) (S : CS) (a0 : Nat) (a1 : Int32) (a2 : Int32) (a3 : Int32) : Option (CS) :=
  grd (cD S a0 = 8) (cal (fX7_soonestOf n S a0 a1) (fun q5 => cal (fX7_partOut_lp10 n a2 n.1 a3 q5 S) (fun S10 => some S10)))
set_option maxHeartbeats 8000000 in
set_option maxRecDepth 100000 in
theorem cX7_partOut_ok (l : Launch) (D : va_G) (cc : Nat → ClassId) (E : Nat → Nat) (n : Nat × Nat) (S : CS) (a0 : Nat) (a1 : Int32) (a2 : Int32) (a3 : Int32) {T : CS} (h : fX7_partOut n S a0 a1 a2 a3 = some T) : Cv l yX7_partOut wsX7_partOut 3 63 D cc E [.ref a0, .int a1, .int a2, .int a3] S T 0 0 := by
  refine C_of (own := RX7) (bb := cX7_partOut) (nL := 7) (ret := none) (by decide) rfl rfl (Nat.le_of_ble_eq_true rfl) ?_
  intro p e s m args below meth c hx hb hr hlocks hml hts hown hnm hA hK hro hw ls hl
  generalize va_A (cPs cc S) (nx S) = A at hA hro hw ⊢
  unfold fX7_partOut at h
  have hinX2 : ∀ w ∈ wsX20, w ∈ wsX7_partOut := by decide +kernel
  have hl : lv_has ls 7 [(0, .ref a0), (1, .int a1), (2, .int a2), (3, .int a3)] := hl
  refine lv_iload_n hx hb dX7_partOut_0 rfl (lv_at hl 3 rfl) ?_
  refine lv_istore (lv' := [(4, .int a3), (0, .ref a0), (1, .int a1), (2, .int a2), (3, .int a3)]) hx hb dX7_partOut_1 hl (by decide) rfl (fun ls hl => ?_)
  refine lv_aload_n hx hb dX7_partOut_3 rfl (lv_at hl 1 rfl) ?_
  refine lv_iload_n hx hb dX7_partOut_4 rfl (lv_at hl 2 rfl) ?_
  obtain ⟨hf1, h⟩ := of_grd h
  obtain ⟨q5, hq5, h⟩ := of_cal h
  refine C_q hA hw (va_runV (As := [.int a1]) (rest := []) ⟨hx, hb, hml, hown, hts⟩ (cX7_soonestOf_ok l D cc E n S a0 a1 hq5) (cwV 1 hts gX7_partOut_X7_soonestOf rfl rfl rfl (by decide +kernel) ⟨Nat.le_of_ble_eq_true rfl, Nat.le_of_ble_eq_true rfl⟩) ⟨cBlind D cc E S _, C_recv hK hw (by omega) (cell_8 hf1) (r := (RX7, TX7, 2)) rfl, fun U hU hW => ⟨rfl, C_pre hA hK hro hw U hU hW⟩⟩ rfl rfl hl.1 rfl (lv_room (Nat.le_of_ble_eq_true rfl)) dX7_partOut_5 ⟨Nat.le_refl _, Nat.le_refl _⟩) (fun H locs hw => ?_)
  refine W.widen (k := 0) (n := 0) (Nat.le_refl _) (Nat.le_refl _) ?_
  refine lv_astoreq (lv' := [(5, va_rf q5), (4, .int a3), (0, .ref a0), (1, .int a1), (2, .int a2), (3, .int a3)]) hx hb dX7_partOut_8 hl (by decide) rfl (fun ls hl => ?_)
  have lp10 : ∀ (f2 : Int32) (k : Nat) (l4 : Int32) (l5 : Option Nat) (S : CS) (q : CS) , fX7_partOut_lp10 n f2 k l4 l5 S = some q → ∀ (H : Heap) (locs : List Loc), cWd D cc A s.heap S H locs → ∀ ls : Array Slot, lv_has ls 7 [(2, .int f2), (4, .int l4), (5, va_rf l5)] → (∀  (S1 : CS), S1 = q → ∀ (H : Heap) (locs : List Loc), cWd D cc A s.heap S1 H locs → ∀ ls : Array Slot, lv_has ls 7 [] → W p l e (cRm 3 63 0 0) s m args below meth c H locs (0) (0) (MQ below (va_Qv (fun u => u = T) (cAft D cc A) A) args s 0 0 A) (F0 m 67 ls [])) → W p l e (cRm 3 63 0 0) s m args below meth c H locs (0) (0) (MQ below (va_Qv (fun u => u = T) (cAft D cc A) A) args s 0 0 A) (F0 m 10 ls []) := by
    intro f2 k
    induction k with
    | zero => intro l4 l5 S q h; rw [fX7_partOut_lp10] at h; cases h
    | succ k ih10 =>
      intro l4 l5 S q h H locs hw ls hl kx10_0
      rw [fX7_partOut_lp10] at h
      refine lv_aloadq hx hb dX7_partOut_10 (lv_at hl 2 rfl) ?_
      rcases l5 with _ | b12
      · have h := of_oelN h
        have hl : lv_has ls 7 [(2, .int f2), (4, .int l4), (5, .null)] := hl
        refine lv_ifnullN (tgt := 67) hx hb dX7_partOut_12 (by decide) ?_
        exact kx10_0 S (Option.some.inj h) _ _ hw ls (lv_sub hl [] rfl)
      · have h := of_oelS h
        have hl : lv_has ls 7 [(2, .int f2), (4, .int l4), (5, .ref b12)] := hl
        refine lv_ifnull hx hb dX7_partOut_12 ?_
        refine lv_iload hx hb dX7_partOut_15 (lv_at hl 1 rfl) ?_
        refine lv_if_le (tgt := 67) hx hb dX7_partOut_17 (by decide) (fun c17 => ?_) (fun c17 => ?_)
        · have h := of_it h c17
          exact kx10_0 S (Option.some.inj h) _ _ hw ls (lv_sub hl [] rfl)
        · have h := of_if h c17
          refine lv_aload hx hb dX7_partOut_20 (lv_at hl 2 rfl) ?_
          refine lv_iload_n hx hb dX7_partOut_22 rfl (lv_at hl 0 rfl) ?_
          obtain ⟨hf2, h⟩ := of_grd h
          obtain ⟨q23, hq23, h⟩ := of_cal h
          refine C_i hA hw (va_runV (As := [.int f2]) (rest := []) ⟨hx, hb, hml, hown, hts⟩ (cX2_mayGo_ok l D cc E n S b12 f2 hq23) (cwV 1 hts gX7_partOut_X2_mayGo rfl rfl rfl (by decide +kernel) ⟨Nat.le_of_ble_eq_true rfl, Nat.le_of_ble_eq_true rfl⟩) ⟨cBlind D cc E S _, C_recv hK hw (by omega) (cell_3 hf2) (r := (RX2, TX2, 11)) rfl, fun U hU hW => ⟨rfl, C_pre hA hK hro hw U hU hW⟩⟩ rfl rfl hl.1 rfl (lv_room (Nat.le_of_ble_eq_true rfl)) dX7_partOut_23 ⟨Nat.le_refl _, Nat.le_refl _⟩) (fun H locs hw => ?_)
          refine W.widen (k := 0) (n := 0) (Nat.le_refl _) (Nat.le_refl _) ?_
          refine lv_if_eq (tgt := 57) hx hb dX7_partOut_26 (by decide) (fun c26 => ?_) (fun c26 => ?_)
          · have h := of_it h c26
            refine lv_aload hx hb dX7_partOut_57 (lv_at hl 2 rfl) ?_
            obtain ⟨o59, eo59⟩ : ∃ o, o = cR S 69 b12 := ⟨_, rfl⟩
            have h := of_bnd h eo59
            refine C_get hx hb hts hinX2 hown hK hw (cell_3 hf2) (by omega) rfl 9 (by decide) (index := 51) (by decide +kernel) rfl (v := va_rf o59) (congrArg (fun o => some (va_rf o)) eo59.symm) dX7_partOut_59 ?_
            refine lv_astoreq (lv' := [(5, va_rf o59), (2, .int f2), (4, .int l4)]) hx hb dX7_partOut_62 hl (by decide) rfl (fun ls hl => ?_)
            refine lv_goto (tgt := 10) hx hb dX7_partOut_64 (by decide) ?_
            exact ih10 l4 o59 S _ h _ _ hw ls (lv_sub hl [1, 2, 0] rfl) kx10_0
          · have h := of_if h c26
            refine lv_aload hx hb dX7_partOut_29 (lv_at hl 2 rfl) ?_
            refine lv_iload hx hb dX7_partOut_31 (lv_at hl 1 rfl) ?_
            obtain ⟨q33, hq33, h⟩ := of_cal h
            obtain ⟨r33, S33⟩ := q33
            have h := of_un2 h
            refine C_i hA hw (va_runV (As := [.int l4]) (rest := []) ⟨hx, hb, hml, hown, hts⟩ (cX2_lose_ok l D cc E n S b12 l4 hq33) (cwV 1 hts gX7_partOut_X2_lose rfl rfl rfl (by decide +kernel) ⟨Nat.le_of_ble_eq_true rfl, Nat.le_of_ble_eq_true rfl⟩) ⟨cBlind D cc E S _, C_recv hK hw (by omega) (cell_3 hf2) (r := (RX2, TX2, 11)) rfl, fun U hU hW => ⟨rfl, C_pre hA hK hro hw U hU hW⟩⟩ rfl rfl hl.1 rfl (lv_room (Nat.le_of_ble_eq_true rfl)) dX7_partOut_33 ⟨Nat.le_refl _, Nat.le_refl _⟩) (fun H locs hw => ?_)
            refine W.widen (k := 0) (n := 0) (Nat.le_refl _) (Nat.le_refl _) ?_
            refine lv_istore (lv' := [(6, .int r33), (2, .int f2), (4, .int l4), (5, .ref b12)]) hx hb dX7_partOut_36 hl (by decide) rfl (fun ls hl => ?_)
            refine lv_aload hx hb dX7_partOut_38 (lv_at hl 3 rfl) ?_
            refine lv_dup hx hb dX7_partOut_40 rfl ?_
            obtain ⟨hf3, h⟩ := of_grd h
            refine C_get hx hb hts hinX2 hown hK hw (cell_3 hf3) (by omega) rfl 7 (by decide) (index := 72) (by decide +kernel) rfl rfl dX7_partOut_41 ?_
            refine lv_topi (fun v41 ev41 => ?_)
            have h := of_bnd h ev41
            refine lv_iload hx hb dX7_partOut_44 (lv_at hl 0 rfl) ?_
            refine lv_iadd hx hb dX7_partOut_46 ?_
            refine C_put hx hb hts hinX2 tyX2 tyX2_ok nmX2 hown hK hw (cell_3 hf3) (by omega) rfl 7 (by decide) (index := 72) (by decide +kernel) rfl rfl (ty := .int) (by decide +kernel) rfl rfl (Nat.le_of_ble_eq_true rfl) (S' := uI S33 67 b12 (v41 + r33)) rfl rfl rfl (pu_67 hf3 (v41 + r33)) (fun b hb => off_uI hb) dX7_partOut_47 (fun S47 H locs eS47 hw => ?_)
            have h := of_bnd h eS47
            refine lv_iload hx hb dX7_partOut_50 (lv_at hl 2 rfl) ?_
            refine lv_iload hx hb dX7_partOut_52 (lv_at hl 0 rfl) ?_
            refine lv_isub hx hb dX7_partOut_54 ?_
            refine lv_topi (fun x55 ex55 => ?_)
            have h := of_bnd h ex55
            refine lv_istore (lv' := [(4, .int x55), (6, .int r33), (2, .int f2), (5, .ref b12)]) hx hb dX7_partOut_55 hl (by decide) rfl (fun ls hl => ?_)
            refine lv_aload hx hb dX7_partOut_57 (lv_at hl 3 rfl) ?_
            have hf4 : cD S47 b12 = 3 := by rw [eS47]; exact hf3
            obtain ⟨o59, eo59⟩ : ∃ o, o = cR S47 69 b12 := ⟨_, rfl⟩
            have h := of_bnd h eo59
            refine C_get hx hb hts hinX2 hown hK hw (cell_3 hf4) (by omega) rfl 9 (by decide) (index := 51) (by decide +kernel) rfl (v := va_rf o59) (congrArg (fun o => some (va_rf o)) eo59.symm) dX7_partOut_59 ?_
            refine lv_astoreq (lv' := [(5, va_rf o59), (4, .int x55), (6, .int r33), (2, .int f2)]) hx hb dX7_partOut_62 hl (by decide) rfl (fun ls hl => ?_)
            refine lv_goto (tgt := 10) hx hb dX7_partOut_64 (by decide) ?_
            exact ih10 x55 o59 S47 _ h _ _ hw ls (lv_sub hl [3, 1, 0] rfl) kx10_0
  obtain ⟨q10, hq10, h⟩ := of_cal h
  refine lp10 a2 n.1 a3 q5 S q10  hq10 _ _ hw ls (lv_sub hl [4, 1, 0] rfl) ?_
  · intro S10 eq H locs hw ls hl
    subst eq
    obtain rfl := Option.some.inj h
    exact C_vret hx hb hr hlocks hw dX7_partOut_67

def fX7_handOut_lp10 (n : Nat × Nat) (f2 : Int32) (f4 : Nat) (f5 : Nat) : Nat → Int32 → Option Nat → CS → Option ((Int32 × CS) × Nat × Nat)
  | 0, _, _, _ => none
  | k + 1, l6, l7, S =>
    oel l7 (some ((l6, S), 0, 0)) (fun b12 => if l6 ≤ 0 then 
          some ((l6, S), 0, 0)
          else grd (cD S b12 = 3) (cal (fX2_mayGo n S b12 f2) (fun q23 => if q23 = 0 then 
            bnd (cR S 69 b12) (fun o83 => fX7_handOut_lp10 n f2 f4 f5 k l6 o83 S)
            else cal (fX2_lose n S b12 l6) (un2 fun r33 S33 => grd (cD S33 b12 = 3) (bnd (cI S33 66 b12) (fun v41 => bnd (uI S33 66 b12 (v41 + r33)) (fun S47 => bnd (l6 - r33) (fun x55 => bnd (cI S47 60 b12) (fun v61 => grd (cD S47 f4 = 4) (cal (fX3_addLine n S47 f4 v61 r33) (un2 fun S66 u66 => un2 (fun c1_66 c2_66 => adc c1_66 c2_66 (grd (cD S66 b12 = 3) (bnd (cI S66 64 b12) (fun v73 => grd (cD S66 f5 = 1) (cal (fX0_noteHad n S66 f5 v73 r33) (fun S78 => grd (cD S78 b12 = 3) (bnd (cR S78 69 b12) (fun o83 => fX7_handOut_lp10 n f2 f4 f5 k x55 o83 S78)))))))) u66)))))))))))
def fX7_handOut (n : Nat × Nat) (S : CS) (a0 : Nat) (a1 : Int32) (a2 : Int32) (a3 : Int32) (a4 : Nat) (a5 : Nat) : Option ((Int32 × CS) × Nat × Nat) :=
  grd (cD S a0 = 8) (cal (fX7_soonestOf n S a0 a1) (fun q5 => cal (fX7_handOut_lp10 n a2 a4 a5 n.1 a3 q5 S) (un2 fun q10 u10 => un2 (fun c1_10 c2_10 => adc c1_10 c2_10 ((un2 fun t6_10 S10 => some (((a3 - t6_10), S10), 0, 0)) q10)) u10)))
set_option maxHeartbeats 8000000 in
set_option maxRecDepth 100000 in
theorem cX7_handOut_ok (l : Launch) (D : va_G) (cc : Nat → ClassId) (E : Nat → Nat) (n : Nat × Nat) (hE : E 0 = n.2) (S : CS) (a0 : Nat) (a1 : Int32) (a2 : Int32) (a3 : Int32) (a4 : Nat) (a5 : Nat) {r : Int32} {T : CS} {mc ms : Nat} (h : fX7_handOut n S a0 a1 a2 a3 a4 a5 = some ((r, T), mc, ms)) : Ci l yX7_handOut wsX7_handOut 8 213 D cc E [.ref a0, .int a1, .int a2, .int a3, .ref a4, .ref a5] S r T mc ms := by
  refine C_of (own := RX7) (bb := cX7_handOut) (nL := 9) (ret := (some .int)) (by decide) rfl rfl (Nat.le_of_ble_eq_true rfl) ?_
  intro p e s m args below meth c hx hb hr hlocks hml hts hown hnm hA hK hro hw ls hl
  generalize va_A (cPs cc S) (nx S) = A at hA hro hw ⊢
  unfold fX7_handOut at h
  have hinX2 : ∀ w ∈ wsX20, w ∈ wsX7_handOut := by decide +kernel
  have hl : lv_has ls 9 [(0, .ref a0), (1, .int a1), (2, .int a2), (3, .int a3), (4, .ref a4), (5, .ref a5)] := hl
  refine W.widen (k := mc - mc) (n := ms - ms) (by omega) (by omega) ?_
  have hk1 : mc ≤ mc := Nat.le_refl _
  have hk2 : ms ≤ ms := Nat.le_refl _
  refine lv_iload_n hx hb dX7_handOut_0 rfl (lv_at hl 3 rfl) ?_
  refine lv_istore (lv' := [(6, .int a3), (0, .ref a0), (1, .int a1), (2, .int a2), (3, .int a3), (4, .ref a4), (5, .ref a5)]) hx hb dX7_handOut_1 hl (by decide) rfl (fun ls hl => ?_)
  refine lv_aload_n hx hb dX7_handOut_3 rfl (lv_at hl 1 rfl) ?_
  refine lv_iload_n hx hb dX7_handOut_4 rfl (lv_at hl 2 rfl) ?_
  obtain ⟨hf1, h⟩ := of_grd h
  obtain ⟨q5, hq5, h⟩ := of_cal h
  refine C_q hA hw (va_runV (As := [.int a1]) (rest := []) ⟨hx, hb, hml, hown, hts⟩ (cX7_soonestOf_ok l D cc E n S a0 a1 hq5) (cwV 1 hts gX7_handOut_X7_soonestOf rfl rfl rfl (by decide +kernel) ⟨Nat.le_of_ble_eq_true rfl, Nat.le_of_ble_eq_true rfl⟩) ⟨cBlind D cc E S _, C_recv hK hw (by omega) (cell_8 hf1) (r := (RX7, TX7, 2)) rfl, fun U hU hW => ⟨rfl, C_pre hA hK hro hw U hU hW⟩⟩ rfl rfl hl.1 rfl (lv_room (Nat.le_of_ble_eq_true rfl)) dX7_handOut_5 ⟨by show _ ≤ mc; omega, by show _ ≤ ms; omega⟩) (fun H locs hw => ?_)
  refine W.widen (k := mc - mc) (n := ms - ms) (Nat.le_refl _) (Nat.le_refl _) ?_
  refine lv_astoreq (lv' := [(7, va_rf q5), (6, .int a3), (0, .ref a0), (1, .int a1), (2, .int a2), (3, .int a3), (4, .ref a4), (5, .ref a5)]) hx hb dX7_handOut_8 hl (by decide) rfl (fun ls hl => ?_)
  have lp10 : ∀ (f2 : Int32) (f3 : Int32) (f4 : Nat) (f5 : Nat) (k : Nat) (l6 : Int32) (l7 : Option Nat) (S : CS) (q : Int32 × CS) (c1 c2 : Nat) (g1 g2 : Nat), fX7_handOut_lp10 n f2 f4 f5 k l6 l7 S = some (q, c1, c2) → c1 + g1 ≤ mc → c2 + g2 ≤ ms → ∀ (H : Heap) (locs : List Loc), cWd D cc A s.heap S H locs → ∀ ls : Array Slot, lv_has ls 9 [(2, .int f2), (3, .int f3), (4, .ref f4), (5, .ref f5), (6, .int l6), (7, va_rf l7)] → (∀ (t6 : Int32) (S1 : CS), (t6, S1) = q → ∀ (H : Heap) (locs : List Loc), cWd D cc A s.heap S1 H locs → ∀ ls : Array Slot, lv_has ls 9 [(3, .int f3), (6, .int t6)] → W p l e (cRm 8 213 mc ms) s m args below meth c H locs (mc - g1) (ms - g2) (MQ below (va_Qi (fun x u => x = r ∧ u = T) (cAft D cc A) A) args s mc ms A) (F0 m 91 ls [])) → W p l e (cRm 8 213 mc ms) s m args below meth c H locs (mc - (c1 + g1)) (ms - (c2 + g2)) (MQ below (va_Qi (fun x u => x = r ∧ u = T) (cAft D cc A) A) args s mc ms A) (F0 m 10 ls []) := by
    intro f2 f3 f4 f5 k
    induction k with
    | zero => intro l6 l7 S q c1 c2 g1 g2 h; rw [fX7_handOut_lp10] at h; cases h
    | succ k ih10 =>
      intro l6 l7 S q c1 c2 g1 g2 h hk1 hk2 H locs hw ls hl kx10_0
      rw [fX7_handOut_lp10] at h
      refine lv_aloadq hx hb dX7_handOut_10 (lv_at hl 5 rfl) ?_
      rcases l7 with _ | b12
      · have h := of_oelN h
        have hl : lv_has ls 9 [(2, .int f2), (3, .int f3), (4, .ref f4), (5, .ref f5), (6, .int l6), (7, .null)] := hl
        refine lv_ifnullN (tgt := 91) hx hb dX7_handOut_12 (by decide) ?_
        obtain ⟨eq9, ek1, ek2⟩ := of_ret3 h
        refine W.widen (k := mc - g1) (n := ms - g2) (by omega) (by omega) ?_
        exact kx10_0 l6 S eq9.symm _ _ hw ls (lv_sub hl [1, 4] rfl)
      · have h := of_oelS h
        have hl : lv_has ls 9 [(2, .int f2), (3, .int f3), (4, .ref f4), (5, .ref f5), (6, .int l6), (7, .ref b12)] := hl
        refine lv_ifnull hx hb dX7_handOut_12 ?_
        refine lv_iload hx hb dX7_handOut_15 (lv_at hl 4 rfl) ?_
        refine lv_if_le (tgt := 91) hx hb dX7_handOut_17 (by decide) (fun c17 => ?_) (fun c17 => ?_)
        · have h := of_it h c17
          obtain ⟨eq9, ek1, ek2⟩ := of_ret3 h
          refine W.widen (k := mc - g1) (n := ms - g2) (by omega) (by omega) ?_
          exact kx10_0 l6 S eq9.symm _ _ hw ls (lv_sub hl [1, 4] rfl)
        · have h := of_if h c17
          refine lv_aload hx hb dX7_handOut_20 (lv_at hl 5 rfl) ?_
          refine lv_iload_n hx hb dX7_handOut_22 rfl (lv_at hl 0 rfl) ?_
          obtain ⟨hf2, h⟩ := of_grd h
          obtain ⟨q23, hq23, h⟩ := of_cal h
          refine C_i hA hw (va_runV (As := [.int f2]) (rest := []) ⟨hx, hb, hml, hown, hts⟩ (cX2_mayGo_ok l D cc E n S b12 f2 hq23) (cwV 1 hts gX7_handOut_X2_mayGo rfl rfl rfl (by decide +kernel) ⟨Nat.le_of_ble_eq_true rfl, Nat.le_of_ble_eq_true rfl⟩) ⟨cBlind D cc E S _, C_recv hK hw (by omega) (cell_3 hf2) (r := (RX2, TX2, 11)) rfl, fun U hU hW => ⟨rfl, C_pre hA hK hro hw U hU hW⟩⟩ rfl rfl hl.1 rfl (lv_room (Nat.le_of_ble_eq_true rfl)) dX7_handOut_23 ⟨by show _ ≤ mc; omega, by show _ ≤ ms; omega⟩) (fun H locs hw => ?_)
          refine W.widen (k := mc - (c1 + g1)) (n := ms - (c2 + g2)) (Nat.le_refl _) (Nat.le_refl _) ?_
          refine lv_if_eq (tgt := 81) hx hb dX7_handOut_26 (by decide) (fun c26 => ?_) (fun c26 => ?_)
          · have h := of_it h c26
            refine lv_aload hx hb dX7_handOut_81 (lv_at hl 5 rfl) ?_
            obtain ⟨o83, eo83⟩ : ∃ o, o = cR S 69 b12 := ⟨_, rfl⟩
            have h := of_bnd h eo83
            refine C_get hx hb hts hinX2 hown hK hw (cell_3 hf2) (by omega) rfl 9 (by decide) (index := 51) (by decide +kernel) rfl (v := va_rf o83) (congrArg (fun o => some (va_rf o)) eo83.symm) dX7_handOut_83 ?_
            refine lv_astoreq (lv' := [(7, va_rf o83), (2, .int f2), (3, .int f3), (4, .ref f4), (5, .ref f5), (6, .int l6)]) hx hb dX7_handOut_86 hl (by decide) rfl (fun ls hl => ?_)
            refine lv_goto (tgt := 10) hx hb dX7_handOut_88 (by decide) ?_
            exact ih10 l6 o83 S _ _ _ _ _ h (by omega) (by omega) _ _ hw ls (lv_sub hl [1, 2, 3, 4, 5, 0] rfl) kx10_0
          · have h := of_if h c26
            refine lv_aload hx hb dX7_handOut_29 (lv_at hl 5 rfl) ?_
            refine lv_iload hx hb dX7_handOut_31 (lv_at hl 4 rfl) ?_
            obtain ⟨q33, hq33, h⟩ := of_cal h
            obtain ⟨r33, S33⟩ := q33
            have h := of_un2 h
            refine C_i hA hw (va_runV (As := [.int l6]) (rest := []) ⟨hx, hb, hml, hown, hts⟩ (cX2_lose_ok l D cc E n S b12 l6 hq33) (cwV 1 hts gX7_handOut_X2_lose rfl rfl rfl (by decide +kernel) ⟨Nat.le_of_ble_eq_true rfl, Nat.le_of_ble_eq_true rfl⟩) ⟨cBlind D cc E S _, C_recv hK hw (by omega) (cell_3 hf2) (r := (RX2, TX2, 11)) rfl, fun U hU hW => ⟨rfl, C_pre hA hK hro hw U hU hW⟩⟩ rfl rfl hl.1 rfl (lv_room (Nat.le_of_ble_eq_true rfl)) dX7_handOut_33 ⟨by show _ ≤ mc; omega, by show _ ≤ ms; omega⟩) (fun H locs hw => ?_)
            refine W.widen (k := mc - (c1 + g1)) (n := ms - (c2 + g2)) (Nat.le_refl _) (Nat.le_refl _) ?_
            refine lv_istore (lv' := [(8, .int r33), (2, .int f2), (3, .int f3), (4, .ref f4), (5, .ref f5), (6, .int l6), (7, .ref b12)]) hx hb dX7_handOut_36 hl (by decide) rfl (fun ls hl => ?_)
            refine lv_aload hx hb dX7_handOut_38 (lv_at hl 6 rfl) ?_
            refine lv_dup hx hb dX7_handOut_40 rfl ?_
            obtain ⟨hf3, h⟩ := of_grd h
            refine C_get hx hb hts hinX2 hown hK hw (cell_3 hf3) (by omega) rfl 6 (by decide) (index := 75) (by decide +kernel) rfl rfl dX7_handOut_41 ?_
            refine lv_topi (fun v41 ev41 => ?_)
            have h := of_bnd h ev41
            refine lv_iload hx hb dX7_handOut_44 (lv_at hl 0 rfl) ?_
            refine lv_iadd hx hb dX7_handOut_46 ?_
            refine C_put hx hb hts hinX2 tyX2 tyX2_ok nmX2 hown hK hw (cell_3 hf3) (by omega) rfl 6 (by decide) (index := 75) (by decide +kernel) rfl rfl (ty := .int) (by decide +kernel) rfl rfl (Nat.le_of_ble_eq_true rfl) (S' := uI S33 66 b12 (v41 + r33)) rfl rfl rfl (pu_66 hf3 (v41 + r33)) (fun b hb => off_uI hb) dX7_handOut_47 (fun S47 H locs eS47 hw => ?_)
            have h := of_bnd h eS47
            refine lv_iload hx hb dX7_handOut_50 (lv_at hl 5 rfl) ?_
            refine lv_iload hx hb dX7_handOut_52 (lv_at hl 0 rfl) ?_
            refine lv_isub hx hb dX7_handOut_54 ?_
            refine lv_topi (fun x55 ex55 => ?_)
            have h := of_bnd h ex55
            refine lv_istore (lv' := [(6, .int x55), (8, .int r33), (2, .int f2), (3, .int f3), (4, .ref f4), (5, .ref f5), (7, .ref b12)]) hx hb dX7_handOut_55 hl (by decide) rfl (fun ls hl => ?_)
            refine lv_aload hx hb dX7_handOut_57 (lv_at hl 4 rfl) ?_
            refine lv_aload hx hb dX7_handOut_59 (lv_at hl 6 rfl) ?_
            have hf4 : cD S47 b12 = 3 := by rw [eS47]; exact hf3
            refine C_get hx hb hts hinX2 hown hK hw (cell_3 hf4) (by omega) rfl 0 (by decide) (index := 78) (by decide +kernel) rfl rfl dX7_handOut_61 ?_
            refine lv_topi (fun v61 ev61 => ?_)
            have h := of_bnd h ev61
            refine lv_iload hx hb dX7_handOut_64 (lv_at hl 1 rfl) ?_
            obtain ⟨hf5, h⟩ := of_grd h
            obtain ⟨q66, hq66, h⟩ := of_cal h
            obtain ⟨S66, c1_66, c2_66⟩ := q66
            have h := of_un2 h
            have h := of_un2 h
            obtain ⟨kc6, ks6, h, ek1, ek2⟩ := of_adc h
            refine C_v hA hw (va_runV (As := [.int v61, .int r33]) (rest := []) ⟨hx, hb, hml, hown, hts⟩ (cX3_addLine_ok l D cc E n hE S47 f4 v61 r33 hq66) (cwV 2 hts gX7_handOut_X3_addLine rfl rfl rfl (by decide +kernel) ⟨Nat.le_of_ble_eq_true rfl, Nat.le_of_ble_eq_true rfl⟩) ⟨cBlind D cc E S47 _, C_recv hK hw (by omega) (cell_4 hf5) (r := (RX3, TX3, 5)) rfl, fun U hU hW => ⟨rfl, C_pre hA hK hro hw U hU hW⟩⟩ rfl rfl hl.1 rfl (lv_room (Nat.le_of_ble_eq_true rfl)) dX7_handOut_66 ⟨by show _ ≤ mc; omega, by show _ ≤ ms; omega⟩) (fun H locs hw => ?_)
            refine W.widen (k := mc - (kc6 + g1)) (n := ms - (ks6 + g2)) (by omega) (by omega) ?_
            have hk1 : (kc6 + g1) ≤ mc := by omega
            have hk2 : (ks6 + g2) ≤ ms := by omega
            refine lv_aload hx hb dX7_handOut_69 (lv_at hl 5 rfl) ?_
            refine lv_aload hx hb dX7_handOut_71 (lv_at hl 6 rfl) ?_
            obtain ⟨hf7, h⟩ := of_grd h
            refine C_get hx hb hts hinX2 hown hK hw (cell_3 hf7) (by omega) rfl 4 (by decide) (index := 87) (by decide +kernel) rfl rfl dX7_handOut_73 ?_
            refine lv_topi (fun v73 ev73 => ?_)
            have h := of_bnd h ev73
            refine lv_iload hx hb dX7_handOut_76 (lv_at hl 1 rfl) ?_
            obtain ⟨hf8, h⟩ := of_grd h
            obtain ⟨q78, hq78, h⟩ := of_cal h
            obtain ⟨S78, eS78⟩ : ∃ x, x = q78 := ⟨_, rfl⟩
            subst eS78
            refine C_v hA hw (va_runV (As := [.int v73, .int r33]) (rest := []) ⟨hx, hb, hml, hown, hts⟩ (cX0_noteHad_ok l D cc E n S66 f5 v73 r33 hq78) (cwV 2 hts gX7_handOut_X0_noteHad rfl rfl rfl (by decide +kernel) ⟨Nat.le_of_ble_eq_true rfl, Nat.le_of_ble_eq_true rfl⟩) ⟨cBlind D cc E S66 _, C_recv hK hw (by omega) (cell_1 hf8) (r := (RX0, TX0, 4)) rfl, fun U hU hW => ⟨rfl, C_pre hA hK hro hw U hU hW⟩⟩ rfl rfl hl.1 rfl (lv_room (Nat.le_of_ble_eq_true rfl)) dX7_handOut_78 ⟨by show _ ≤ mc; omega, by show _ ≤ ms; omega⟩) (fun H locs hw => ?_)
            refine W.widen (k := mc - (kc6 + g1)) (n := ms - (ks6 + g2)) (Nat.le_refl _) (Nat.le_refl _) ?_
            refine lv_aload hx hb dX7_handOut_81 (lv_at hl 6 rfl) ?_
            obtain ⟨hf9, h⟩ := of_grd h
            obtain ⟨o83, eo83⟩ : ∃ o, o = cR S78 69 b12 := ⟨_, rfl⟩
            have h := of_bnd h eo83
            refine C_get hx hb hts hinX2 hown hK hw (cell_3 hf9) (by omega) rfl 9 (by decide) (index := 51) (by decide +kernel) rfl (v := va_rf o83) (congrArg (fun o => some (va_rf o)) eo83.symm) dX7_handOut_83 ?_
            refine lv_astoreq (lv' := [(7, va_rf o83), (6, .int x55), (8, .int r33), (2, .int f2), (3, .int f3), (4, .ref f4), (5, .ref f5)]) hx hb dX7_handOut_86 hl (by decide) rfl (fun ls hl => ?_)
            refine lv_goto (tgt := 10) hx hb dX7_handOut_88 (by decide) ?_
            exact ih10 x55 o83 S78 _ _ _ _ _ h (by omega) (by omega) _ _ hw ls (lv_sub hl [3, 4, 5, 6, 1, 0] rfl) kx10_0
  obtain ⟨q10, hq10, h⟩ := of_cal h
  obtain ⟨q10, c1_10, c2_10⟩ := q10
  have h := of_un2 h
  have h := of_un2 h
  obtain ⟨kc10, ks10, h, ek1, ek2⟩ := of_adc h
  refine W.widen (k := mc - (c1_10 + kc10)) (n := ms - (c2_10 + ks10)) (by omega) (by omega) ?_
  refine lp10 a2 a3 a4 a5 n.1 a3 q5 S q10 c1_10 c2_10 kc10 ks10 hq10 (by omega) (by omega) _ _ hw ls (lv_sub hl [4, 5, 6, 7, 1, 0] rfl) ?_
  · intro t6_10 S10 eq H locs hw ls hl
    subst eq
    have h := of_un2 h
    have hk1 : kc10 ≤ mc := by omega
    have hk2 : ks10 ≤ ms := by omega
    refine lv_iload_n hx hb dX7_handOut_91 rfl (lv_at hl 0 rfl) ?_
    refine lv_iload hx hb dX7_handOut_92 (lv_at hl 1 rfl) ?_
    refine lv_isub hx hb dX7_handOut_94 ?_
    obtain ⟨rfl, rfl, ek1, ek2⟩ := of_retA h
    refine W.widen (k := mc) (n := ms) (by omega) (by omega) ?_
    exact C_iret hx hb hr hlocks hw (by rfl) dX7_handOut_95

def fX7_givenBy_lp5 (n : Nat × Nat) (S : CS) (f0 : Nat) (f1 : Int32) (f2 : Int32) : Nat → Int64 → Int32 → Option (Int64)
  | 0, _, _ => none
  | k + 1, l3, l5 =>
    grd (cD S f0 = 8) (onn (cR S 160 f0) (fun b8 => grd (cD S b8 = 20) (cal (fL_size n 0 S b8) (fun q11 => if q11 ≤ l5 then 
        some l3
        else onn (cR S 160 f0) (fun b18 => grd (cD S b18 = 20) (cal (fL_get n 0 S b18 l5) (fun q23 => onn q23 (fun b26 => grd (cD S b26 = 3) (bnd (cI S 64 b26) (fun v33 => if v33 = f1 then 
          cal (fX2_gramsAsKnown n S b26 f2) (fun q44 => bnd (l3 + q44.toInt64) (fun x49 => bnd (l5 + 1) (fun x50 => fX7_givenBy_lp5 n S f0 f1 f2 k x49 x50 )))
          else bnd (l5 + 1) (fun x50 => fX7_givenBy_lp5 n S f0 f1 f2 k l3 x50 )))))))))))
def fX7_givenBy (n : Nat × Nat) (S : CS) (a0 : Nat) (a1 : Int32) (a2 : Int32) : Option Int64 :=
  bnd (0 : Int64) (fun x1 => bnd (0 : Int32) (fun x3 => cal (fX7_givenBy_lp5 n S a0 a1 a2 n.1 x1 x3 ) (fun t3_5 => some t3_5)))
set_option maxHeartbeats 8000000 in
set_option maxRecDepth 100000 in
theorem cX7_givenBy_ok (l : Launch) (D : va_G) (cc : Nat → ClassId) (E : Nat → Nat) (n : Nat × Nat) (S : CS) (a0 : Nat) (a1 : Int32) (a2 : Int32) {r : Int64} (h : fX7_givenBy n S a0 a1 a2 = some r) : Cl l yX7_givenBy wsX7_givenBy 3 64 D cc E [.ref a0, .int a1, .int a2] S r S 0 0 := by
  refine C_of (own := RX7) (bb := cX7_givenBy) (nL := 7) (ret := (some .long)) (by decide) rfl rfl (Nat.le_of_ble_eq_true rfl) ?_
  intro p e s m args below meth c hx hb hr hlocks hml hts hown hnm hA hK hro hw ls hl
  generalize va_A (cPs cc S) (nx S) = A at hA hro hw ⊢
  unfold fX7_givenBy at h
  have hinX2 : ∀ w ∈ wsX20, w ∈ wsX7_givenBy := by decide +kernel
  have hinX7 : ∀ w ∈ wsX70, w ∈ wsX7_givenBy := by decide +kernel
  have hl : lv_has ls 7 [(0, .ref a0), (1, .int a1), (2, .int a2)] := hl
  refine lv_lconst (v := 0) hx hb dX7_givenBy_0 (by decide) ?_
  refine lv_topl (fun x1 ex1 => ?_)
  have h := of_bnd h ex1
  refine lv_lstore_n (lv' := [(3, .long x1), (0, .ref a0), (1, .int a1), (2, .int a2)]) hx hb dX7_givenBy_1 rfl hl (by decide) rfl (fun ls hl => ?_)
  refine lv_iconst (v := 0) hx hb dX7_givenBy_2 (by decide) ?_
  refine lv_topi (fun x3 ex3 => ?_)
  have h := of_bnd h ex3
  refine lv_istore (lv' := [(5, .int x3), (3, .long x1), (0, .ref a0), (1, .int a1), (2, .int a2)]) hx hb dX7_givenBy_3 hl (by decide) rfl (fun ls hl => ?_)
  have lp5 : ∀ (f0 : Nat) (f1 : Int32) (f2 : Int32) (S : CS) (k : Nat) (l3 : Int64) (l5 : Int32) (q : Int64) , fX7_givenBy_lp5 n S f0 f1 f2 k l3 l5  = some q → ∀ (H : Heap) (locs : List Loc), cWd D cc A s.heap S H locs → ∀ ls : Array Slot, lv_has ls 7 [(0, .ref f0), (1, .int f1), (2, .int f2), (3, .long l3), (5, .int l5)] → (∀ (t3 : Int64), t3 = q → ∀ (H : Heap) (locs : List Loc), cWd D cc A s.heap S H locs → ∀ ls : Array Slot, lv_has ls 7 [(3, .long t3)] → W p l e (cRm 3 64 0 0) s m args below meth c H locs (0) (0) (MQ below (va_Ql (fun x u => x = r ∧ u = S) (cAft D cc A) A) args s 0 0 A) (F0 m 56 ls [])) → W p l e (cRm 3 64 0 0) s m args below meth c H locs (0) (0) (MQ below (va_Ql (fun x u => x = r ∧ u = S) (cAft D cc A) A) args s 0 0 A) (F0 m 5 ls []) := by
    intro f0 f1 f2 S k
    induction k with
    | zero => intro l3 l5 q h; rw [fX7_givenBy_lp5] at h; cases h
    | succ k ih5 =>
      intro l3 l5 q h H locs hw ls hl kx5_0
      rw [fX7_givenBy_lp5] at h
      refine lv_iload hx hb dX7_givenBy_5 (lv_at hl 4 rfl) ?_
      refine lv_aload_n hx hb dX7_givenBy_7 rfl (lv_at hl 0 rfl) ?_
      obtain ⟨hf1, h⟩ := of_grd h
      obtain ⟨b8, eb8, h⟩ := of_onn h
      refine C_get hx hb hts hinX7 hown hK hw (cell_8 hf1) (by omega) rfl 0 (by decide) (index := 12) (by decide +kernel) rfl (v := .ref b8) (congrArg (fun o => some (va_rf o)) eb8) dX7_givenBy_8 ?_
      obtain ⟨hf2, h⟩ := of_grd h
      obtain ⟨q11, hq11, h⟩ := of_cal h
      refine C_i hA hw (va_runV (As := []) (rest := [.int l5]) ⟨hx, hb, hml, hown, hts⟩ (cL_size_ok l D cc E n 0 (by decide) S b8 hq11) (cwV 0 hts gX7_givenBy_Jx4a65c_size_8abf5 rfl rfl rfl (by decide +kernel) ⟨Nat.le_of_ble_eq_true rfl, Nat.le_of_ble_eq_true rfl⟩) ⟨cBlind D cc E S _, C_recv hK hw (by omega) (cell_L (r := 0) (by decide) hf2) (r := (RJx4a65c, TJx4a65c, 3)) rfl, fun U hU hW => ⟨rfl, C_pre hA hK hro hw U hU hW⟩⟩ rfl rfl hl.1 rfl (lv_room (Nat.le_of_ble_eq_true rfl)) dX7_givenBy_11 ⟨Nat.le_refl _, Nat.le_refl _⟩) (fun H locs hw => ?_)
      refine W.widen (k := 0) (n := 0) (Nat.le_refl _) (Nat.le_refl _) ?_
      refine lv_icmp_ge (tgt := 56) hx hb dX7_givenBy_14 (by decide) (fun c14 => ?_) (fun c14 => ?_)
      · have h := of_it h c14
        exact kx5_0 l3 (Option.some.inj h) _ _ hw ls (lv_sub hl [3] rfl)
      · have h := of_if h c14
        refine lv_aload_n hx hb dX7_givenBy_17 rfl (lv_at hl 0 rfl) ?_
        obtain ⟨b18, eb18, h⟩ := of_onn h
        refine C_get hx hb hts hinX7 hown hK hw (cell_8 hf1) (by omega) rfl 0 (by decide) (index := 12) (by decide +kernel) rfl (v := .ref b18) (congrArg (fun o => some (va_rf o)) eb18) dX7_givenBy_18 ?_
        refine lv_iload hx hb dX7_givenBy_21 (lv_at hl 4 rfl) ?_
        obtain ⟨hf3, h⟩ := of_grd h
        obtain ⟨q23, hq23, h⟩ := of_cal h
        refine C_q hA hw (va_runV (As := [.int l5]) (rest := []) ⟨hx, hb, hml, hown, hts⟩ (cL_get_ok l D cc E n 0 (by decide) S b18 l5 hq23) (cwV 1 hts gX7_givenBy_Jx4a65c_get_915e3 rfl rfl rfl (by decide +kernel) ⟨Nat.le_of_ble_eq_true rfl, Nat.le_of_ble_eq_true rfl⟩) ⟨cBlind D cc E S _, C_recv hK hw (by omega) (cell_L (r := 0) (by decide) hf3) (r := (RJx4a65c, TJx4a65c, 3)) rfl, fun U hU hW => ⟨rfl, C_pre hA hK hro hw U hU hW⟩⟩ rfl rfl hl.1 rfl (lv_room (Nat.le_of_ble_eq_true rfl)) dX7_givenBy_23 ⟨Nat.le_refl _, Nat.le_refl _⟩) (fun H locs hw => ?_)
        refine W.widen (k := 0) (n := 0) (Nat.le_refl _) (Nat.le_refl _) ?_
        obtain ⟨b26, eb26, h⟩ := of_onn h
        subst eb26
        obtain ⟨hf4, h⟩ := of_grd h
        refine va_castE hx hb hown (hts (.classLink RX7 18 RX2) (by decide +kernel)) (C_recv hK hw (by omega) (cell_3 hf4) (r := (RX2, TX2, 11)) rfl) dX7_givenBy_26 ?_
        refine lv_astore (lv' := [(6, .ref b26), (0, .ref f0), (1, .int f1), (2, .int f2), (3, .long l3), (5, .int l5)]) hx hb dX7_givenBy_29 hl (by decide) rfl (fun ls hl => ?_)
        refine lv_aload hx hb dX7_givenBy_31 (lv_at hl 0 rfl) ?_
        refine C_get hx hb hts hinX2 hown hK hw (cell_3 hf4) (by omega) rfl 4 (by decide) (index := 87) (by decide +kernel) rfl rfl dX7_givenBy_33 ?_
        refine lv_topi (fun v33 ev33 => ?_)
        have h := of_bnd h ev33
        refine lv_iload_n hx hb dX7_givenBy_36 rfl (lv_at hl 2 rfl) ?_
        refine lv_icmp_ne (tgt := 50) hx hb dX7_givenBy_37 (by decide) (fun c37 => ?_) (fun c37 => ?_)
        · have h := of_if h c37
          obtain ⟨x50, ex50⟩ : ∃ y : Int32, y = l5 + 1 := ⟨_, rfl⟩
          have h := of_bnd h ex50
          refine lv_iinc (v := x50) (lv' := [(5, .int x50), (6, .ref b26), (0, .ref f0), (1, .int f1), (2, .int f2), (3, .long l3)]) hx hb dX7_givenBy_50 hl (k := 5) rfl (by rw [ex50]; rfl) (by decide) rfl (fun ls hl => ?_)
          refine lv_goto (tgt := 5) hx hb dX7_givenBy_53 (by decide) ?_
          exact ih5 l3 x50 _ h _ _ hw ls (lv_sub hl [2, 3, 4, 5, 0] rfl) kx5_0
        · have h := of_it h c37
          refine lv_lload_n hx hb dX7_givenBy_40 rfl (lv_at hl 4 rfl) ?_
          refine lv_aload hx hb dX7_givenBy_41 (lv_at hl 0 rfl) ?_
          refine lv_iload_n hx hb dX7_givenBy_43 rfl (lv_at hl 3 rfl) ?_
          obtain ⟨q44, hq44, h⟩ := of_cal h
          refine C_i hA hw (va_runV (As := [.int f2]) (rest := [.long l3]) ⟨hx, hb, hml, hown, hts⟩ (cX2_gramsAsKnown_ok l D cc E n S b26 f2 hq44) (cwV 1 hts gX7_givenBy_X2_gramsAsKnown rfl rfl rfl (by decide +kernel) ⟨Nat.le_of_ble_eq_true rfl, Nat.le_of_ble_eq_true rfl⟩) ⟨cBlind D cc E S _, C_recv hK hw (by omega) (cell_3 hf4) (r := (RX2, TX2, 11)) rfl, fun U hU hW => ⟨rfl, C_pre hA hK hro hw U hU hW⟩⟩ rfl rfl hl.1 rfl (lv_room (Nat.le_of_ble_eq_true rfl)) dX7_givenBy_44 ⟨Nat.le_refl _, Nat.le_refl _⟩) (fun H locs hw => ?_)
          refine W.widen (k := 0) (n := 0) (Nat.le_refl _) (Nat.le_refl _) ?_
          refine lv_i2l hx hb dX7_givenBy_47 rfl ?_
          refine lv_ladd hx hb dX7_givenBy_48 ?_
          refine lv_topl (fun x49 ex49 => ?_)
          have h := of_bnd h ex49
          refine lv_lstore_n (lv' := [(3, .long x49), (6, .ref b26), (0, .ref f0), (1, .int f1), (2, .int f2), (5, .int l5)]) hx hb dX7_givenBy_49 rfl hl (by decide) rfl (fun ls hl => ?_)
          obtain ⟨x50, ex50⟩ : ∃ y : Int32, y = l5 + 1 := ⟨_, rfl⟩
          have h := of_bnd h ex50
          refine lv_iinc (v := x50) (lv' := [(5, .int x50), (3, .long x49), (6, .ref b26), (0, .ref f0), (1, .int f1), (2, .int f2)]) hx hb dX7_givenBy_50 hl (k := 5) rfl (by rw [ex50]; rfl) (by decide) rfl (fun ls hl => ?_)
          refine lv_goto (tgt := 5) hx hb dX7_givenBy_53 (by decide) ?_
          exact ih5 x49 x50 _ h _ _ hw ls (lv_sub hl [3, 4, 5, 1, 0] rfl) kx5_0
  obtain ⟨q5, hq5, h⟩ := of_cal h
  refine lp5 a0 a1 a2 S n.1 x1 x3 q5  hq5 _ _ hw ls (lv_sub hl [2, 3, 4, 1, 0] rfl) ?_
  · intro t3_5 eq H locs hw ls hl
    subst eq
    refine lv_lload_n hx hb dX7_givenBy_56 rfl (lv_at hl 0 rfl) ?_
    obtain rfl := Option.some.inj h
    exact C_lret hx hb hr hlocks hw dX7_givenBy_57

def fX7_sumOver_lp5 (n : Nat × Nat) (S : CS) (f0 : Nat) (f1 : Int32) : Nat → Int64 → Int32 → Option (Int64)
  | 0, _, _ => none
  | k + 1, l2, l4 =>
    grd (cD S f0 = 8) (onn (cR S 160 f0) (fun b8 => grd (cD S b8 = 20) (cal (fL_size n 0 S b8) (fun q11 => if q11 ≤ l4 then 
        some l2
        else onn (cR S 160 f0) (fun b19 => grd (cD S b19 = 20) (cal (fL_get n 0 S b19 l4) (fun q24 => onn q24 (fun b27 => grd (cD S b27 = 3) (cal (fX2_tell n S b27 f1) (fun q31 => bnd (l2 + q31.toInt64) (fun x36 => bnd (l4 + 1) (fun x37 => fX7_sumOver_lp5 n S f0 f1 k x36 x37 ))))))))))))
def fX7_sumOver (n : Nat × Nat) (S : CS) (a0 : Nat) (a1 : Int32) : Option Int64 :=
  bnd (0 : Int64) (fun x1 => bnd (0 : Int32) (fun x3 => cal (fX7_sumOver_lp5 n S a0 a1 n.1 x1 x3 ) (fun t2_5 => some t2_5)))
set_option maxHeartbeats 8000000 in
set_option maxRecDepth 100000 in
theorem cX7_sumOver_ok (l : Launch) (D : va_G) (cc : Nat → ClassId) (E : Nat → Nat) (n : Nat × Nat) (S : CS) (a0 : Nat) (a1 : Int32) {r : Int64} (h : fX7_sumOver n S a0 a1 = some r) : Cl l yX7_sumOver wsX7_sumOver 3 64 D cc E [.ref a0, .int a1] S r S 0 0 := by
  refine C_of (own := RX7) (bb := cX7_sumOver) (nL := 5) (ret := (some .long)) (by decide) rfl rfl (Nat.le_of_ble_eq_true rfl) ?_
  intro p e s m args below meth c hx hb hr hlocks hml hts hown hnm hA hK hro hw ls hl
  generalize va_A (cPs cc S) (nx S) = A at hA hro hw ⊢
  unfold fX7_sumOver at h
  have hinX7 : ∀ w ∈ wsX70, w ∈ wsX7_sumOver := by decide +kernel
  have hl : lv_has ls 5 [(0, .ref a0), (1, .int a1)] := hl
  refine lv_lconst (v := 0) hx hb dX7_sumOver_0 (by decide) ?_
  refine lv_topl (fun x1 ex1 => ?_)
  have h := of_bnd h ex1
  refine lv_lstore_n (lv' := [(2, .long x1), (0, .ref a0), (1, .int a1)]) hx hb dX7_sumOver_1 rfl hl (by decide) rfl (fun ls hl => ?_)
  refine lv_iconst (v := 0) hx hb dX7_sumOver_2 (by decide) ?_
  refine lv_topi (fun x3 ex3 => ?_)
  have h := of_bnd h ex3
  refine lv_istore (lv' := [(4, .int x3), (2, .long x1), (0, .ref a0), (1, .int a1)]) hx hb dX7_sumOver_3 hl (by decide) rfl (fun ls hl => ?_)
  have lp5 : ∀ (f0 : Nat) (f1 : Int32) (S : CS) (k : Nat) (l2 : Int64) (l4 : Int32) (q : Int64) , fX7_sumOver_lp5 n S f0 f1 k l2 l4  = some q → ∀ (H : Heap) (locs : List Loc), cWd D cc A s.heap S H locs → ∀ ls : Array Slot, lv_has ls 5 [(0, .ref f0), (1, .int f1), (2, .long l2), (4, .int l4)] → (∀ (t2 : Int64), t2 = q → ∀ (H : Heap) (locs : List Loc), cWd D cc A s.heap S H locs → ∀ ls : Array Slot, lv_has ls 5 [(2, .long t2)] → W p l e (cRm 3 64 0 0) s m args below meth c H locs (0) (0) (MQ below (va_Ql (fun x u => x = r ∧ u = S) (cAft D cc A) A) args s 0 0 A) (F0 m 43 ls [])) → W p l e (cRm 3 64 0 0) s m args below meth c H locs (0) (0) (MQ below (va_Ql (fun x u => x = r ∧ u = S) (cAft D cc A) A) args s 0 0 A) (F0 m 5 ls []) := by
    intro f0 f1 S k
    induction k with
    | zero => intro l2 l4 q h; rw [fX7_sumOver_lp5] at h; cases h
    | succ k ih5 =>
      intro l2 l4 q h H locs hw ls hl kx5_0
      rw [fX7_sumOver_lp5] at h
      refine lv_iload hx hb dX7_sumOver_5 (lv_at hl 3 rfl) ?_
      refine lv_aload_n hx hb dX7_sumOver_7 rfl (lv_at hl 0 rfl) ?_
      obtain ⟨hf1, h⟩ := of_grd h
      obtain ⟨b8, eb8, h⟩ := of_onn h
      refine C_get hx hb hts hinX7 hown hK hw (cell_8 hf1) (by omega) rfl 0 (by decide) (index := 12) (by decide +kernel) rfl (v := .ref b8) (congrArg (fun o => some (va_rf o)) eb8) dX7_sumOver_8 ?_
      obtain ⟨hf2, h⟩ := of_grd h
      obtain ⟨q11, hq11, h⟩ := of_cal h
      refine C_i hA hw (va_runV (As := []) (rest := [.int l4]) ⟨hx, hb, hml, hown, hts⟩ (cL_size_ok l D cc E n 0 (by decide) S b8 hq11) (cwV 0 hts gX7_sumOver_Jx4a65c_size_8abf5 rfl rfl rfl (by decide +kernel) ⟨Nat.le_of_ble_eq_true rfl, Nat.le_of_ble_eq_true rfl⟩) ⟨cBlind D cc E S _, C_recv hK hw (by omega) (cell_L (r := 0) (by decide) hf2) (r := (RJx4a65c, TJx4a65c, 3)) rfl, fun U hU hW => ⟨rfl, C_pre hA hK hro hw U hU hW⟩⟩ rfl rfl hl.1 rfl (lv_room (Nat.le_of_ble_eq_true rfl)) dX7_sumOver_11 ⟨Nat.le_refl _, Nat.le_refl _⟩) (fun H locs hw => ?_)
      refine W.widen (k := 0) (n := 0) (Nat.le_refl _) (Nat.le_refl _) ?_
      refine lv_icmp_ge (tgt := 43) hx hb dX7_sumOver_14 (by decide) (fun c14 => ?_) (fun c14 => ?_)
      · have h := of_it h c14
        exact kx5_0 l2 (Option.some.inj h) _ _ hw ls (lv_sub hl [2] rfl)
      · have h := of_if h c14
        refine lv_lload_n hx hb dX7_sumOver_17 rfl (lv_at hl 2 rfl) ?_
        refine lv_aload_n hx hb dX7_sumOver_18 rfl (lv_at hl 0 rfl) ?_
        obtain ⟨b19, eb19, h⟩ := of_onn h
        refine C_get hx hb hts hinX7 hown hK hw (cell_8 hf1) (by omega) rfl 0 (by decide) (index := 12) (by decide +kernel) rfl (v := .ref b19) (congrArg (fun o => some (va_rf o)) eb19) dX7_sumOver_19 ?_
        refine lv_iload hx hb dX7_sumOver_22 (lv_at hl 3 rfl) ?_
        obtain ⟨hf3, h⟩ := of_grd h
        obtain ⟨q24, hq24, h⟩ := of_cal h
        refine C_q hA hw (va_runV (As := [.int l4]) (rest := [.long l2]) ⟨hx, hb, hml, hown, hts⟩ (cL_get_ok l D cc E n 0 (by decide) S b19 l4 hq24) (cwV 1 hts gX7_sumOver_Jx4a65c_get_915e3 rfl rfl rfl (by decide +kernel) ⟨Nat.le_of_ble_eq_true rfl, Nat.le_of_ble_eq_true rfl⟩) ⟨cBlind D cc E S _, C_recv hK hw (by omega) (cell_L (r := 0) (by decide) hf3) (r := (RJx4a65c, TJx4a65c, 3)) rfl, fun U hU hW => ⟨rfl, C_pre hA hK hro hw U hU hW⟩⟩ rfl rfl hl.1 rfl (lv_room (Nat.le_of_ble_eq_true rfl)) dX7_sumOver_24 ⟨Nat.le_refl _, Nat.le_refl _⟩) (fun H locs hw => ?_)
        refine W.widen (k := 0) (n := 0) (Nat.le_refl _) (Nat.le_refl _) ?_
        obtain ⟨b27, eb27, h⟩ := of_onn h
        subst eb27
        obtain ⟨hf4, h⟩ := of_grd h
        refine va_castE hx hb hown (hts (.classLink RX7 18 RX2) (by decide +kernel)) (C_recv hK hw (by omega) (cell_3 hf4) (r := (RX2, TX2, 11)) rfl) dX7_sumOver_27 ?_
        refine lv_iload_n hx hb dX7_sumOver_30 rfl (lv_at hl 1 rfl) ?_
        obtain ⟨q31, hq31, h⟩ := of_cal h
        refine C_i hA hw (va_runV (As := [.int f1]) (rest := [.long l2]) ⟨hx, hb, hml, hown, hts⟩ (cX2_tell_ok l D cc E n S b27 f1 hq31) (cwV 1 hts gX7_sumOver_X2_tell rfl rfl rfl (by decide +kernel) ⟨Nat.le_of_ble_eq_true rfl, Nat.le_of_ble_eq_true rfl⟩) ⟨cBlind D cc E S _, C_recv hK hw (by omega) (cell_3 hf4) (r := (RX2, TX2, 11)) rfl, fun U hU hW => ⟨rfl, C_pre hA hK hro hw U hU hW⟩⟩ rfl rfl hl.1 rfl (lv_room (Nat.le_of_ble_eq_true rfl)) dX7_sumOver_31 ⟨Nat.le_refl _, Nat.le_refl _⟩) (fun H locs hw => ?_)
        refine W.widen (k := 0) (n := 0) (Nat.le_refl _) (Nat.le_refl _) ?_
        refine lv_i2l hx hb dX7_sumOver_34 rfl ?_
        refine lv_ladd hx hb dX7_sumOver_35 ?_
        refine lv_topl (fun x36 ex36 => ?_)
        have h := of_bnd h ex36
        refine lv_lstore_n (lv' := [(2, .long x36), (0, .ref f0), (1, .int f1), (4, .int l4)]) hx hb dX7_sumOver_36 rfl hl (by decide) rfl (fun ls hl => ?_)
        obtain ⟨x37, ex37⟩ : ∃ y : Int32, y = l4 + 1 := ⟨_, rfl⟩
        have h := of_bnd h ex37
        refine lv_iinc (v := x37) (lv' := [(4, .int x37), (2, .long x36), (0, .ref f0), (1, .int f1)]) hx hb dX7_sumOver_37 hl (k := 3) rfl (by rw [ex37]; rfl) (by decide) rfl (fun ls hl => ?_)
        refine lv_goto (tgt := 5) hx hb dX7_sumOver_40 (by decide) ?_
        exact ih5 x36 x37 _ h _ _ hw ls (lv_sub hl [2, 3, 1, 0] rfl) kx5_0
  obtain ⟨q5, hq5, h⟩ := of_cal h
  refine lp5 a0 a1 S n.1 x1 x3 q5  hq5 _ _ hw ls (lv_sub hl [2, 3, 1, 0] rfl) ?_
  · intro t2_5 eq H locs hw ls hl
    subst eq
    refine lv_lload_n hx hb dX7_sumOver_43 rfl (lv_at hl 0 rfl) ?_
    obtain rfl := Option.some.inj h
    exact C_lret hx hb hr hlocks hw dX7_sumOver_44

def fX7_leftOfKind_lp9 (n : Nat × Nat) (S : CS) : Nat → Int64 → Option Nat → Option (Int64)
  | 0, _, _ => none
  | k + 1, l2, l4 =>
    oel l4 (some l2) (fun b11 => grd (cD S b11 = 3) (bnd (cI S 65 b11) (fun v17 => bnd (l2 + v17.toInt64) (fun x22 => bnd (cR S 69 b11) (fun o25 => fX7_leftOfKind_lp9 n S k x22 o25 )))))
def fX7_leftOfKind (n : Nat × Nat) (S : CS) (a0 : Nat) (a1 : Int32) : Option Int64 :=
  bnd (0 : Int64) (fun x1 => grd (cD S a0 = 8) (cal (fX7_soonestOf n S a0 a1) (fun q4 => cal (fX7_leftOfKind_lp9 n S n.1 x1 q4 ) (fun t2_9 => some t2_9))))
set_option maxHeartbeats 8000000 in
set_option maxRecDepth 100000 in
theorem cX7_leftOfKind_ok (l : Launch) (D : va_G) (cc : Nat → ClassId) (E : Nat → Nat) (n : Nat × Nat) (S : CS) (a0 : Nat) (a1 : Int32) {r : Int64} (h : fX7_leftOfKind n S a0 a1 = some r) : Cl l yX7_leftOfKind wsX7_leftOfKind 3 63 D cc E [.ref a0, .int a1] S r S 0 0 := by
  refine C_of (own := RX7) (bb := cX7_leftOfKind) (nL := 5) (ret := (some .long)) (by decide) rfl rfl (Nat.le_of_ble_eq_true rfl) ?_
  intro p e s m args below meth c hx hb hr hlocks hml hts hown hnm hA hK hro hw ls hl
  generalize va_A (cPs cc S) (nx S) = A at hA hro hw ⊢
  unfold fX7_leftOfKind at h
  have hinX2 : ∀ w ∈ wsX20, w ∈ wsX7_leftOfKind := by decide +kernel
  have hl : lv_has ls 5 [(0, .ref a0), (1, .int a1)] := hl
  refine lv_lconst (v := 0) hx hb dX7_leftOfKind_0 (by decide) ?_
  refine lv_topl (fun x1 ex1 => ?_)
  have h := of_bnd h ex1
  refine lv_lstore_n (lv' := [(2, .long x1), (0, .ref a0), (1, .int a1)]) hx hb dX7_leftOfKind_1 rfl hl (by decide) rfl (fun ls hl => ?_)
  refine lv_aload_n hx hb dX7_leftOfKind_2 rfl (lv_at hl 1 rfl) ?_
  refine lv_iload_n hx hb dX7_leftOfKind_3 rfl (lv_at hl 2 rfl) ?_
  obtain ⟨hf1, h⟩ := of_grd h
  obtain ⟨q4, hq4, h⟩ := of_cal h
  refine C_q hA hw (va_runV (As := [.int a1]) (rest := []) ⟨hx, hb, hml, hown, hts⟩ (cX7_soonestOf_ok l D cc E n S a0 a1 hq4) (cwV 1 hts gX7_leftOfKind_X7_soonestOf rfl rfl rfl (by decide +kernel) ⟨Nat.le_of_ble_eq_true rfl, Nat.le_of_ble_eq_true rfl⟩) ⟨cBlind D cc E S _, C_recv hK hw (by omega) (cell_8 hf1) (r := (RX7, TX7, 2)) rfl, fun U hU hW => ⟨rfl, C_pre hA hK hro hw U hU hW⟩⟩ rfl rfl hl.1 rfl (lv_room (Nat.le_of_ble_eq_true rfl)) dX7_leftOfKind_4 ⟨Nat.le_refl _, Nat.le_refl _⟩) (fun H locs hw => ?_)
  refine W.widen (k := 0) (n := 0) (Nat.le_refl _) (Nat.le_refl _) ?_
  refine lv_astoreq (lv' := [(4, va_rf q4), (2, .long x1), (0, .ref a0), (1, .int a1)]) hx hb dX7_leftOfKind_7 hl (by decide) rfl (fun ls hl => ?_)
  have lp9 : ∀ (S : CS) (k : Nat) (l2 : Int64) (l4 : Option Nat) (q : Int64) , fX7_leftOfKind_lp9 n S k l2 l4  = some q → ∀ (H : Heap) (locs : List Loc), cWd D cc A s.heap S H locs → ∀ ls : Array Slot, lv_has ls 5 [(2, .long l2), (4, va_rf l4)] → (∀ (t2 : Int64), t2 = q → ∀ (H : Heap) (locs : List Loc), cWd D cc A s.heap S H locs → ∀ ls : Array Slot, lv_has ls 5 [(2, .long t2)] → W p l e (cRm 3 63 0 0) s m args below meth c H locs (0) (0) (MQ below (va_Ql (fun x u => x = r ∧ u = S) (cAft D cc A) A) args s 0 0 A) (F0 m 33 ls [])) → W p l e (cRm 3 63 0 0) s m args below meth c H locs (0) (0) (MQ below (va_Ql (fun x u => x = r ∧ u = S) (cAft D cc A) A) args s 0 0 A) (F0 m 9 ls []) := by
    intro S k
    induction k with
    | zero => intro l2 l4 q h; rw [fX7_leftOfKind_lp9] at h; cases h
    | succ k ih9 =>
      intro l2 l4 q h H locs hw ls hl kx9_0
      rw [fX7_leftOfKind_lp9] at h
      refine lv_aloadq hx hb dX7_leftOfKind_9 (lv_at hl 1 rfl) ?_
      rcases l4 with _ | b11
      · have h := of_oelN h
        have hl : lv_has ls 5 [(2, .long l2), (4, .null)] := hl
        refine lv_ifnullN (tgt := 33) hx hb dX7_leftOfKind_11 (by decide) ?_
        exact kx9_0 l2 (Option.some.inj h) _ _ hw ls (lv_sub hl [0] rfl)
      · have h := of_oelS h
        have hl : lv_has ls 5 [(2, .long l2), (4, .ref b11)] := hl
        refine lv_ifnull hx hb dX7_leftOfKind_11 ?_
        refine lv_lload_n hx hb dX7_leftOfKind_14 rfl (lv_at hl 0 rfl) ?_
        refine lv_aload hx hb dX7_leftOfKind_15 (lv_at hl 1 rfl) ?_
        obtain ⟨hf2, h⟩ := of_grd h
        refine C_get hx hb hts hinX2 hown hK hw (cell_3 hf2) (by omega) rfl 5 (by decide) (index := 58) (by decide +kernel) rfl rfl dX7_leftOfKind_17 ?_
        refine lv_topi (fun v17 ev17 => ?_)
        have h := of_bnd h ev17
        refine lv_i2l hx hb dX7_leftOfKind_20 rfl ?_
        refine lv_ladd hx hb dX7_leftOfKind_21 ?_
        refine lv_topl (fun x22 ex22 => ?_)
        have h := of_bnd h ex22
        refine lv_lstore_n (lv' := [(2, .long x22), (4, .ref b11)]) hx hb dX7_leftOfKind_22 rfl hl (by decide) rfl (fun ls hl => ?_)
        refine lv_aload hx hb dX7_leftOfKind_23 (lv_at hl 1 rfl) ?_
        obtain ⟨o25, eo25⟩ : ∃ o, o = cR S 69 b11 := ⟨_, rfl⟩
        have h := of_bnd h eo25
        refine C_get hx hb hts hinX2 hown hK hw (cell_3 hf2) (by omega) rfl 9 (by decide) (index := 51) (by decide +kernel) rfl (v := va_rf o25) (congrArg (fun o => some (va_rf o)) eo25.symm) dX7_leftOfKind_25 ?_
        refine lv_astoreq (lv' := [(4, va_rf o25), (2, .long x22)]) hx hb dX7_leftOfKind_28 hl (by decide) rfl (fun ls hl => ?_)
        refine lv_goto (tgt := 9) hx hb dX7_leftOfKind_30 (by decide) ?_
        exact ih9 x22 o25 _ h _ _ hw ls (lv_sub hl [1, 0] rfl) kx9_0
  obtain ⟨q9, hq9, h⟩ := of_cal h
  refine lp9 S n.1 x1 q4 q9  hq9 _ _ hw ls (lv_sub hl [1, 0] rfl) ?_
  · intro t2_9 eq H locs hw ls hl
    subst eq
    refine lv_lload_n hx hb dX7_leftOfKind_33 rfl (lv_at hl 0 rfl) ?_
    obtain rfl := Option.some.inj h
    exact C_lret hx hb hr hlocks hw dX7_leftOfKind_34

def fX9_gather_lp7 (n : Nat × Nat) (f0 : Nat) (f1 : Nat) : Nat → Int32 → CS → Option (CS)
  | 0, _, _ => none
  | k + 1, l2, S =>
    grd (cD S f1 = 21) (cal (fL_size n 1 S f1) (fun q9 => if q9 ≤ l2 then 
        some S
        else if (12 : Int32) ≤ l2 then 
          some S
          else cal (fL_get n 1 S f1 l2) (fun q23 => onn q23 (fun b26 => grd (cD S b26 = 9) (bnd (cI S 182 b26) (fun v29 => if v29 ≤ 0 then 
            bnd (l2 + 1) (fun x76 => fX9_gather_lp7 n f0 f1 k x76 S)
            else grd (cD S f0 = 10) (bnd (cI S 203 f0) (fun v38 => if (8 : Int32) ≤ v38 then 
              bnd (l2 + 1) (fun x76 => fX9_gather_lp7 n f0 f1 k x76 S)
              else onn (cR S 201 f0) (fun b47 => bnd (cI S 203 f0) (fun v51 => grd (cD S b47 = 48) (grd (¬ (v51 < 0 ∨ cN S b47 ≤ v51.toNatClampNeg)) (bnd (uA S 48 b47 v51.toNatClampNeg l2) (fun S55 => onn (cR S55 202 f0) (fun b57 => bnd (cI S55 203 f0) (fun v61 => grd (cD S55 b57 = 49) (grd (¬ (v61 < 0 ∨ cN S55 b57 ≤ v61.toNatClampNeg)) (bnd (uA S55 49 b57 v61.toNatClampNeg v29) (fun S65 => bnd (cI S65 203 f0) (fun v68 => bnd (uI S65 203 f0 (v68 + (1 : Int32))) (fun S73 => bnd (l2 + 1) (fun x76 => fX9_gather_lp7 n f0 f1 k x76 S73)))))))))))))))))))))
def fX9_gather (n : Nat × Nat) (S : CS) (a0 : Nat) (a1 : Nat) : Option (CS) :=
  grd (cD S a0 = 10) (bnd (uI S 203 a0 (0 : Int32)) (fun S2 => bnd (0 : Int32) (fun x6 => cal (fX9_gather_lp7 n a0 a1 n.1 x6 S2) (fun S7 => some S7))))
set_option maxHeartbeats 8000000 in
set_option maxRecDepth 100000 in
theorem cX9_gather_ok (l : Launch) (D : va_G) (cc : Nat → ClassId) (E : Nat → Nat) (n : Nat × Nat) (S : CS) (a0 : Nat) (a1 : Nat) {T : CS} (h : fX9_gather n S a0 a1 = some T) : Cv l yX9_gather wsX9_gather 3 64 D cc E [.ref a0, .ref a1] S T 0 0 := by
  refine C_of (own := RX9) (bb := cX9_gather) (nL := 4) (ret := none) (by decide) rfl rfl (Nat.le_of_ble_eq_true rfl) ?_
  intro p e s m args below meth c hx hb hr hlocks hml hts hown hnm hA hK hro hw ls hl
  generalize va_A (cPs cc S) (nx S) = A at hA hro hw ⊢
  unfold fX9_gather at h
  have hinX8 : ∀ w ∈ wsX80, w ∈ wsX9_gather := by decide +kernel
  have hinX9 : ∀ w ∈ wsX90, w ∈ wsX9_gather := by decide +kernel
  have hl : lv_has ls 4 [(0, .ref a0), (1, .ref a1)] := hl
  refine lv_aload_n hx hb dX9_gather_0 rfl (lv_at hl 0 rfl) ?_
  refine lv_iconst (v := 0) hx hb dX9_gather_1 (by decide) ?_
  obtain ⟨hf1, h⟩ := of_grd h
  refine C_put hx hb hts hinX9 tyX9 tyX9_ok nmX9 hown hK hw (cell_10 hf1) (by omega) rfl 3 (by decide) (index := 23) (by decide +kernel) rfl rfl (ty := .int) (by decide +kernel) rfl rfl (Nat.le_of_ble_eq_true rfl) (S' := uI S 203 a0 (0 : Int32)) rfl rfl rfl (pu_203 hf1 (0 : Int32)) (fun b hb => off_uI hb) dX9_gather_2 (fun S2 H locs eS2 hw => ?_)
  have h := of_bnd h eS2
  refine lv_iconst (v := 0) hx hb dX9_gather_5 (by decide) ?_
  refine lv_topi (fun x6 ex6 => ?_)
  have h := of_bnd h ex6
  refine lv_istore_n (lv' := [(2, .int x6), (0, .ref a0), (1, .ref a1)]) hx hb dX9_gather_6 rfl hl (by decide) rfl (fun ls hl => ?_)
  have lp7 : ∀ (f0 : Nat) (f1 : Nat) (k : Nat) (l2 : Int32) (S : CS) (q : CS) , fX9_gather_lp7 n f0 f1 k l2 S = some q → ∀ (H : Heap) (locs : List Loc), cWd D cc A s.heap S H locs → ∀ ls : Array Slot, lv_has ls 4 [(0, .ref f0), (1, .ref f1), (2, .int l2)] → (∀  (S1 : CS), S1 = q → ∀ (H : Heap) (locs : List Loc), cWd D cc A s.heap S1 H locs → ∀ ls : Array Slot, lv_has ls 4 [] → W p l e (cRm 3 64 0 0) s m args below meth c H locs (0) (0) (MQ below (va_Qv (fun u => u = T) (cAft D cc A) A) args s 0 0 A) (F0 m 82 ls [])) → W p l e (cRm 3 64 0 0) s m args below meth c H locs (0) (0) (MQ below (va_Qv (fun u => u = T) (cAft D cc A) A) args s 0 0 A) (F0 m 7 ls []) := by
    intro f0 f1 k
    induction k with
    | zero => intro l2 S q h; rw [fX9_gather_lp7] at h; cases h
    | succ k ih7 =>
      intro l2 S q h H locs hw ls hl kx7_0
      rw [fX9_gather_lp7] at h
      refine lv_iload_n hx hb dX9_gather_7 rfl (lv_at hl 2 rfl) ?_
      refine lv_aload_n hx hb dX9_gather_8 rfl (lv_at hl 1 rfl) ?_
      obtain ⟨hf2, h⟩ := of_grd h
      obtain ⟨q9, hq9, h⟩ := of_cal h
      refine C_i hA hw (va_runV (As := []) (rest := [.int l2]) ⟨hx, hb, hml, hown, hts⟩ (cL_size_ok l D cc E n 1 (by decide) S f1 hq9) (cwV 0 hts gX9_gather_Jx4a65c_size_8abf5 rfl rfl rfl (by decide +kernel) ⟨Nat.le_of_ble_eq_true rfl, Nat.le_of_ble_eq_true rfl⟩) ⟨cBlind D cc E S _, C_recv hK hw (by omega) (cell_L (r := 1) (by decide) hf2) (r := (RJx4a65c, TJx4a65c, 3)) rfl, fun U hU hW => ⟨rfl, C_pre hA hK hro hw U hU hW⟩⟩ rfl rfl hl.1 rfl (lv_room (Nat.le_of_ble_eq_true rfl)) dX9_gather_9 ⟨Nat.le_refl _, Nat.le_refl _⟩) (fun H locs hw => ?_)
      refine W.widen (k := 0) (n := 0) (Nat.le_refl _) (Nat.le_refl _) ?_
      refine lv_icmp_ge (tgt := 82) hx hb dX9_gather_12 (by decide) (fun c12 => ?_) (fun c12 => ?_)
      · have h := of_it h c12
        exact kx7_0 S (Option.some.inj h) _ _ hw ls (lv_sub hl [] rfl)
      · have h := of_if h c12
        refine lv_iload_n hx hb dX9_gather_15 rfl (lv_at hl 2 rfl) ?_
        refine lv_bipush (v := 12) hx hb dX9_gather_16 (by decide) ?_
        refine lv_icmp_ge (tgt := 82) hx hb dX9_gather_18 (by decide) (fun c18 => ?_) (fun c18 => ?_)
        · have h := of_it h c18
          exact kx7_0 S (Option.some.inj h) _ _ hw ls (lv_sub hl [] rfl)
        · have h := of_if h c18
          refine lv_aload_n hx hb dX9_gather_21 rfl (lv_at hl 1 rfl) ?_
          refine lv_iload_n hx hb dX9_gather_22 rfl (lv_at hl 2 rfl) ?_
          obtain ⟨q23, hq23, h⟩ := of_cal h
          refine C_q hA hw (va_runV (As := [.int l2]) (rest := []) ⟨hx, hb, hml, hown, hts⟩ (cL_get_ok l D cc E n 1 (by decide) S f1 l2 hq23) (cwV 1 hts gX9_gather_Jx4a65c_get_915e3 rfl rfl rfl (by decide +kernel) ⟨Nat.le_of_ble_eq_true rfl, Nat.le_of_ble_eq_true rfl⟩) ⟨cBlind D cc E S _, C_recv hK hw (by omega) (cell_L (r := 1) (by decide) hf2) (r := (RJx4a65c, TJx4a65c, 3)) rfl, fun U hU hW => ⟨rfl, C_pre hA hK hro hw U hU hW⟩⟩ rfl rfl hl.1 rfl (lv_room (Nat.le_of_ble_eq_true rfl)) dX9_gather_23 ⟨Nat.le_refl _, Nat.le_refl _⟩) (fun H locs hw => ?_)
          refine W.widen (k := 0) (n := 0) (Nat.le_refl _) (Nat.le_refl _) ?_
          obtain ⟨b26, eb26, h⟩ := of_onn h
          subst eb26
          obtain ⟨hf3, h⟩ := of_grd h
          refine va_castE hx hb hown (hts (.classLink RX9 78 RX8) (by decide +kernel)) (C_recv hK hw (by omega) (cell_9 hf3) (r := (RX8, TX8, 3)) rfl) dX9_gather_26 ?_
          refine C_get hx hb hts hinX8 hown hK hw (cell_9 hf3) (by omega) rfl 2 (by decide) (index := 80) (by decide +kernel) rfl rfl dX9_gather_29 ?_
          refine lv_topi (fun v29 ev29 => ?_)
          have h := of_bnd h ev29
          refine lv_istore_n (lv' := [(3, .int v29), (0, .ref f0), (1, .ref f1), (2, .int l2)]) hx hb dX9_gather_32 rfl hl (by decide) rfl (fun ls hl => ?_)
          refine lv_iload_n hx hb dX9_gather_33 rfl (lv_at hl 0 rfl) ?_
          refine lv_if_le (tgt := 76) hx hb dX9_gather_34 (by decide) (fun c34 => ?_) (fun c34 => ?_)
          · have h := of_it h c34
            obtain ⟨x76, ex76⟩ : ∃ y : Int32, y = l2 + 1 := ⟨_, rfl⟩
            have h := of_bnd h ex76
            refine lv_iinc (v := x76) (lv' := [(2, .int x76), (3, .int v29), (0, .ref f0), (1, .ref f1)]) hx hb dX9_gather_76 hl (k := 3) rfl (by rw [ex76]; rfl) (by decide) rfl (fun ls hl => ?_)
            refine lv_goto (tgt := 7) hx hb dX9_gather_79 (by decide) ?_
            exact ih7 x76 S _ h _ _ hw ls (lv_sub hl [2, 3, 0] rfl) kx7_0
          · have h := of_if h c34
            refine lv_aload_n hx hb dX9_gather_37 rfl (lv_at hl 1 rfl) ?_
            obtain ⟨hf4, h⟩ := of_grd h
            refine C_get hx hb hts hinX9 hown hK hw (cell_10 hf4) (by omega) rfl 3 (by decide) (index := 23) (by decide +kernel) rfl rfl dX9_gather_38 ?_
            refine lv_topi (fun v38 ev38 => ?_)
            have h := of_bnd h ev38
            refine lv_bipush (v := 8) hx hb dX9_gather_41 (by decide) ?_
            refine lv_icmp_ge (tgt := 76) hx hb dX9_gather_43 (by decide) (fun c43 => ?_) (fun c43 => ?_)
            · have h := of_it h c43
              obtain ⟨x76, ex76⟩ : ∃ y : Int32, y = l2 + 1 := ⟨_, rfl⟩
              have h := of_bnd h ex76
              refine lv_iinc (v := x76) (lv' := [(2, .int x76), (3, .int v29), (0, .ref f0), (1, .ref f1)]) hx hb dX9_gather_76 hl (k := 3) rfl (by rw [ex76]; rfl) (by decide) rfl (fun ls hl => ?_)
              refine lv_goto (tgt := 7) hx hb dX9_gather_79 (by decide) ?_
              exact ih7 x76 S _ h _ _ hw ls (lv_sub hl [2, 3, 0] rfl) kx7_0
            · have h := of_if h c43
              refine lv_aload_n hx hb dX9_gather_46 rfl (lv_at hl 1 rfl) ?_
              obtain ⟨b47, eb47, h⟩ := of_onn h
              refine C_get hx hb hts hinX9 hown hK hw (cell_10 hf4) (by omega) rfl 1 (by decide) (index := 16) (by decide +kernel) rfl (v := .ref b47) (congrArg (fun o => some (va_rf o)) eb47) dX9_gather_47 ?_
              refine lv_aload_n hx hb dX9_gather_50 rfl (lv_at hl 1 rfl) ?_
              refine C_get hx hb hts hinX9 hown hK hw (cell_10 hf4) (by omega) rfl 3 (by decide) (index := 23) (by decide +kernel) rfl rfl dX9_gather_51 ?_
              refine lv_topi (fun v51 ev51 => ?_)
              have h := of_bnd h ev51
              refine lv_iload_n hx hb dX9_gather_54 rfl (lv_at hl 3 rfl) ?_
              obtain ⟨hf5, h⟩ := of_grd h
              obtain ⟨hi55, h⟩ := of_grd h
              refine C_iast hx hb hK hw hf5 (by decide) (by decide) hi55 dX9_gather_55 (fun S55 H locs eS55 hw => ?_)
              have h := of_bnd h eS55
              refine lv_aload_n hx hb dX9_gather_56 rfl (lv_at hl 1 rfl) ?_
              have hf6 : cD S55 f0 = 10 := by rw [eS55]; exact hf4
              obtain ⟨b57, eb57, h⟩ := of_onn h
              refine C_get hx hb hts hinX9 hown hK hw (cell_10 hf6) (by omega) rfl 2 (by decide) (index := 20) (by decide +kernel) rfl (v := .ref b57) (congrArg (fun o => some (va_rf o)) eb57) dX9_gather_57 ?_
              refine lv_aload_n hx hb dX9_gather_60 rfl (lv_at hl 1 rfl) ?_
              refine C_get hx hb hts hinX9 hown hK hw (cell_10 hf6) (by omega) rfl 3 (by decide) (index := 23) (by decide +kernel) rfl rfl dX9_gather_61 ?_
              refine lv_topi (fun v61 ev61 => ?_)
              have h := of_bnd h ev61
              refine lv_iload_n hx hb dX9_gather_64 rfl (lv_at hl 0 rfl) ?_
              obtain ⟨hf7, h⟩ := of_grd h
              obtain ⟨hi65, h⟩ := of_grd h
              refine C_iast hx hb hK hw hf7 (by decide) (by decide) hi65 dX9_gather_65 (fun S65 H locs eS65 hw => ?_)
              have h := of_bnd h eS65
              refine lv_aload_n hx hb dX9_gather_66 rfl (lv_at hl 1 rfl) ?_
              refine lv_dup hx hb dX9_gather_67 rfl ?_
              have hf8 : cD S65 f0 = 10 := by rw [eS65]; exact hf6
              refine C_get hx hb hts hinX9 hown hK hw (cell_10 hf8) (by omega) rfl 3 (by decide) (index := 23) (by decide +kernel) rfl rfl dX9_gather_68 ?_
              refine lv_topi (fun v68 ev68 => ?_)
              have h := of_bnd h ev68
              refine lv_iconst (v := 1) hx hb dX9_gather_71 (by decide) ?_
              refine lv_iadd hx hb dX9_gather_72 ?_
              refine C_put hx hb hts hinX9 tyX9 tyX9_ok nmX9 hown hK hw (cell_10 hf8) (by omega) rfl 3 (by decide) (index := 23) (by decide +kernel) rfl rfl (ty := .int) (by decide +kernel) rfl rfl (Nat.le_of_ble_eq_true rfl) (S' := uI S65 203 f0 (v68 + (1 : Int32))) rfl rfl rfl (pu_203 hf8 (v68 + (1 : Int32))) (fun b hb => off_uI hb) dX9_gather_73 (fun S73 H locs eS73 hw => ?_)
              have h := of_bnd h eS73
              obtain ⟨x76, ex76⟩ : ∃ y : Int32, y = l2 + 1 := ⟨_, rfl⟩
              have h := of_bnd h ex76
              refine lv_iinc (v := x76) (lv' := [(2, .int x76), (3, .int v29), (0, .ref f0), (1, .ref f1)]) hx hb dX9_gather_76 hl (k := 3) rfl (by rw [ex76]; rfl) (by decide) rfl (fun ls hl => ?_)
              refine lv_goto (tgt := 7) hx hb dX9_gather_79 (by decide) ?_
              exact ih7 x76 S73 _ h _ _ hw ls (lv_sub hl [2, 3, 0] rfl) kx7_0
  obtain ⟨q7, hq7, h⟩ := of_cal h
  refine lp7 a0 a1 n.1 x6 S2 q7  hq7 _ _ hw ls (lv_sub hl [1, 2, 0] rfl) ?_
  · intro S7 eq H locs hw ls hl
    subst eq
    obtain rfl := Option.some.inj h
    exact C_vret hx hb hr hlocks hw dX9_gather_82

def fX9_plan_lp21 (n : Nat × Nat) (f0 : Nat) (f2 : Int32) (f3 : Int32) : Nat → Int32 → CS → Option (CS)
  | 0, _, _ => none
  | k + 1, l4, S =>
    if f3 < l4 then 
        some S
        else grd (cD S f0 = 10) (onn (cR S 206 f0) (fun b28 => onn (cR S 204 f0) (fun b34 => grd (cD S b34 = 50) (grd (¬ (l4 < 0 ∨ cN S b34 ≤ l4.toNatClampNeg)) (bnd (cA S 50 b34 l4.toNatClampNeg) (fun v39 => if v39 ≤ f2 then 
          cal (fX9_shortestRound n S f0 l4) (un2 fun r52 S52 => grd (cD S52 b28 = 52) (grd (¬ (l4 < 0 ∨ cN S52 b28 ≤ l4.toNatClampNeg)) (bnd (uA S52 52 b28 l4.toNatClampNeg r52) (fun S55 => bnd (l4 + 1) (fun x56 => fX9_plan_lp21 n f0 f2 f3 k x56 S55)))))
          else grd (cD S b28 = 52) (grd (¬ (l4 < 0 ∨ cN S b28 ≤ l4.toNatClampNeg)) (bnd (uA S 52 b28 l4.toNatClampNeg (1048576 : Int32)) (fun S55 => bnd (l4 + 1) (fun x56 => fX9_plan_lp21 n f0 f2 f3 k x56 S55))))))))))
def fX9_plan_lp65 (n : Nat × Nat) (f0 : Nat) (f3 : Int32) : Nat → Int32 → CS → Option (CS)
  | 0, _, _ => none
  | k + 1, l4, S =>
    if f3 < l4 then 
          some S
          else grd (cD S f0 = 10) (onn (cR S 207 f0) (fun b72 => cal (fX9_cheapestParting n S f0 l4) (fun q80 => grd (cD S b72 = 53) (grd (¬ (l4 < 0 ∨ cN S b72 ≤ l4.toNatClampNeg)) (bnd (uA S 53 b72 l4.toNatClampNeg q80) (fun S83 => bnd (l4 + 1) (fun x84 => fX9_plan_lp65 n f0 f3 k x84 S83)))))))
def fX9_plan (n : Nat × Nat) (S : CS) (a0 : Nat) (a1 : Nat) (a2 : Int32) : Option (Int32 × CS) :=
  grd (cD S a0 = 10) (cal (fX9_gather n S a0 a1) (fun S2 => grd (cD S2 a0 = 10) (cal (fX9_weighSets n S2 a0) (fun S6 => grd (cD S6 a0 = 10) (bnd (cI S6 203 a0) (fun v11 => bnd (((1 : Int32) <<< (v11 &&& 31)) - (1 : Int32)) (fun x17 => bnd (1 : Int32) (fun x19 => cal (fX9_plan_lp21 n a0 a2 x17 n.1 x19 S6) (fun S21 => bnd (1 : Int32) (fun x63 => cal (fX9_plan_lp65 n a0 x17 n.1 x63 S21) (fun S65 => grd (cD S65 a0 = 10) (cal (fX9_writeRow n S65 a0 x17) (fun S92 => grd (cD S92 a0 = 10) (onn (cR S92 207 a0) (fun b96 => grd (cD S92 b96 = 53) (grd (¬ (x17 < 0 ∨ cN S92 b96 ≤ x17.toNatClampNeg)) (bnd (cA S92 53 b96 x17.toNatClampNeg) (fun v100 => some ((v100 / (16 : Int32)), S92)))))))))))))))))))
set_option maxHeartbeats 8000000 in
set_option maxRecDepth 100000 in
theorem cX9_plan_ok (l : Launch) (D : va_G) (cc : Nat → ClassId) (E : Nat → Nat) (n : Nat × Nat) (S : CS) (a0 : Nat) (a1 : Nat) (a2 : Int32) {r : Int32} {T : CS} (h : fX9_plan n S a0 a1 a2 = some (r, T)) : Ci l yX9_plan wsX9_plan 5 128 D cc E [.ref a0, .ref a1, .int a2] S r T 0 0 := by
  refine C_of (own := RX9) (bb := cX9_plan) (nL := 5) (ret := (some .int)) (by decide) rfl rfl (Nat.le_of_ble_eq_true rfl) ?_
  intro p e s m args below meth c hx hb hr hlocks hml hts hown hnm hA hK hro hw ls hl
  generalize va_A (cPs cc S) (nx S) = A at hA hro hw ⊢
  unfold fX9_plan at h
  have hinX9 : ∀ w ∈ wsX90, w ∈ wsX9_plan := by decide +kernel
  have hl : lv_has ls 5 [(0, .ref a0), (1, .ref a1), (2, .int a2)] := hl
  refine lv_aload_n hx hb dX9_plan_0 rfl (lv_at hl 0 rfl) ?_
  refine lv_aload_n hx hb dX9_plan_1 rfl (lv_at hl 1 rfl) ?_
  obtain ⟨hf1, h⟩ := of_grd h
  obtain ⟨q2, hq2, h⟩ := of_cal h
  obtain ⟨S2, eS2⟩ : ∃ x, x = q2 := ⟨_, rfl⟩
  subst eS2
  refine C_v hA hw (va_runV (As := [.ref a1]) (rest := []) ⟨hx, hb, hml, hown, hts⟩ (cX9_gather_ok l D cc E n S a0 a1 hq2) (cwV 1 hts gX9_plan_X9_gather rfl rfl rfl (by decide +kernel) ⟨Nat.le_of_ble_eq_true rfl, Nat.le_of_ble_eq_true rfl⟩) ⟨cBlind D cc E S _, C_recv hK hw (by omega) (cell_10 hf1) (r := (RX9, TX9, 10)) rfl, fun U hU hW => ⟨rfl, C_pre hA hK hro hw U hU hW⟩⟩ rfl rfl hl.1 rfl (lv_room (Nat.le_of_ble_eq_true rfl)) dX9_plan_2 ⟨Nat.le_refl _, Nat.le_refl _⟩) (fun H locs hw => ?_)
  refine W.widen (k := 0) (n := 0) (Nat.le_refl _) (Nat.le_refl _) ?_
  refine lv_aload_n hx hb dX9_plan_5 rfl (lv_at hl 0 rfl) ?_
  obtain ⟨hf2, h⟩ := of_grd h
  obtain ⟨q6, hq6, h⟩ := of_cal h
  obtain ⟨S6, eS6⟩ : ∃ x, x = q6 := ⟨_, rfl⟩
  subst eS6
  refine C_v hA hw (va_runV (As := []) (rest := []) ⟨hx, hb, hml, hown, hts⟩ (cX9_weighSets_ok l D cc E n S2 a0 hq6) (cwV 0 hts gX9_plan_X9_weighSets rfl rfl rfl (by decide +kernel) ⟨Nat.le_of_ble_eq_true rfl, Nat.le_of_ble_eq_true rfl⟩) ⟨cBlind D cc E S2 _, C_recv hK hw (by omega) (cell_10 hf2) (r := (RX9, TX9, 10)) rfl, fun U hU hW => ⟨rfl, C_pre hA hK hro hw U hU hW⟩⟩ rfl rfl hl.1 rfl (lv_room (Nat.le_of_ble_eq_true rfl)) dX9_plan_6 ⟨Nat.le_refl _, Nat.le_refl _⟩) (fun H locs hw => ?_)
  refine W.widen (k := 0) (n := 0) (Nat.le_refl _) (Nat.le_refl _) ?_
  refine lv_iconst (v := 1) hx hb dX9_plan_9 (by decide) ?_
  refine lv_aload_n hx hb dX9_plan_10 rfl (lv_at hl 0 rfl) ?_
  obtain ⟨hf3, h⟩ := of_grd h
  refine C_get hx hb hts hinX9 hown hK hw (cell_10 hf3) (by omega) rfl 3 (by decide) (index := 23) (by decide +kernel) rfl rfl dX9_plan_11 ?_
  refine lv_topi (fun v11 ev11 => ?_)
  have h := of_bnd h ev11
  refine lv_ishl hx hb dX9_plan_14 ?_
  refine lv_iconst (v := 1) hx hb dX9_plan_15 (by decide) ?_
  refine lv_isub hx hb dX9_plan_16 ?_
  refine lv_topi (fun x17 ex17 => ?_)
  have h := of_bnd h ex17
  refine lv_istore_n (lv' := [(3, .int x17), (0, .ref a0), (1, .ref a1), (2, .int a2)]) hx hb dX9_plan_17 rfl hl (by decide) rfl (fun ls hl => ?_)
  refine lv_iconst (v := 1) hx hb dX9_plan_18 (by decide) ?_
  refine lv_topi (fun x19 ex19 => ?_)
  have h := of_bnd h ex19
  refine lv_istore (lv' := [(4, .int x19), (3, .int x17), (0, .ref a0), (1, .ref a1), (2, .int a2)]) hx hb dX9_plan_19 hl (by decide) rfl (fun ls hl => ?_)
  have lp21 : ∀ (f0 : Nat) (f2 : Int32) (f3 : Int32) (k : Nat) (l4 : Int32) (S : CS) (q : CS) , fX9_plan_lp21 n f0 f2 f3 k l4 S = some q → ∀ (H : Heap) (locs : List Loc), cWd D cc A s.heap S H locs → ∀ ls : Array Slot, lv_has ls 5 [(0, .ref f0), (2, .int f2), (3, .int f3), (4, .int l4)] → (∀  (S1 : CS), S1 = q → ∀ (H : Heap) (locs : List Loc), cWd D cc A s.heap S1 H locs → ∀ ls : Array Slot, lv_has ls 5 [(0, .ref f0), (3, .int f3)] → W p l e (cRm 5 128 0 0) s m args below meth c H locs (0) (0) (MQ below (va_Qi (fun x u => x = r ∧ u = T) (cAft D cc A) A) args s 0 0 A) (F0 m 62 ls [])) → W p l e (cRm 5 128 0 0) s m args below meth c H locs (0) (0) (MQ below (va_Qi (fun x u => x = r ∧ u = T) (cAft D cc A) A) args s 0 0 A) (F0 m 21 ls []) := by
    intro f0 f2 f3 k
    induction k with
    | zero => intro l4 S q h; rw [fX9_plan_lp21] at h; cases h
    | succ k ih21 =>
      intro l4 S q h H locs hw ls hl kx21_0
      rw [fX9_plan_lp21] at h
      refine lv_iload hx hb dX9_plan_21 (lv_at hl 3 rfl) ?_
      refine lv_iload_n hx hb dX9_plan_23 rfl (lv_at hl 2 rfl) ?_
      refine lv_icmp_gt (tgt := 62) hx hb dX9_plan_24 (by decide) (fun c24 => ?_) (fun c24 => ?_)
      · have h := of_it h c24
        exact kx21_0 S (Option.some.inj h) _ _ hw ls (lv_sub hl [0, 2] rfl)
      · have h := of_if h c24
        refine lv_aload_n hx hb dX9_plan_27 rfl (lv_at hl 0 rfl) ?_
        obtain ⟨hf4, h⟩ := of_grd h
        obtain ⟨b28, eb28, h⟩ := of_onn h
        refine C_get hx hb hts hinX9 hown hK hw (cell_10 hf4) (by omega) rfl 6 (by decide) (index := 33) (by decide +kernel) rfl (v := .ref b28) (congrArg (fun o => some (va_rf o)) eb28) dX9_plan_28 ?_
        refine lv_iload hx hb dX9_plan_31 (lv_at hl 3 rfl) ?_
        refine lv_aload_n hx hb dX9_plan_33 rfl (lv_at hl 0 rfl) ?_
        obtain ⟨b34, eb34, h⟩ := of_onn h
        refine C_get hx hb hts hinX9 hown hK hw (cell_10 hf4) (by omega) rfl 4 (by decide) (index := 27) (by decide +kernel) rfl (v := .ref b34) (congrArg (fun o => some (va_rf o)) eb34) dX9_plan_34 ?_
        refine lv_iload hx hb dX9_plan_37 (lv_at hl 3 rfl) ?_
        obtain ⟨hf5, h⟩ := of_grd h
        obtain ⟨hi39, h⟩ := of_grd h
        refine C_iald hx hb hK hw hf5 (by decide) (by decide) hi39 dX9_plan_39 ?_
        refine lv_topi (fun v39 ev39 => ?_)
        have h := of_bnd h ev39
        refine lv_iload_n hx hb dX9_plan_40 rfl (lv_at hl 1 rfl) ?_
        refine lv_icmp_le (tgt := 49) hx hb dX9_plan_41 (by decide) (fun c41 => ?_) (fun c41 => ?_)
        · have h := of_it h c41
          refine lv_aload_n hx hb dX9_plan_49 rfl (lv_at hl 0 rfl) ?_
          refine lv_iload hx hb dX9_plan_50 (lv_at hl 3 rfl) ?_
          obtain ⟨q52, hq52, h⟩ := of_cal h
          obtain ⟨r52, S52⟩ := q52
          have h := of_un2 h
          refine C_i hA hw (va_runV (As := [.int l4]) (rest := [.int l4, .ref b28]) ⟨hx, hb, hml, hown, hts⟩ (cX9_shortestRound_ok l D cc E n S f0 l4 hq52) (cwV 1 hts gX9_plan_X9_shortestRound rfl rfl rfl (by decide +kernel) ⟨Nat.le_of_ble_eq_true rfl, Nat.le_of_ble_eq_true rfl⟩) ⟨cBlind D cc E S _, C_recv hK hw (by omega) (cell_10 hf4) (r := (RX9, TX9, 10)) rfl, fun U hU hW => ⟨rfl, C_pre hA hK hro hw U hU hW⟩⟩ rfl rfl hl.1 rfl (lv_room (Nat.le_of_ble_eq_true rfl)) dX9_plan_52 ⟨Nat.le_refl _, Nat.le_refl _⟩) (fun H locs hw => ?_)
          refine W.widen (k := 0) (n := 0) (Nat.le_refl _) (Nat.le_refl _) ?_
          obtain ⟨hf6, h⟩ := of_grd h
          obtain ⟨hi55, h⟩ := of_grd h
          refine C_iast hx hb hK hw hf6 (by decide) (by decide) hi55 dX9_plan_55 (fun S55 H locs eS55 hw => ?_)
          have h := of_bnd h eS55
          obtain ⟨x56, ex56⟩ : ∃ y : Int32, y = l4 + 1 := ⟨_, rfl⟩
          have h := of_bnd h ex56
          refine lv_iinc (v := x56) (lv' := [(4, .int x56), (0, .ref f0), (2, .int f2), (3, .int f3)]) hx hb dX9_plan_56 hl (k := 3) rfl (by rw [ex56]; rfl) (by decide) rfl (fun ls hl => ?_)
          refine lv_goto (tgt := 21) hx hb dX9_plan_59 (by decide) ?_
          exact ih21 x56 S55 _ h _ _ hw ls (lv_sub hl [1, 2, 3, 0] rfl) kx21_0
        · have h := of_if h c41
          refine lv_ldc (v := 1048576) hx hb hown (hts (.constant RX9 56 (1048576)) (by decide +kernel)) dX9_plan_44 ?_
          refine lv_goto (tgt := 55) hx hb dX9_plan_46 (by decide) ?_
          obtain ⟨hf7, h⟩ := of_grd h
          obtain ⟨hi55, h⟩ := of_grd h
          refine C_iast hx hb hK hw hf7 (by decide) (by decide) hi55 dX9_plan_55 (fun S55 H locs eS55 hw => ?_)
          have h := of_bnd h eS55
          obtain ⟨x56, ex56⟩ : ∃ y : Int32, y = l4 + 1 := ⟨_, rfl⟩
          have h := of_bnd h ex56
          refine lv_iinc (v := x56) (lv' := [(4, .int x56), (0, .ref f0), (2, .int f2), (3, .int f3)]) hx hb dX9_plan_56 hl (k := 3) rfl (by rw [ex56]; rfl) (by decide) rfl (fun ls hl => ?_)
          refine lv_goto (tgt := 21) hx hb dX9_plan_59 (by decide) ?_
          exact ih21 x56 S55 _ h _ _ hw ls (lv_sub hl [1, 2, 3, 0] rfl) kx21_0
  obtain ⟨q21, hq21, h⟩ := of_cal h
  refine lp21 a0 a2 x17 n.1 x19 S6 q21  hq21 _ _ hw ls (lv_sub hl [2, 4, 1, 0] rfl) ?_
  · intro S21 eq H locs hw ls hl
    subst eq
    refine lv_iconst (v := 1) hx hb dX9_plan_62 (by decide) ?_
    refine lv_topi (fun x63 ex63 => ?_)
    have h := of_bnd h ex63
    refine lv_istore (lv' := [(4, .int x63), (0, .ref a0), (3, .int x17)]) hx hb dX9_plan_63 hl (by decide) rfl (fun ls hl => ?_)
    have lp65 : ∀ (f0 : Nat) (f3 : Int32) (k : Nat) (l4 : Int32) (S : CS) (q : CS) , fX9_plan_lp65 n f0 f3 k l4 S = some q → ∀ (H : Heap) (locs : List Loc), cWd D cc A s.heap S H locs → ∀ ls : Array Slot, lv_has ls 5 [(0, .ref f0), (3, .int f3), (4, .int l4)] → (∀  (S1 : CS), S1 = q → ∀ (H : Heap) (locs : List Loc), cWd D cc A s.heap S1 H locs → ∀ ls : Array Slot, lv_has ls 5 [(0, .ref f0), (3, .int f3)] → W p l e (cRm 5 128 0 0) s m args below meth c H locs (0) (0) (MQ below (va_Qi (fun x u => x = r ∧ u = T) (cAft D cc A) A) args s 0 0 A) (F0 m 90 ls [])) → W p l e (cRm 5 128 0 0) s m args below meth c H locs (0) (0) (MQ below (va_Qi (fun x u => x = r ∧ u = T) (cAft D cc A) A) args s 0 0 A) (F0 m 65 ls []) := by
      intro f0 f3 k
      induction k with
      | zero => intro l4 S q h; rw [fX9_plan_lp65] at h; cases h
      | succ k ih65 =>
        intro l4 S q h H locs hw ls hl kx65_0
        rw [fX9_plan_lp65] at h
        refine lv_iload hx hb dX9_plan_65 (lv_at hl 2 rfl) ?_
        refine lv_iload_n hx hb dX9_plan_67 rfl (lv_at hl 1 rfl) ?_
        refine lv_icmp_gt (tgt := 90) hx hb dX9_plan_68 (by decide) (fun c68 => ?_) (fun c68 => ?_)
        · have h := of_it h c68
          exact kx65_0 S (Option.some.inj h) _ _ hw ls (lv_sub hl [0, 1] rfl)
        · have h := of_if h c68
          refine lv_aload_n hx hb dX9_plan_71 rfl (lv_at hl 0 rfl) ?_
          obtain ⟨hf8, h⟩ := of_grd h
          obtain ⟨b72, eb72, h⟩ := of_onn h
          refine C_get hx hb hts hinX9 hown hK hw (cell_10 hf8) (by omega) rfl 7 (by decide) (index := 36) (by decide +kernel) rfl (v := .ref b72) (congrArg (fun o => some (va_rf o)) eb72) dX9_plan_72 ?_
          refine lv_iload hx hb dX9_plan_75 (lv_at hl 2 rfl) ?_
          refine lv_aload_n hx hb dX9_plan_77 rfl (lv_at hl 0 rfl) ?_
          refine lv_iload hx hb dX9_plan_78 (lv_at hl 2 rfl) ?_
          obtain ⟨q80, hq80, h⟩ := of_cal h
          refine C_i hA hw (va_runV (As := [.int l4]) (rest := [.int l4, .ref b72]) ⟨hx, hb, hml, hown, hts⟩ (cX9_cheapestParting_ok l D cc E n S f0 l4 hq80) (cwV 1 hts gX9_plan_X9_cheapestParting rfl rfl rfl (by decide +kernel) ⟨Nat.le_of_ble_eq_true rfl, Nat.le_of_ble_eq_true rfl⟩) ⟨cBlind D cc E S _, C_recv hK hw (by omega) (cell_10 hf8) (r := (RX9, TX9, 10)) rfl, fun U hU hW => ⟨rfl, C_pre hA hK hro hw U hU hW⟩⟩ rfl rfl hl.1 rfl (lv_room (Nat.le_of_ble_eq_true rfl)) dX9_plan_80 ⟨Nat.le_refl _, Nat.le_refl _⟩) (fun H locs hw => ?_)
          refine W.widen (k := 0) (n := 0) (Nat.le_refl _) (Nat.le_refl _) ?_
          obtain ⟨hf9, h⟩ := of_grd h
          obtain ⟨hi83, h⟩ := of_grd h
          refine C_iast hx hb hK hw hf9 (by decide) (by decide) hi83 dX9_plan_83 (fun S83 H locs eS83 hw => ?_)
          have h := of_bnd h eS83
          obtain ⟨x84, ex84⟩ : ∃ y : Int32, y = l4 + 1 := ⟨_, rfl⟩
          have h := of_bnd h ex84
          refine lv_iinc (v := x84) (lv' := [(4, .int x84), (0, .ref f0), (3, .int f3)]) hx hb dX9_plan_84 hl (k := 2) rfl (by rw [ex84]; rfl) (by decide) rfl (fun ls hl => ?_)
          refine lv_goto (tgt := 65) hx hb dX9_plan_87 (by decide) ?_
          exact ih65 x84 S83 _ h _ _ hw ls (lv_sub hl [1, 2, 0] rfl) kx65_0
    obtain ⟨q65, hq65, h⟩ := of_cal h
    refine lp65 a0 x17 n.1 x63 S21 q65  hq65 _ _ hw ls (lv_sub hl [1, 2, 0] rfl) ?_
    · intro S65 eq H locs hw ls hl
      subst eq
      refine lv_aload_n hx hb dX9_plan_90 rfl (lv_at hl 0 rfl) ?_
      refine lv_iload_n hx hb dX9_plan_91 rfl (lv_at hl 1 rfl) ?_
      obtain ⟨hf10, h⟩ := of_grd h
      obtain ⟨q92, hq92, h⟩ := of_cal h
      obtain ⟨S92, eS92⟩ : ∃ x, x = q92 := ⟨_, rfl⟩
      subst eS92
      refine C_v hA hw (va_runV (As := [.int x17]) (rest := []) ⟨hx, hb, hml, hown, hts⟩ (cX9_writeRow_ok l D cc E n S65 a0 x17 hq92) (cwV 1 hts gX9_plan_X9_writeRow rfl rfl rfl (by decide +kernel) ⟨Nat.le_of_ble_eq_true rfl, Nat.le_of_ble_eq_true rfl⟩) ⟨cBlind D cc E S65 _, C_recv hK hw (by omega) (cell_10 hf10) (r := (RX9, TX9, 10)) rfl, fun U hU hW => ⟨rfl, C_pre hA hK hro hw U hU hW⟩⟩ rfl rfl hl.1 rfl (lv_room (Nat.le_of_ble_eq_true rfl)) dX9_plan_92 ⟨Nat.le_refl _, Nat.le_refl _⟩) (fun H locs hw => ?_)
      refine W.widen (k := 0) (n := 0) (Nat.le_refl _) (Nat.le_refl _) ?_
      refine lv_aload_n hx hb dX9_plan_95 rfl (lv_at hl 0 rfl) ?_
      obtain ⟨hf11, h⟩ := of_grd h
      obtain ⟨b96, eb96, h⟩ := of_onn h
      refine C_get hx hb hts hinX9 hown hK hw (cell_10 hf11) (by omega) rfl 7 (by decide) (index := 36) (by decide +kernel) rfl (v := .ref b96) (congrArg (fun o => some (va_rf o)) eb96) dX9_plan_96 ?_
      refine lv_iload_n hx hb dX9_plan_99 rfl (lv_at hl 1 rfl) ?_
      obtain ⟨hf12, h⟩ := of_grd h
      obtain ⟨hi100, h⟩ := of_grd h
      refine C_iald hx hb hK hw hf12 (by decide) (by decide) hi100 dX9_plan_100 ?_
      refine lv_topi (fun v100 ev100 => ?_)
      have h := of_bnd h ev100
      refine lv_bipush (v := 16) hx hb dX9_plan_101 (by decide) ?_
      refine lv_idiv hx hb dX9_plan_103 (by decide) ?_
      obtain ⟨rfl, rfl⟩ := of_ret2 h
      exact C_iret hx hb hr hlocks hw (by rfl) dX9_plan_104
