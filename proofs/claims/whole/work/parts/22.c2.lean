def fX6_init (n : Nat × Nat) (S : CS) (a0 : Nat) : Option (CS × Nat × Nat) :=
  adc 1 30 (bnd (nx S) (fun q7 => bnd (nw S 42 30) (fun S7 => grd (cD S7 a0 = 7) (bnd (uR S7 140 a0 (some q7)) (fun S9 => adc 1 30 (bnd (nx S9) (fun q15 => bnd (nw S9 43 30) (fun S15 => grd (cD S15 a0 = 7) (bnd (uR S15 141 a0 (some q15)) (fun S17 => adc 1 30 (bnd (nx S17) (fun q23 => bnd (nw S17 44 30) (fun S23 => grd (cD S23 a0 = 7) (bnd (uR S23 142 a0 (some q23)) (fun S25 => adc 1 30 (bnd (nx S25) (fun q31 => bnd (nw S25 45 30) (fun S31 => grd (cD S31 a0 = 7) (bnd (uR S31 143 a0 (some q31)) (fun S33 => bnd (uI S33 144 a0 (0 : Int32)) (fun S38 => some (S38, 0, 0))))))))))))))))))))))
set_option maxHeartbeats 8000000 in
set_option maxRecDepth 100000 in
theorem cX6_init_ok (l : Launch) (D : va_G) (cc : Nat → ClassId) (E : Nat → Nat) (n : Nat × Nat) (S : CS) (a0 : Nat) {T : CS} {mc ms : Nat} (h : fX6_init n S a0 = some (T, mc, ms)) : Cv l yX6_init wsX6_init 1 20 D cc E [.ref a0] S T mc ms := by
  refine C_of (own := RX6) (bb := cX6_init) (nL := 1) (ret := none) (by decide) rfl rfl (Nat.le_of_ble_eq_true rfl) ?_
  intro p e s m args below meth c hx hb hr hlocks hml hts hown hnm hA hK hro hw ls hl
  generalize va_A (cPs cc S) (nx S) = A at hA hro hw ⊢
  unfold fX6_init at h
  have hinX6 : ∀ w ∈ wsX60, w ∈ wsX6_init := by decide +kernel
  have hl : lv_has ls 1 [(0, .ref a0)] := hl
  refine W.widen (k := mc - mc) (n := ms - ms) (by omega) (by omega) ?_
  have hk1 : mc ≤ mc := Nat.le_refl _
  have hk2 : ms ≤ ms := Nat.le_refl _
  refine lv_aload_n hx hb dX6_init_0 rfl (lv_at hl 0 rfl) ?_
  refine W.objInit hx hb hown (hts (.methodLink RX6 3 objectInit) (by decide +kernel)) (hts (.instanceMethod objectInit) (by decide +kernel)) (hts (.code objectInit ⟨#[0xb1]⟩ 1 none) (by decide +kernel)) rfl (by rw [hml]; exact hl.1) rfl dX6_init_1 (Nat.le_of_ble_eq_true rfl) (Nat.le_of_ble_eq_true rfl) ?_
  refine W.eq (g2 := F0 m 4 ls []) rfl ?_
  refine lv_aload_n hx hb dX6_init_4 rfl (lv_at hl 0 rfl) ?_
  refine lv_bipush (v := 30) hx hb dX6_init_5 (by decide) ?_
  obtain ⟨kc1, ks1, h, ek1, ek2⟩ := of_adc h
  refine C_newa (d := 42) hx hb hts (by decide +kernel) (ty := .int) rfl hK hA hw 0 rfl (fun _ _ => rfl) (N' := 30) (fun _ => rfl) (cnew_A S (by decide) (by decide)) (by decide) (by decide) (by decide) (by decide) (by show _ ≤ mc; omega) (by show _ ≤ ms; omega) dX6_init_7 (fun q7 S7 H eq7 eS7 hw => ?_)
  have h := of_bnd h eq7
  have h := of_bnd h eS7
  refine W.widen (k := mc - kc1) (n := ms - ks1) (by omega) (by omega) ?_
  have hk1 : kc1 ≤ mc := by omega
  have hk2 : ks1 ≤ ms := by omega
  have hf2 : cD S7 q7 = 42 := by rw [eS7, eq7]; exact cD_new _ _ _
  obtain ⟨hf3, h⟩ := of_grd h
  refine C_putF hx hb hts hinX6 tyX6 tyX6_ok nmX6 hown hK hw (cell_7 hf3) (by omega) rfl 0 (by decide) (index := 9) (by decide +kernel) rfl rfl hnm rfl (ty := (.array .int)) (by decide +kernel) rfl rfl (Nat.le_of_ble_eq_true rfl) (S' := uR S7 140 a0 (some q7)) rfl rfl rfl (pu_140 hf3 (some q7)) (fun b hb => off_uR hb) dX6_init_9 (fun S9 H locs eS9 hw => ?_)
  have h := of_bnd h eS9
  refine lv_aload_n hx hb dX6_init_12 rfl (lv_at hl 0 rfl) ?_
  refine lv_bipush (v := 30) hx hb dX6_init_13 (by decide) ?_
  obtain ⟨kc4, ks4, h, ek1, ek2⟩ := of_adc h
  refine C_newa (d := 43) hx hb hts (by decide +kernel) (ty := .int) rfl hK hA hw 0 rfl (fun _ _ => rfl) (N' := 30) (fun _ => rfl) (cnew_A S9 (by decide) (by decide)) (by decide) (by decide) (by decide) (by decide) (by show _ ≤ mc; omega) (by show _ ≤ ms; omega) dX6_init_15 (fun q15 S15 H eq15 eS15 hw => ?_)
  have h := of_bnd h eq15
  have h := of_bnd h eS15
  refine W.widen (k := mc - kc4) (n := ms - ks4) (by omega) (by omega) ?_
  have hk1 : kc4 ≤ mc := by omega
  have hk2 : ks4 ≤ ms := by omega
  have hf5 : cD S15 q15 = 43 := by rw [eS15, eq15]; exact cD_new _ _ _
  obtain ⟨hf6, h⟩ := of_grd h
  refine C_putF hx hb hts hinX6 tyX6 tyX6_ok nmX6 hown hK hw (cell_7 hf6) (by omega) rfl 1 (by decide) (index := 15) (by decide +kernel) rfl rfl hnm rfl (ty := (.array .int)) (by decide +kernel) rfl rfl (Nat.le_of_ble_eq_true rfl) (S' := uR S15 141 a0 (some q15)) rfl rfl rfl (pu_141 hf6 (some q15)) (fun b hb => off_uR hb) dX6_init_17 (fun S17 H locs eS17 hw => ?_)
  have h := of_bnd h eS17
  refine lv_aload_n hx hb dX6_init_20 rfl (lv_at hl 0 rfl) ?_
  refine lv_bipush (v := 30) hx hb dX6_init_21 (by decide) ?_
  obtain ⟨kc7, ks7, h, ek1, ek2⟩ := of_adc h
  refine C_newa (d := 44) hx hb hts (by decide +kernel) (ty := .int) rfl hK hA hw 0 rfl (fun _ _ => rfl) (N' := 30) (fun _ => rfl) (cnew_A S17 (by decide) (by decide)) (by decide) (by decide) (by decide) (by decide) (by show _ ≤ mc; omega) (by show _ ≤ ms; omega) dX6_init_23 (fun q23 S23 H eq23 eS23 hw => ?_)
  have h := of_bnd h eq23
  have h := of_bnd h eS23
  refine W.widen (k := mc - kc7) (n := ms - ks7) (by omega) (by omega) ?_
  have hk1 : kc7 ≤ mc := by omega
  have hk2 : ks7 ≤ ms := by omega
  have hf8 : cD S23 q23 = 44 := by rw [eS23, eq23]; exact cD_new _ _ _
  obtain ⟨hf9, h⟩ := of_grd h
  refine C_putF hx hb hts hinX6 tyX6 tyX6_ok nmX6 hown hK hw (cell_7 hf9) (by omega) rfl 2 (by decide) (index := 18) (by decide +kernel) rfl rfl hnm rfl (ty := (.array .int)) (by decide +kernel) rfl rfl (Nat.le_of_ble_eq_true rfl) (S' := uR S23 142 a0 (some q23)) rfl rfl rfl (pu_142 hf9 (some q23)) (fun b hb => off_uR hb) dX6_init_25 (fun S25 H locs eS25 hw => ?_)
  have h := of_bnd h eS25
  refine lv_aload_n hx hb dX6_init_28 rfl (lv_at hl 0 rfl) ?_
  refine lv_bipush (v := 30) hx hb dX6_init_29 (by decide) ?_
  obtain ⟨kc10, ks10, h, ek1, ek2⟩ := of_adc h
  refine C_newa (d := 45) hx hb hts (by decide +kernel) (ty := .int) rfl hK hA hw 0 rfl (fun _ _ => rfl) (N' := 30) (fun _ => rfl) (cnew_A S25 (by decide) (by decide)) (by decide) (by decide) (by decide) (by decide) (by show _ ≤ mc; omega) (by show _ ≤ ms; omega) dX6_init_31 (fun q31 S31 H eq31 eS31 hw => ?_)
  have h := of_bnd h eq31
  have h := of_bnd h eS31
  refine W.widen (k := mc - kc10) (n := ms - ks10) (by omega) (by omega) ?_
  have hk1 : kc10 ≤ mc := by omega
  have hk2 : ks10 ≤ ms := by omega
  have hf11 : cD S31 q31 = 45 := by rw [eS31, eq31]; exact cD_new _ _ _
  obtain ⟨hf12, h⟩ := of_grd h
  refine C_putF hx hb hts hinX6 tyX6 tyX6_ok nmX6 hown hK hw (cell_7 hf12) (by omega) rfl 3 (by decide) (index := 21) (by decide +kernel) rfl rfl hnm rfl (ty := (.array .int)) (by decide +kernel) rfl rfl (Nat.le_of_ble_eq_true rfl) (S' := uR S31 143 a0 (some q31)) rfl rfl rfl (pu_143 hf12 (some q31)) (fun b hb => off_uR hb) dX6_init_33 (fun S33 H locs eS33 hw => ?_)
  have h := of_bnd h eS33
  refine lv_aload_n hx hb dX6_init_36 rfl (lv_at hl 0 rfl) ?_
  refine lv_iconst (v := 0) hx hb dX6_init_37 (by decide) ?_
  have hf13 : cD S33 a0 = 7 := by rw [eS33]; exact hf12
  refine C_put hx hb hts hinX6 tyX6 tyX6_ok nmX6 hown hK hw (cell_7 hf13) (by omega) rfl 4 (by decide) (index := 24) (by decide +kernel) rfl rfl (ty := .int) (by decide +kernel) rfl rfl (Nat.le_of_ble_eq_true rfl) (S' := uI S33 144 a0 (0 : Int32)) rfl rfl rfl (pu_144 hf13 (0 : Int32)) (fun b hb => off_uI hb) dX6_init_38 (fun S38 H locs eS38 hw => ?_)
  have h := of_bnd h eS38
  obtain ⟨rfl, ek1, ek2⟩ := of_retV h
  refine W.widen (k := mc) (n := ms) (by omega) (by omega) ?_
  exact C_vret hx hb hr hlocks hw dX6_init_41

def fX6_add (n : Nat × Nat) (S : CS) (a0 : Nat) (a1 : Int32) (a2 : Int32) (a3 : Int32) (a4 : Int32) : Option (CS) :=
  grd (cD S a0 = 7) (bnd (cI S 144 a0) (fun v1 => if (30 : Int32) ≤ v1 then 
    some S
    else onn (cR S 140 a0) (fun b10 => bnd (cI S 144 a0) (fun v14 => grd (cD S b10 = 42) (grd (¬ (v14 < 0 ∨ cN S b10 ≤ v14.toNatClampNeg)) (bnd (uA S 42 b10 v14.toNatClampNeg a1) (fun S18 => onn (cR S18 141 a0) (fun b20 => bnd (cI S18 144 a0) (fun v24 => grd (cD S18 b20 = 43) (grd (¬ (v24 < 0 ∨ cN S18 b20 ≤ v24.toNatClampNeg)) (bnd (uA S18 43 b20 v24.toNatClampNeg a2) (fun S28 => onn (cR S28 142 a0) (fun b30 => bnd (cI S28 144 a0) (fun v34 => grd (cD S28 b30 = 44) (grd (¬ (v34 < 0 ∨ cN S28 b30 ≤ v34.toNatClampNeg)) (bnd (uA S28 44 b30 v34.toNatClampNeg a3) (fun S38 => onn (cR S38 143 a0) (fun b40 => bnd (cI S38 144 a0) (fun v44 => grd (cD S38 b40 = 45) (grd (¬ (v44 < 0 ∨ cN S38 b40 ≤ v44.toNatClampNeg)) (bnd (uA S38 45 b40 v44.toNatClampNeg a4) (fun S49 => bnd (cI S49 144 a0) (fun v52 => bnd (uI S49 144 a0 (v52 + (1 : Int32))) (fun S57 => some S57))))))))))))))))))))))))
set_option maxHeartbeats 8000000 in
set_option maxRecDepth 100000 in
theorem cX6_add_ok (l : Launch) (D : va_G) (cc : Nat → ClassId) (E : Nat → Nat) (n : Nat × Nat) (S : CS) (a0 : Nat) (a1 : Int32) (a2 : Int32) (a3 : Int32) (a4 : Int32) {T : CS} (h : fX6_add n S a0 a1 a2 a3 a4 = some T) : Cv l yX6_add wsX6_add 0 0 D cc E [.ref a0, .int a1, .int a2, .int a3, .int a4] S T 0 0 := by
  refine C_of (own := RX6) (bb := cX6_add) (nL := 5) (ret := none) (by decide) rfl rfl (Nat.le_of_ble_eq_true rfl) ?_
  intro p e s m args below meth c hx hb hr hlocks hml hts hown hnm hA hK hro hw ls hl
  generalize va_A (cPs cc S) (nx S) = A at hA hro hw ⊢
  unfold fX6_add at h
  have hinX6 : ∀ w ∈ wsX60, w ∈ wsX6_add := by decide +kernel
  have hl : lv_has ls 5 [(0, .ref a0), (1, .int a1), (2, .int a2), (3, .int a3), (4, .int a4)] := hl
  refine lv_aload_n hx hb dX6_add_0 rfl (lv_at hl 0 rfl) ?_
  obtain ⟨hf1, h⟩ := of_grd h
  refine C_get hx hb hts hinX6 hown hK hw (cell_7 hf1) (by omega) rfl 4 (by decide) (index := 24) (by decide +kernel) rfl rfl dX6_add_1 ?_
  refine lv_topi (fun v1 ev1 => ?_)
  have h := of_bnd h ev1
  refine lv_bipush (v := 30) hx hb dX6_add_4 (by decide) ?_
  refine lv_icmp_ge (tgt := 60) hx hb dX6_add_6 (by decide) (fun c6 => ?_) (fun c6 => ?_)
  · have h := of_it h c6
    obtain rfl := Option.some.inj h
    exact C_vret hx hb hr hlocks hw dX6_add_60
  · have h := of_if h c6
    refine lv_aload_n hx hb dX6_add_9 rfl (lv_at hl 0 rfl) ?_
    obtain ⟨b10, eb10, h⟩ := of_onn h
    refine C_get hx hb hts hinX6 hown hK hw (cell_7 hf1) (by omega) rfl 0 (by decide) (index := 9) (by decide +kernel) rfl (v := .ref b10) (congrArg (fun o => some (va_rf o)) eb10) dX6_add_10 ?_
    refine lv_aload_n hx hb dX6_add_13 rfl (lv_at hl 0 rfl) ?_
    refine C_get hx hb hts hinX6 hown hK hw (cell_7 hf1) (by omega) rfl 4 (by decide) (index := 24) (by decide +kernel) rfl rfl dX6_add_14 ?_
    refine lv_topi (fun v14 ev14 => ?_)
    have h := of_bnd h ev14
    refine lv_iload_n hx hb dX6_add_17 rfl (lv_at hl 1 rfl) ?_
    obtain ⟨hf2, h⟩ := of_grd h
    obtain ⟨hi18, h⟩ := of_grd h
    refine C_iast hx hb hK hw hf2 (by decide) (by decide) hi18 dX6_add_18 (fun S18 H locs eS18 hw => ?_)
    have h := of_bnd h eS18
    refine lv_aload_n hx hb dX6_add_19 rfl (lv_at hl 0 rfl) ?_
    have hf3 : cD S18 a0 = 7 := by rw [eS18]; exact hf1
    obtain ⟨b20, eb20, h⟩ := of_onn h
    refine C_get hx hb hts hinX6 hown hK hw (cell_7 hf3) (by omega) rfl 1 (by decide) (index := 15) (by decide +kernel) rfl (v := .ref b20) (congrArg (fun o => some (va_rf o)) eb20) dX6_add_20 ?_
    refine lv_aload_n hx hb dX6_add_23 rfl (lv_at hl 0 rfl) ?_
    refine C_get hx hb hts hinX6 hown hK hw (cell_7 hf3) (by omega) rfl 4 (by decide) (index := 24) (by decide +kernel) rfl rfl dX6_add_24 ?_
    refine lv_topi (fun v24 ev24 => ?_)
    have h := of_bnd h ev24
    refine lv_iload_n hx hb dX6_add_27 rfl (lv_at hl 2 rfl) ?_
    obtain ⟨hf4, h⟩ := of_grd h
    obtain ⟨hi28, h⟩ := of_grd h
    refine C_iast hx hb hK hw hf4 (by decide) (by decide) hi28 dX6_add_28 (fun S28 H locs eS28 hw => ?_)
    have h := of_bnd h eS28
    refine lv_aload_n hx hb dX6_add_29 rfl (lv_at hl 0 rfl) ?_
    have hf5 : cD S28 a0 = 7 := by rw [eS28]; exact hf3
    obtain ⟨b30, eb30, h⟩ := of_onn h
    refine C_get hx hb hts hinX6 hown hK hw (cell_7 hf5) (by omega) rfl 2 (by decide) (index := 18) (by decide +kernel) rfl (v := .ref b30) (congrArg (fun o => some (va_rf o)) eb30) dX6_add_30 ?_
    refine lv_aload_n hx hb dX6_add_33 rfl (lv_at hl 0 rfl) ?_
    refine C_get hx hb hts hinX6 hown hK hw (cell_7 hf5) (by omega) rfl 4 (by decide) (index := 24) (by decide +kernel) rfl rfl dX6_add_34 ?_
    refine lv_topi (fun v34 ev34 => ?_)
    have h := of_bnd h ev34
    refine lv_iload_n hx hb dX6_add_37 rfl (lv_at hl 3 rfl) ?_
    obtain ⟨hf6, h⟩ := of_grd h
    obtain ⟨hi38, h⟩ := of_grd h
    refine C_iast hx hb hK hw hf6 (by decide) (by decide) hi38 dX6_add_38 (fun S38 H locs eS38 hw => ?_)
    have h := of_bnd h eS38
    refine lv_aload_n hx hb dX6_add_39 rfl (lv_at hl 0 rfl) ?_
    have hf7 : cD S38 a0 = 7 := by rw [eS38]; exact hf5
    obtain ⟨b40, eb40, h⟩ := of_onn h
    refine C_get hx hb hts hinX6 hown hK hw (cell_7 hf7) (by omega) rfl 3 (by decide) (index := 21) (by decide +kernel) rfl (v := .ref b40) (congrArg (fun o => some (va_rf o)) eb40) dX6_add_40 ?_
    refine lv_aload_n hx hb dX6_add_43 rfl (lv_at hl 0 rfl) ?_
    refine C_get hx hb hts hinX6 hown hK hw (cell_7 hf7) (by omega) rfl 4 (by decide) (index := 24) (by decide +kernel) rfl rfl dX6_add_44 ?_
    refine lv_topi (fun v44 ev44 => ?_)
    have h := of_bnd h ev44
    refine lv_iload hx hb dX6_add_47 (lv_at hl 4 rfl) ?_
    obtain ⟨hf8, h⟩ := of_grd h
    obtain ⟨hi49, h⟩ := of_grd h
    refine C_iast hx hb hK hw hf8 (by decide) (by decide) hi49 dX6_add_49 (fun S49 H locs eS49 hw => ?_)
    have h := of_bnd h eS49
    refine lv_aload_n hx hb dX6_add_50 rfl (lv_at hl 0 rfl) ?_
    refine lv_dup hx hb dX6_add_51 rfl ?_
    have hf9 : cD S49 a0 = 7 := by rw [eS49]; exact hf7
    refine C_get hx hb hts hinX6 hown hK hw (cell_7 hf9) (by omega) rfl 4 (by decide) (index := 24) (by decide +kernel) rfl rfl dX6_add_52 ?_
    refine lv_topi (fun v52 ev52 => ?_)
    have h := of_bnd h ev52
    refine lv_iconst (v := 1) hx hb dX6_add_55 (by decide) ?_
    refine lv_iadd hx hb dX6_add_56 ?_
    refine C_put hx hb hts hinX6 tyX6 tyX6_ok nmX6 hown hK hw (cell_7 hf9) (by omega) rfl 4 (by decide) (index := 24) (by decide +kernel) rfl rfl (ty := .int) (by decide +kernel) rfl rfl (Nat.le_of_ble_eq_true rfl) (S' := uI S49 144 a0 (v52 + (1 : Int32))) rfl rfl rfl (pu_144 hf9 (v52 + (1 : Int32))) (fun b hb => off_uI hb) dX6_add_57 (fun S57 H locs eS57 hw => ?_)
    have h := of_bnd h eS57
    obtain rfl := Option.some.inj h
    exact C_vret hx hb hr hlocks hw dX6_add_60

def fX6_addNeed (n : Nat × Nat) (S : CS) (a0 : Nat) (a1 : Int32) (a2 : Int32) (a3 : Int32) : Option (CS) :=
  grd (cD S a0 = 7) (cal (fX6_add n S a0 (1 : Int32) a1 a2 a3) (fun S5 => some S5))
set_option maxHeartbeats 8000000 in
set_option maxRecDepth 100000 in
theorem cX6_addNeed_ok (l : Launch) (D : va_G) (cc : Nat → ClassId) (E : Nat → Nat) (n : Nat × Nat) (S : CS) (a0 : Nat) (a1 : Int32) (a2 : Int32) (a3 : Int32) {T : CS} (h : fX6_addNeed n S a0 a1 a2 a3 = some T) : Cv l yX6_addNeed wsX6_addNeed 1 24 D cc E [.ref a0, .int a1, .int a2, .int a3] S T 0 0 := by
  refine C_of (own := RX6) (bb := cX6_addNeed) (nL := 4) (ret := none) (by decide) rfl rfl (Nat.le_of_ble_eq_true rfl) ?_
  intro p e s m args below meth c hx hb hr hlocks hml hts hown hnm hA hK hro hw ls hl
  generalize va_A (cPs cc S) (nx S) = A at hA hro hw ⊢
  unfold fX6_addNeed at h
  have hl : lv_has ls 4 [(0, .ref a0), (1, .int a1), (2, .int a2), (3, .int a3)] := hl
  refine lv_aload_n hx hb dX6_addNeed_0 rfl (lv_at hl 0 rfl) ?_
  refine lv_iconst (v := 1) hx hb dX6_addNeed_1 (by decide) ?_
  refine lv_iload_n hx hb dX6_addNeed_2 rfl (lv_at hl 1 rfl) ?_
  refine lv_iload_n hx hb dX6_addNeed_3 rfl (lv_at hl 2 rfl) ?_
  refine lv_iload_n hx hb dX6_addNeed_4 rfl (lv_at hl 3 rfl) ?_
  obtain ⟨hf1, h⟩ := of_grd h
  obtain ⟨q5, hq5, h⟩ := of_cal h
  obtain ⟨S5, eS5⟩ : ∃ x, x = q5 := ⟨_, rfl⟩
  subst eS5
  refine C_v hA hw (va_runV (As := [.int (1 : Int32), .int a1, .int a2, .int a3]) (rest := []) ⟨hx, hb, hml, hown, hts⟩ (cX6_add_ok l D cc E n S a0 (1 : Int32) a1 a2 a3 hq5) (cwV 4 hts gX6_addNeed_X6_add rfl rfl rfl (by decide +kernel) ⟨Nat.le_of_ble_eq_true rfl, Nat.le_of_ble_eq_true rfl⟩) ⟨cBlind D cc E S _, C_recv hK hw (by omega) (cell_7 hf1) (r := (RX6, TX6, 5)) rfl, fun U hU hW => ⟨rfl, C_pre hA hK hro hw U hU hW⟩⟩ rfl rfl hl.1 rfl (lv_room (Nat.le_of_ble_eq_true rfl)) dX6_addNeed_5 ⟨Nat.le_refl _, Nat.le_refl _⟩) (fun H locs hw => ?_)
  refine W.widen (k := 0) (n := 0) (Nat.le_refl _) (Nat.le_refl _) ?_
  obtain rfl := Option.some.inj h
  exact C_vret hx hb hr hlocks hw dX6_addNeed_8

def fX6_addSpare (n : Nat × Nat) (S : CS) (a0 : Nat) (a1 : Int32) (a2 : Int32) : Option (CS) :=
  grd (cD S a0 = 7) (cal (fX6_add n S a0 (2 : Int32) a1 a2 (0 : Int32)) (fun S5 => some S5))
set_option maxHeartbeats 8000000 in
set_option maxRecDepth 100000 in
theorem cX6_addSpare_ok (l : Launch) (D : va_G) (cc : Nat → ClassId) (E : Nat → Nat) (n : Nat × Nat) (S : CS) (a0 : Nat) (a1 : Int32) (a2 : Int32) {T : CS} (h : fX6_addSpare n S a0 a1 a2 = some T) : Cv l yX6_addSpare wsX6_addSpare 1 24 D cc E [.ref a0, .int a1, .int a2] S T 0 0 := by
  refine C_of (own := RX6) (bb := cX6_addSpare) (nL := 3) (ret := none) (by decide) rfl rfl (Nat.le_of_ble_eq_true rfl) ?_
  intro p e s m args below meth c hx hb hr hlocks hml hts hown hnm hA hK hro hw ls hl
  generalize va_A (cPs cc S) (nx S) = A at hA hro hw ⊢
  unfold fX6_addSpare at h
  have hl : lv_has ls 3 [(0, .ref a0), (1, .int a1), (2, .int a2)] := hl
  refine lv_aload_n hx hb dX6_addSpare_0 rfl (lv_at hl 0 rfl) ?_
  refine lv_iconst (v := 2) hx hb dX6_addSpare_1 (by decide) ?_
  refine lv_iload_n hx hb dX6_addSpare_2 rfl (lv_at hl 1 rfl) ?_
  refine lv_iload_n hx hb dX6_addSpare_3 rfl (lv_at hl 2 rfl) ?_
  refine lv_iconst (v := 0) hx hb dX6_addSpare_4 (by decide) ?_
  obtain ⟨hf1, h⟩ := of_grd h
  obtain ⟨q5, hq5, h⟩ := of_cal h
  obtain ⟨S5, eS5⟩ : ∃ x, x = q5 := ⟨_, rfl⟩
  subst eS5
  refine C_v hA hw (va_runV (As := [.int (2 : Int32), .int a1, .int a2, .int (0 : Int32)]) (rest := []) ⟨hx, hb, hml, hown, hts⟩ (cX6_add_ok l D cc E n S a0 (2 : Int32) a1 a2 (0 : Int32) hq5) (cwV 4 hts gX6_addSpare_X6_add rfl rfl rfl (by decide +kernel) ⟨Nat.le_of_ble_eq_true rfl, Nat.le_of_ble_eq_true rfl⟩) ⟨cBlind D cc E S _, C_recv hK hw (by omega) (cell_7 hf1) (r := (RX6, TX6, 5)) rfl, fun U hU hW => ⟨rfl, C_pre hA hK hro hw U hU hW⟩⟩ rfl rfl hl.1 rfl (lv_room (Nat.le_of_ble_eq_true rfl)) dX6_addSpare_5 ⟨Nat.le_refl _, Nat.le_refl _⟩) (fun H locs hw => ?_)
  refine W.widen (k := 0) (n := 0) (Nat.le_refl _) (Nat.le_refl _) ?_
  obtain rfl := Option.some.inj h
  exact C_vret hx hb hr hlocks hw dX6_addSpare_8

def fX6_addSwap (n : Nat × Nat) (S : CS) (a0 : Nat) (a1 : Int32) (a2 : Int32) : Option (CS) :=
  grd (cD S a0 = 7) (cal (fX6_add n S a0 (3 : Int32) a2 a1 (0 : Int32)) (fun S5 => some S5))
set_option maxHeartbeats 8000000 in
set_option maxRecDepth 100000 in
theorem cX6_addSwap_ok (l : Launch) (D : va_G) (cc : Nat → ClassId) (E : Nat → Nat) (n : Nat × Nat) (S : CS) (a0 : Nat) (a1 : Int32) (a2 : Int32) {T : CS} (h : fX6_addSwap n S a0 a1 a2 = some T) : Cv l yX6_addSwap wsX6_addSwap 1 24 D cc E [.ref a0, .int a1, .int a2] S T 0 0 := by
  refine C_of (own := RX6) (bb := cX6_addSwap) (nL := 3) (ret := none) (by decide) rfl rfl (Nat.le_of_ble_eq_true rfl) ?_
  intro p e s m args below meth c hx hb hr hlocks hml hts hown hnm hA hK hro hw ls hl
  generalize va_A (cPs cc S) (nx S) = A at hA hro hw ⊢
  unfold fX6_addSwap at h
  have hl : lv_has ls 3 [(0, .ref a0), (1, .int a1), (2, .int a2)] := hl
  refine lv_aload_n hx hb dX6_addSwap_0 rfl (lv_at hl 0 rfl) ?_
  refine lv_iconst (v := 3) hx hb dX6_addSwap_1 (by decide) ?_
  refine lv_iload_n hx hb dX6_addSwap_2 rfl (lv_at hl 2 rfl) ?_
  refine lv_iload_n hx hb dX6_addSwap_3 rfl (lv_at hl 1 rfl) ?_
  refine lv_iconst (v := 0) hx hb dX6_addSwap_4 (by decide) ?_
  obtain ⟨hf1, h⟩ := of_grd h
  obtain ⟨q5, hq5, h⟩ := of_cal h
  obtain ⟨S5, eS5⟩ : ∃ x, x = q5 := ⟨_, rfl⟩
  subst eS5
  refine C_v hA hw (va_runV (As := [.int (3 : Int32), .int a2, .int a1, .int (0 : Int32)]) (rest := []) ⟨hx, hb, hml, hown, hts⟩ (cX6_add_ok l D cc E n S a0 (3 : Int32) a2 a1 (0 : Int32) hq5) (cwV 4 hts gX6_addSwap_X6_add rfl rfl rfl (by decide +kernel) ⟨Nat.le_of_ble_eq_true rfl, Nat.le_of_ble_eq_true rfl⟩) ⟨cBlind D cc E S _, C_recv hK hw (by omega) (cell_7 hf1) (r := (RX6, TX6, 5)) rfl, fun U hU hW => ⟨rfl, C_pre hA hK hro hw U hU hW⟩⟩ rfl rfl hl.1 rfl (lv_room (Nat.le_of_ble_eq_true rfl)) dX6_addSwap_5 ⟨Nat.le_refl _, Nat.le_refl _⟩) (fun H locs hw => ?_)
  refine W.widen (k := 0) (n := 0) (Nat.le_refl _) (Nat.le_refl _) ?_
  obtain rfl := Option.some.inj h
  exact C_vret hx hb hr hlocks hw dX6_addSwap_8

def fX6_isRule (n : Nat × Nat) (S : CS) (a0 : Nat) (a1 : Int32) (a2 : Int32) (a3 : Int32) : Option Int32 :=
  bnd (fX11_isWithin a1 (0 : Int32) (29 : Int32)) (fun r4 => if r4 = 0 then 
    some (0 : Int32)
    else grd (cD S a0 = 7) (onn (cR S 140 a0) (fun b11 => grd (cD S b11 = 42) (grd (¬ (a1 < 0 ∨ cN S b11 ≤ a1.toNatClampNeg)) (bnd (cA S 42 b11 a1.toNatClampNeg) (fun v15 => if v15 = a2 then 
      onn (cR S 141 a0) (fun b21 => grd (cD S b21 = 43) (grd (¬ (a1 < 0 ∨ cN S b21 ≤ a1.toNatClampNeg)) (bnd (cA S 43 b21 a1.toNatClampNeg) (fun v25 => if v25 = a3 then 
        some (1 : Int32)
        else some (0 : Int32)))))
      else some (0 : Int32)))))))
set_option maxHeartbeats 8000000 in
set_option maxRecDepth 100000 in
theorem cX6_isRule_ok (l : Launch) (D : va_G) (cc : Nat → ClassId) (E : Nat → Nat) (n : Nat × Nat) (S : CS) (a0 : Nat) (a1 : Int32) (a2 : Int32) (a3 : Int32) {r : Int32} (h : fX6_isRule n S a0 a1 a2 a3 = some r) : Ci l yX6_isRule wsX6_isRule 1 22 D cc E [.ref a0, .int a1, .int a2, .int a3] S r S 0 0 := by
  refine C_of (own := RX6) (bb := cX6_isRule) (nL := 4) (ret := (some .boolean)) (by decide) rfl rfl (Nat.le_of_ble_eq_true rfl) ?_
  intro p e s m args below meth c hx hb hr hlocks hml hts hown hnm hA hK hro hw ls hl
  generalize va_A (cPs cc S) (nx S) = A at hA hro hw ⊢
  unfold fX6_isRule at h
  have hinX6 : ∀ w ∈ wsX60, w ∈ wsX6_isRule := by decide +kernel
  have hl : lv_has ls 4 [(0, .ref a0), (1, .int a1), (2, .int a2), (3, .int a3)] := hl
  refine lv_iload_n hx hb dX6_isRule_0 rfl (lv_at hl 1 rfl) ?_
  refine lv_iconst (v := 0) hx hb dX6_isRule_1 (by decide) ?_
  refine lv_bipush (v := 29) hx hb dX6_isRule_2 (by decide) ?_
  refine C_s (va_runSN (As := [.int a1, .int (0 : Int32), .int (29 : Int32)]) (rest := []) ⟨hx, hb, hml, hown, hts⟩ (cX11_isWithin_ok l a1 (0 : Int32) (29 : Int32)) ⟨va_cnB 3 hts gX6_isRule_X11_isWithin_n32 rfl rfl rfl (hro.1 (RX6, 32, yX11_isWithin) (by decide +kernel)) (hts (.initialized RX11) (by decide +kernel)) (by decide +kernel) ⟨Nat.le_of_ble_eq_true rfl, Nat.le_of_ble_eq_true rfl⟩, (hts (.static yX11_isWithin) (by decide +kernel)), trivial⟩ ⟨fun a U g mk q => ⟨q.1, trivial⟩, fun U hU hW => ⟨rfl, trivial⟩⟩ rfl rfl hl.1 rfl (lv_room (Nat.le_of_ble_eq_true rfl)) dX6_isRule_4 ⟨Nat.le_refl _, Nat.le_refl _⟩) (fun r4 er4 => ?_)
  have h := of_bnd h er4
  refine lv_if_eq (tgt := 34) hx hb dX6_isRule_7 (by decide) (fun c7 => ?_) (fun c7 => ?_)
  · have h := of_it h c7
    refine lv_iconst (v := 0) hx hb dX6_isRule_34 (by decide) ?_
    obtain rfl := Option.some.inj h
    exact C_iret hx hb hr hlocks hw (by first | rfl | decide) dX6_isRule_35
  · have h := of_if h c7
    refine lv_aload_n hx hb dX6_isRule_10 rfl (lv_at hl 0 rfl) ?_
    obtain ⟨hf1, h⟩ := of_grd h
    obtain ⟨b11, eb11, h⟩ := of_onn h
    refine C_get hx hb hts hinX6 hown hK hw (cell_7 hf1) (by omega) rfl 0 (by decide) (index := 9) (by decide +kernel) rfl (v := .ref b11) (congrArg (fun o => some (va_rf o)) eb11) dX6_isRule_11 ?_
    refine lv_iload_n hx hb dX6_isRule_14 rfl (lv_at hl 1 rfl) ?_
    obtain ⟨hf2, h⟩ := of_grd h
    obtain ⟨hi15, h⟩ := of_grd h
    refine C_iald hx hb hK hw hf2 (by decide) (by decide) hi15 dX6_isRule_15 ?_
    refine lv_topi (fun v15 ev15 => ?_)
    have h := of_bnd h ev15
    refine lv_iload_n hx hb dX6_isRule_16 rfl (lv_at hl 2 rfl) ?_
    refine lv_icmp_ne (tgt := 34) hx hb dX6_isRule_17 (by decide) (fun c17 => ?_) (fun c17 => ?_)
    · have h := of_if h c17
      refine lv_iconst (v := 0) hx hb dX6_isRule_34 (by decide) ?_
      obtain rfl := Option.some.inj h
      exact C_iret hx hb hr hlocks hw (by first | rfl | decide) dX6_isRule_35
    · have h := of_it h c17
      refine lv_aload_n hx hb dX6_isRule_20 rfl (lv_at hl 0 rfl) ?_
      obtain ⟨b21, eb21, h⟩ := of_onn h
      refine C_get hx hb hts hinX6 hown hK hw (cell_7 hf1) (by omega) rfl 1 (by decide) (index := 15) (by decide +kernel) rfl (v := .ref b21) (congrArg (fun o => some (va_rf o)) eb21) dX6_isRule_21 ?_
      refine lv_iload_n hx hb dX6_isRule_24 rfl (lv_at hl 1 rfl) ?_
      obtain ⟨hf3, h⟩ := of_grd h
      obtain ⟨hi25, h⟩ := of_grd h
      refine C_iald hx hb hK hw hf3 (by decide) (by decide) hi25 dX6_isRule_25 ?_
      refine lv_topi (fun v25 ev25 => ?_)
      have h := of_bnd h ev25
      refine lv_iload_n hx hb dX6_isRule_26 rfl (lv_at hl 3 rfl) ?_
      refine lv_icmp_ne (tgt := 34) hx hb dX6_isRule_27 (by decide) (fun c27 => ?_) (fun c27 => ?_)
      · have h := of_if h c27
        refine lv_iconst (v := 0) hx hb dX6_isRule_34 (by decide) ?_
        obtain rfl := Option.some.inj h
        exact C_iret hx hb hr hlocks hw (by first | rfl | decide) dX6_isRule_35
      · have h := of_it h c27
        refine lv_iconst (v := 1) hx hb dX6_isRule_30 (by decide) ?_
        refine lv_goto (tgt := 35) hx hb dX6_isRule_31 (by decide) ?_
        obtain rfl := Option.some.inj h
        exact C_iret hx hb hr hlocks hw (by first | rfl | decide) dX6_isRule_35

def fX6_gramsNeeded_lp5 (n : Nat × Nat) (S : CS) (f0 : Nat) (f1 : Int32) (f2 : Int32) : Nat → Int32 → Int32 → Option (Int32)
  | 0, _, _ => none
  | k + 1, l3, l4 =>
    grd (cD S f0 = 7) (bnd (cI S 144 f0) (fun v8 => if v8 ≤ l4 then 
        some l3
        else cal (fX6_isRule n S f0 l4 (1 : Int32) f1) (fun q19 => if q19 = 0 then 
          bnd (l4 + 1) (fun x48 => fX6_gramsNeeded_lp5 n S f0 f1 f2 k l3 x48 )
          else onn (cR S 143 f0) (fun b27 => grd (cD S b27 = 45) (grd (¬ (l4 < 0 ∨ cN S b27 ≤ l4.toNatClampNeg)) (bnd (cA S 45 b27 l4.toNatClampNeg) (fun v32 => if f2 ≤ v32 then 
            bnd (l4 + 1) (fun x48 => fX6_gramsNeeded_lp5 n S f0 f1 f2 k l3 x48 )
            else onn (cR S 142 f0) (fun b38 => grd (cD S b38 = 44) (grd (¬ (l4 < 0 ∨ cN S b38 ≤ l4.toNatClampNeg)) (bnd (cA S 44 b38 l4.toNatClampNeg) (fun v43 => bnd (l3 + (v43 * f2)) (fun x47 => bnd (l4 + 1) (fun x48 => fX6_gramsNeeded_lp5 n S f0 f1 f2 k x47 x48 )))))))))))))
def fX6_gramsNeeded (n : Nat × Nat) (S : CS) (a0 : Nat) (a1 : Int32) (a2 : Int32) : Option Int32 :=
  bnd (0 : Int32) (fun x1 => bnd (0 : Int32) (fun x3 => cal (fX6_gramsNeeded_lp5 n S a0 a1 a2 n.1 x1 x3 ) (fun t3_5 => some t3_5)))
set_option maxHeartbeats 8000000 in
set_option maxRecDepth 100000 in
theorem cX6_gramsNeeded_ok (l : Launch) (D : va_G) (cc : Nat → ClassId) (E : Nat → Nat) (n : Nat × Nat) (S : CS) (a0 : Nat) (a1 : Int32) (a2 : Int32) {r : Int32} (h : fX6_gramsNeeded n S a0 a1 a2 = some r) : Ci l yX6_gramsNeeded wsX6_gramsNeeded 2 45 D cc E [.ref a0, .int a1, .int a2] S r S 0 0 := by
  refine C_of (own := RX6) (bb := cX6_gramsNeeded) (nL := 5) (ret := (some .int)) (by decide) rfl rfl (Nat.le_of_ble_eq_true rfl) ?_
  intro p e s m args below meth c hx hb hr hlocks hml hts hown hnm hA hK hro hw ls hl
  generalize va_A (cPs cc S) (nx S) = A at hA hro hw ⊢
  unfold fX6_gramsNeeded at h
  have hinX6 : ∀ w ∈ wsX60, w ∈ wsX6_gramsNeeded := by decide +kernel
  have hl : lv_has ls 5 [(0, .ref a0), (1, .int a1), (2, .int a2)] := hl
  refine lv_iconst (v := 0) hx hb dX6_gramsNeeded_0 (by decide) ?_
  refine lv_topi (fun x1 ex1 => ?_)
  have h := of_bnd h ex1
  refine lv_istore_n (lv' := [(3, .int x1), (0, .ref a0), (1, .int a1), (2, .int a2)]) hx hb dX6_gramsNeeded_1 rfl hl (by decide) rfl (fun ls hl => ?_)
  refine lv_iconst (v := 0) hx hb dX6_gramsNeeded_2 (by decide) ?_
  refine lv_topi (fun x3 ex3 => ?_)
  have h := of_bnd h ex3
  refine lv_istore (lv' := [(4, .int x3), (3, .int x1), (0, .ref a0), (1, .int a1), (2, .int a2)]) hx hb dX6_gramsNeeded_3 hl (by decide) rfl (fun ls hl => ?_)
  have lp5 : ∀ (f0 : Nat) (f1 : Int32) (f2 : Int32) (S : CS) (k : Nat) (l3 : Int32) (l4 : Int32) (q : Int32) , fX6_gramsNeeded_lp5 n S f0 f1 f2 k l3 l4  = some q → ∀ (H : Heap) (locs : List Loc), cWd D cc A s.heap S H locs → ∀ ls : Array Slot, lv_has ls 5 [(0, .ref f0), (1, .int f1), (2, .int f2), (3, .int l3), (4, .int l4)] → (∀ (t3 : Int32), t3 = q → ∀ (H : Heap) (locs : List Loc), cWd D cc A s.heap S H locs → ∀ ls : Array Slot, lv_has ls 5 [(3, .int t3)] → W p l e (cRm 2 45 0 0) s m args below meth c H locs (0) (0) (MQ below (va_Qi (fun x u => x = r ∧ u = S) (cAft D cc A) A) args s 0 0 A) (F0 m 54 ls [])) → W p l e (cRm 2 45 0 0) s m args below meth c H locs (0) (0) (MQ below (va_Qi (fun x u => x = r ∧ u = S) (cAft D cc A) A) args s 0 0 A) (F0 m 5 ls []) := by
    intro f0 f1 f2 S k
    induction k with
    | zero => intro l3 l4 q h; rw [fX6_gramsNeeded_lp5] at h; cases h
    | succ k ih5 =>
      intro l3 l4 q h H locs hw ls hl kx5_0
      rw [fX6_gramsNeeded_lp5] at h
      refine lv_iload hx hb dX6_gramsNeeded_5 (lv_at hl 4 rfl) ?_
      refine lv_aload_n hx hb dX6_gramsNeeded_7 rfl (lv_at hl 0 rfl) ?_
      obtain ⟨hf1, h⟩ := of_grd h
      refine C_get hx hb hts hinX6 hown hK hw (cell_7 hf1) (by omega) rfl 4 (by decide) (index := 24) (by decide +kernel) rfl rfl dX6_gramsNeeded_8 ?_
      refine lv_topi (fun v8 ev8 => ?_)
      have h := of_bnd h ev8
      refine lv_icmp_ge (tgt := 54) hx hb dX6_gramsNeeded_11 (by decide) (fun c11 => ?_) (fun c11 => ?_)
      · have h := of_it h c11
        exact kx5_0 l3 (Option.some.inj h) _ _ hw ls (lv_sub hl [3] rfl)
      · have h := of_if h c11
        refine lv_aload_n hx hb dX6_gramsNeeded_14 rfl (lv_at hl 0 rfl) ?_
        refine lv_iload hx hb dX6_gramsNeeded_15 (lv_at hl 4 rfl) ?_
        refine lv_iconst (v := 1) hx hb dX6_gramsNeeded_17 (by decide) ?_
        refine lv_iload_n hx hb dX6_gramsNeeded_18 rfl (lv_at hl 1 rfl) ?_
        obtain ⟨q19, hq19, h⟩ := of_cal h
        refine C_i hA hw (va_runV (As := [.int l4, .int (1 : Int32), .int f1]) (rest := []) ⟨hx, hb, hml, hown, hts⟩ (cX6_isRule_ok l D cc E n S f0 l4 (1 : Int32) f1 hq19) (cwV 3 hts gX6_gramsNeeded_X6_isRule rfl rfl rfl (by decide +kernel) ⟨Nat.le_of_ble_eq_true rfl, Nat.le_of_ble_eq_true rfl⟩) ⟨cBlind D cc E S _, C_recv hK hw (by omega) (cell_7 hf1) (r := (RX6, TX6, 5)) rfl, fun U hU hW => ⟨rfl, C_pre hA hK hro hw U hU hW⟩⟩ rfl rfl hl.1 rfl (lv_room (Nat.le_of_ble_eq_true rfl)) dX6_gramsNeeded_19 ⟨Nat.le_refl _, Nat.le_refl _⟩) (fun H locs hw => ?_)
        refine W.widen (k := 0) (n := 0) (Nat.le_refl _) (Nat.le_refl _) ?_
        refine lv_if_eq (tgt := 48) hx hb dX6_gramsNeeded_22 (by decide) (fun c22 => ?_) (fun c22 => ?_)
        · have h := of_it h c22
          obtain ⟨x48, ex48⟩ : ∃ y : Int32, y = l4 + 1 := ⟨_, rfl⟩
          have h := of_bnd h ex48
          refine lv_iinc (v := x48) (lv' := [(4, .int x48), (0, .ref f0), (1, .int f1), (2, .int f2), (3, .int l3)]) hx hb dX6_gramsNeeded_48 hl (k := 4) rfl (by rw [ex48]; rfl) (by decide) rfl (fun ls hl => ?_)
          refine lv_goto (tgt := 5) hx hb dX6_gramsNeeded_51 (by decide) ?_
          exact ih5 l3 x48 _ h _ _ hw ls (lv_sub hl [1, 2, 3, 4, 0] rfl) kx5_0
        · have h := of_if h c22
          refine lv_iload_n hx hb dX6_gramsNeeded_25 rfl (lv_at hl 2 rfl) ?_
          refine lv_aload_n hx hb dX6_gramsNeeded_26 rfl (lv_at hl 0 rfl) ?_
          obtain ⟨b27, eb27, h⟩ := of_onn h
          refine C_get hx hb hts hinX6 hown hK hw (cell_7 hf1) (by omega) rfl 3 (by decide) (index := 21) (by decide +kernel) rfl (v := .ref b27) (congrArg (fun o => some (va_rf o)) eb27) dX6_gramsNeeded_27 ?_
          refine lv_iload hx hb dX6_gramsNeeded_30 (lv_at hl 4 rfl) ?_
          obtain ⟨hf2, h⟩ := of_grd h
          obtain ⟨hi32, h⟩ := of_grd h
          refine C_iald hx hb hK hw hf2 (by decide) (by decide) hi32 dX6_gramsNeeded_32 ?_
          refine lv_topi (fun v32 ev32 => ?_)
          have h := of_bnd h ev32
          refine lv_icmp_le (tgt := 48) hx hb dX6_gramsNeeded_33 (by decide) (fun c33 => ?_) (fun c33 => ?_)
          · have h := of_it h c33
            obtain ⟨x48, ex48⟩ : ∃ y : Int32, y = l4 + 1 := ⟨_, rfl⟩
            have h := of_bnd h ex48
            refine lv_iinc (v := x48) (lv' := [(4, .int x48), (0, .ref f0), (1, .int f1), (2, .int f2), (3, .int l3)]) hx hb dX6_gramsNeeded_48 hl (k := 4) rfl (by rw [ex48]; rfl) (by decide) rfl (fun ls hl => ?_)
            refine lv_goto (tgt := 5) hx hb dX6_gramsNeeded_51 (by decide) ?_
            exact ih5 l3 x48 _ h _ _ hw ls (lv_sub hl [1, 2, 3, 4, 0] rfl) kx5_0
          · have h := of_if h c33
            refine lv_iload_n hx hb dX6_gramsNeeded_36 rfl (lv_at hl 3 rfl) ?_
            refine lv_aload_n hx hb dX6_gramsNeeded_37 rfl (lv_at hl 0 rfl) ?_
            obtain ⟨b38, eb38, h⟩ := of_onn h
            refine C_get hx hb hts hinX6 hown hK hw (cell_7 hf1) (by omega) rfl 2 (by decide) (index := 18) (by decide +kernel) rfl (v := .ref b38) (congrArg (fun o => some (va_rf o)) eb38) dX6_gramsNeeded_38 ?_
            refine lv_iload hx hb dX6_gramsNeeded_41 (lv_at hl 4 rfl) ?_
            obtain ⟨hf3, h⟩ := of_grd h
            obtain ⟨hi43, h⟩ := of_grd h
            refine C_iald hx hb hK hw hf3 (by decide) (by decide) hi43 dX6_gramsNeeded_43 ?_
            refine lv_topi (fun v43 ev43 => ?_)
            have h := of_bnd h ev43
            refine lv_iload_n hx hb dX6_gramsNeeded_44 rfl (lv_at hl 2 rfl) ?_
            refine lv_imul hx hb dX6_gramsNeeded_45 ?_
            refine lv_iadd hx hb dX6_gramsNeeded_46 ?_
            refine lv_topi (fun x47 ex47 => ?_)
            have h := of_bnd h ex47
            refine lv_istore_n (lv' := [(3, .int x47), (0, .ref f0), (1, .int f1), (2, .int f2), (4, .int l4)]) hx hb dX6_gramsNeeded_47 rfl hl (by decide) rfl (fun ls hl => ?_)
            obtain ⟨x48, ex48⟩ : ∃ y : Int32, y = l4 + 1 := ⟨_, rfl⟩
            have h := of_bnd h ex48
            refine lv_iinc (v := x48) (lv' := [(4, .int x48), (3, .int x47), (0, .ref f0), (1, .int f1), (2, .int f2)]) hx hb dX6_gramsNeeded_48 hl (k := 4) rfl (by rw [ex48]; rfl) (by decide) rfl (fun ls hl => ?_)
            refine lv_goto (tgt := 5) hx hb dX6_gramsNeeded_51 (by decide) ?_
            exact ih5 x47 x48 _ h _ _ hw ls (lv_sub hl [2, 3, 4, 1, 0] rfl) kx5_0
  obtain ⟨q5, hq5, h⟩ := of_cal h
  refine lp5 a0 a1 a2 S n.1 x1 x3 q5  hq5 _ _ hw ls (lv_sub hl [2, 3, 4, 1, 0] rfl) ?_
  · intro t3_5 eq H locs hw ls hl
    subst eq
    refine lv_iload_n hx hb dX6_gramsNeeded_54 rfl (lv_at hl 0 rfl) ?_
    obtain rfl := Option.some.inj h
    exact C_iret hx hb hr hlocks hw (by rfl) dX6_gramsNeeded_55

def fX6_daysSpared_lp4 (n : Nat × Nat) (S : CS) (f0 : Nat) (f1 : Int32) : Nat → Int32 → Int32 → Option (Int32)
  | 0, _, _ => none
  | k + 1, l2, l3 =>
    grd (cD S f0 = 7) (bnd (cI S 144 f0) (fun v6 => if v6 ≤ l3 then 
        some l2
        else cal (fX6_isRule n S f0 l3 (2 : Int32) f1) (fun q16 => if q16 = 0 then 
          bnd (l3 + 1) (fun x33 => fX6_daysSpared_lp4 n S f0 f1 k l2 x33 )
          else onn (cR S 142 f0) (fun b24 => grd (cD S b24 = 44) (grd (¬ (l3 < 0 ∨ cN S b24 ≤ l3.toNatClampNeg)) (bnd (cA S 44 b24 l3.toNatClampNeg) (fun v28 => bnd (if l2 < v28 then v28 else l2) (fun r29 => bnd (l3 + 1) (fun x33 => fX6_daysSpared_lp4 n S f0 f1 k r29 x33 )))))))))
def fX6_daysSpared (n : Nat × Nat) (S : CS) (a0 : Nat) (a1 : Int32) : Option Int32 :=
  bnd (0 : Int32) (fun x1 => bnd (0 : Int32) (fun x3 => cal (fX6_daysSpared_lp4 n S a0 a1 n.1 x1 x3 ) (fun t2_4 => some t2_4)))
set_option maxHeartbeats 8000000 in
set_option maxRecDepth 100000 in
theorem cX6_daysSpared_ok (l : Launch) (D : va_G) (cc : Nat → ClassId) (E : Nat → Nat) (n : Nat × Nat) (S : CS) (a0 : Nat) (a1 : Int32) {r : Int32} (h : fX6_daysSpared n S a0 a1 = some r) : Ci l yX6_daysSpared wsX6_daysSpared 2 45 D cc E [.ref a0, .int a1] S r S 0 0 := by
  refine C_of (own := RX6) (bb := cX6_daysSpared) (nL := 4) (ret := (some .int)) (by decide) rfl rfl (Nat.le_of_ble_eq_true rfl) ?_
  intro p e s m args below meth c hx hb hr hlocks hml hts hown hnm hA hK hro hw ls hl
  generalize va_A (cPs cc S) (nx S) = A at hA hro hw ⊢
  unfold fX6_daysSpared at h
  have hinX6 : ∀ w ∈ wsX60, w ∈ wsX6_daysSpared := by decide +kernel
  have hl : lv_has ls 4 [(0, .ref a0), (1, .int a1)] := hl
  refine lv_iconst (v := 0) hx hb dX6_daysSpared_0 (by decide) ?_
  refine lv_topi (fun x1 ex1 => ?_)
  have h := of_bnd h ex1
  refine lv_istore_n (lv' := [(2, .int x1), (0, .ref a0), (1, .int a1)]) hx hb dX6_daysSpared_1 rfl hl (by decide) rfl (fun ls hl => ?_)
  refine lv_iconst (v := 0) hx hb dX6_daysSpared_2 (by decide) ?_
  refine lv_topi (fun x3 ex3 => ?_)
  have h := of_bnd h ex3
  refine lv_istore_n (lv' := [(3, .int x3), (2, .int x1), (0, .ref a0), (1, .int a1)]) hx hb dX6_daysSpared_3 rfl hl (by decide) rfl (fun ls hl => ?_)
  have lp4 : ∀ (f0 : Nat) (f1 : Int32) (S : CS) (k : Nat) (l2 : Int32) (l3 : Int32) (q : Int32) , fX6_daysSpared_lp4 n S f0 f1 k l2 l3  = some q → ∀ (H : Heap) (locs : List Loc), cWd D cc A s.heap S H locs → ∀ ls : Array Slot, lv_has ls 4 [(0, .ref f0), (1, .int f1), (2, .int l2), (3, .int l3)] → (∀ (t2 : Int32), t2 = q → ∀ (H : Heap) (locs : List Loc), cWd D cc A s.heap S H locs → ∀ ls : Array Slot, lv_has ls 4 [(2, .int t2)] → W p l e (cRm 2 45 0 0) s m args below meth c H locs (0) (0) (MQ below (va_Qi (fun x u => x = r ∧ u = S) (cAft D cc A) A) args s 0 0 A) (F0 m 39 ls [])) → W p l e (cRm 2 45 0 0) s m args below meth c H locs (0) (0) (MQ below (va_Qi (fun x u => x = r ∧ u = S) (cAft D cc A) A) args s 0 0 A) (F0 m 4 ls []) := by
    intro f0 f1 S k
    induction k with
    | zero => intro l2 l3 q h; rw [fX6_daysSpared_lp4] at h; cases h
    | succ k ih4 =>
      intro l2 l3 q h H locs hw ls hl kx4_0
      rw [fX6_daysSpared_lp4] at h
      refine lv_iload_n hx hb dX6_daysSpared_4 rfl (lv_at hl 3 rfl) ?_
      refine lv_aload_n hx hb dX6_daysSpared_5 rfl (lv_at hl 0 rfl) ?_
      obtain ⟨hf1, h⟩ := of_grd h
      refine C_get hx hb hts hinX6 hown hK hw (cell_7 hf1) (by omega) rfl 4 (by decide) (index := 24) (by decide +kernel) rfl rfl dX6_daysSpared_6 ?_
      refine lv_topi (fun v6 ev6 => ?_)
      have h := of_bnd h ev6
      refine lv_icmp_ge (tgt := 39) hx hb dX6_daysSpared_9 (by decide) (fun c9 => ?_) (fun c9 => ?_)
      · have h := of_it h c9
        exact kx4_0 l2 (Option.some.inj h) _ _ hw ls (lv_sub hl [2] rfl)
      · have h := of_if h c9
        refine lv_aload_n hx hb dX6_daysSpared_12 rfl (lv_at hl 0 rfl) ?_
        refine lv_iload_n hx hb dX6_daysSpared_13 rfl (lv_at hl 3 rfl) ?_
        refine lv_iconst (v := 2) hx hb dX6_daysSpared_14 (by decide) ?_
        refine lv_iload_n hx hb dX6_daysSpared_15 rfl (lv_at hl 1 rfl) ?_
        obtain ⟨q16, hq16, h⟩ := of_cal h
        refine C_i hA hw (va_runV (As := [.int l3, .int (2 : Int32), .int f1]) (rest := []) ⟨hx, hb, hml, hown, hts⟩ (cX6_isRule_ok l D cc E n S f0 l3 (2 : Int32) f1 hq16) (cwV 3 hts gX6_daysSpared_X6_isRule rfl rfl rfl (by decide +kernel) ⟨Nat.le_of_ble_eq_true rfl, Nat.le_of_ble_eq_true rfl⟩) ⟨cBlind D cc E S _, C_recv hK hw (by omega) (cell_7 hf1) (r := (RX6, TX6, 5)) rfl, fun U hU hW => ⟨rfl, C_pre hA hK hro hw U hU hW⟩⟩ rfl rfl hl.1 rfl (lv_room (Nat.le_of_ble_eq_true rfl)) dX6_daysSpared_16 ⟨Nat.le_refl _, Nat.le_refl _⟩) (fun H locs hw => ?_)
        refine W.widen (k := 0) (n := 0) (Nat.le_refl _) (Nat.le_refl _) ?_
        refine lv_if_eq (tgt := 33) hx hb dX6_daysSpared_19 (by decide) (fun c19 => ?_) (fun c19 => ?_)
        · have h := of_it h c19
          obtain ⟨x33, ex33⟩ : ∃ y : Int32, y = l3 + 1 := ⟨_, rfl⟩
          have h := of_bnd h ex33
          refine lv_iinc (v := x33) (lv' := [(3, .int x33), (0, .ref f0), (1, .int f1), (2, .int l2)]) hx hb dX6_daysSpared_33 hl (k := 3) rfl (by rw [ex33]; rfl) (by decide) rfl (fun ls hl => ?_)
          refine lv_goto (tgt := 4) hx hb dX6_daysSpared_36 (by decide) ?_
          exact ih4 l2 x33 _ h _ _ hw ls (lv_sub hl [1, 2, 3, 0] rfl) kx4_0
        · have h := of_if h c19
          refine lv_iload_n hx hb dX6_daysSpared_22 rfl (lv_at hl 2 rfl) ?_
          refine lv_aload_n hx hb dX6_daysSpared_23 rfl (lv_at hl 0 rfl) ?_
          obtain ⟨b24, eb24, h⟩ := of_onn h
          refine C_get hx hb hts hinX6 hown hK hw (cell_7 hf1) (by omega) rfl 2 (by decide) (index := 18) (by decide +kernel) rfl (v := .ref b24) (congrArg (fun o => some (va_rf o)) eb24) dX6_daysSpared_24 ?_
          refine lv_iload_n hx hb dX6_daysSpared_27 rfl (lv_at hl 3 rfl) ?_
          obtain ⟨hf2, h⟩ := of_grd h
          obtain ⟨hi28, h⟩ := of_grd h
          refine C_iald hx hb hK hw hf2 (by decide) (by decide) hi28 dX6_daysSpared_28 ?_
          refine lv_topi (fun v28 ev28 => ?_)
          have h := of_bnd h ev28
          refine va_mmax (rest := []) hx hb (hml.trans hl.1.symm) hown (hts (.methodLink RX6 39 Lib.Math.max.name) (by decide +kernel)) (hts (.static Lib.Math.max.name) (by decide +kernel)) (hts (.initialized "java/lang/Math") (by decide +kernel)) (hts (.code Lib.Math.max.name Lib.Math.max.code 2 (some .int)) (by decide +kernel)) (Nat.le_of_ble_eq_true rfl) (Nat.le_of_ble_eq_true rfl) (Nat.zero_le _) (Nat.zero_le _) dX6_daysSpared_29 ?_
          refine lv_topi (fun r29 er29 => ?_)
          have h := of_bnd h er29
          refine lv_istore_n (lv' := [(2, .int r29), (0, .ref f0), (1, .int f1), (3, .int l3)]) hx hb dX6_daysSpared_32 rfl hl (by decide) rfl (fun ls hl => ?_)
          obtain ⟨x33, ex33⟩ : ∃ y : Int32, y = l3 + 1 := ⟨_, rfl⟩
          have h := of_bnd h ex33
          refine lv_iinc (v := x33) (lv' := [(3, .int x33), (2, .int r29), (0, .ref f0), (1, .int f1)]) hx hb dX6_daysSpared_33 hl (k := 3) rfl (by rw [ex33]; rfl) (by decide) rfl (fun ls hl => ?_)
          refine lv_goto (tgt := 4) hx hb dX6_daysSpared_36 (by decide) ?_
          exact ih4 r29 x33 _ h _ _ hw ls (lv_sub hl [2, 3, 1, 0] rfl) kx4_0
  obtain ⟨q4, hq4, h⟩ := of_cal h
  refine lp4 a0 a1 S n.1 x1 x3 q4  hq4 _ _ hw ls (lv_sub hl [2, 3, 1, 0] rfl) ?_
  · intro t2_4 eq H locs hw ls hl
    subst eq
    refine lv_iload_n hx hb dX6_daysSpared_39 rfl (lv_at hl 0 rfl) ?_
    obtain rfl := Option.some.inj h
    exact C_iret hx hb hr hlocks hw (by rfl) dX6_daysSpared_40

def fX6_kindSwapped (n : Nat × Nat) (S : CS) (a0 : Nat) (a1 : Int32) (a2 : Int32) : Option Int32 :=
  grd (cD S a0 = 7) (cal (fX6_isRule n S a0 a1 (3 : Int32) a2) (fun q4 => if q4 = 0 then 
    some (-1 : Int32)
    else onn (cR S 142 a0) (fun b11 => grd (cD S b11 = 44) (grd (¬ (a1 < 0 ∨ cN S b11 ≤ a1.toNatClampNeg)) (bnd (cA S 44 b11 a1.toNatClampNeg) (fun v15 => some v15))))))
set_option maxHeartbeats 8000000 in
set_option maxRecDepth 100000 in
theorem cX6_kindSwapped_ok (l : Launch) (D : va_G) (cc : Nat → ClassId) (E : Nat → Nat) (n : Nat × Nat) (S : CS) (a0 : Nat) (a1 : Int32) (a2 : Int32) {r : Int32} (h : fX6_kindSwapped n S a0 a1 a2 = some r) : Ci l yX6_kindSwapped wsX6_kindSwapped 2 45 D cc E [.ref a0, .int a1, .int a2] S r S 0 0 := by
  refine C_of (own := RX6) (bb := cX6_kindSwapped) (nL := 3) (ret := (some .int)) (by decide) rfl rfl (Nat.le_of_ble_eq_true rfl) ?_
  intro p e s m args below meth c hx hb hr hlocks hml hts hown hnm hA hK hro hw ls hl
  generalize va_A (cPs cc S) (nx S) = A at hA hro hw ⊢
  unfold fX6_kindSwapped at h
  have hinX6 : ∀ w ∈ wsX60, w ∈ wsX6_kindSwapped := by decide +kernel
  have hl : lv_has ls 3 [(0, .ref a0), (1, .int a1), (2, .int a2)] := hl
  refine lv_aload_n hx hb dX6_kindSwapped_0 rfl (lv_at hl 0 rfl) ?_
  refine lv_iload_n hx hb dX6_kindSwapped_1 rfl (lv_at hl 1 rfl) ?_
  refine lv_iconst (v := 3) hx hb dX6_kindSwapped_2 (by decide) ?_
  refine lv_iload_n hx hb dX6_kindSwapped_3 rfl (lv_at hl 2 rfl) ?_
  obtain ⟨hf1, h⟩ := of_grd h
  obtain ⟨q4, hq4, h⟩ := of_cal h
  refine C_i hA hw (va_runV (As := [.int a1, .int (3 : Int32), .int a2]) (rest := []) ⟨hx, hb, hml, hown, hts⟩ (cX6_isRule_ok l D cc E n S a0 a1 (3 : Int32) a2 hq4) (cwV 3 hts gX6_kindSwapped_X6_isRule rfl rfl rfl (by decide +kernel) ⟨Nat.le_of_ble_eq_true rfl, Nat.le_of_ble_eq_true rfl⟩) ⟨cBlind D cc E S _, C_recv hK hw (by omega) (cell_7 hf1) (r := (RX6, TX6, 5)) rfl, fun U hU hW => ⟨rfl, C_pre hA hK hro hw U hU hW⟩⟩ rfl rfl hl.1 rfl (lv_room (Nat.le_of_ble_eq_true rfl)) dX6_kindSwapped_4 ⟨Nat.le_refl _, Nat.le_refl _⟩) (fun H locs hw => ?_)
  refine W.widen (k := 0) (n := 0) (Nat.le_refl _) (Nat.le_refl _) ?_
  refine lv_if_eq (tgt := 19) hx hb dX6_kindSwapped_7 (by decide) (fun c7 => ?_) (fun c7 => ?_)
  · have h := of_it h c7
    refine lv_iconst (v := -1) hx hb dX6_kindSwapped_19 (by decide) ?_
    obtain rfl := Option.some.inj h
    exact C_iret hx hb hr hlocks hw (by rfl) dX6_kindSwapped_20
  · have h := of_if h c7
    refine lv_aload_n hx hb dX6_kindSwapped_10 rfl (lv_at hl 0 rfl) ?_
    obtain ⟨b11, eb11, h⟩ := of_onn h
    refine C_get hx hb hts hinX6 hown hK hw (cell_7 hf1) (by omega) rfl 2 (by decide) (index := 18) (by decide +kernel) rfl (v := .ref b11) (congrArg (fun o => some (va_rf o)) eb11) dX6_kindSwapped_11 ?_
    refine lv_iload_n hx hb dX6_kindSwapped_14 rfl (lv_at hl 1 rfl) ?_
    obtain ⟨hf2, h⟩ := of_grd h
    obtain ⟨hi15, h⟩ := of_grd h
    refine C_iald hx hb hK hw hf2 (by decide) (by decide) hi15 dX6_kindSwapped_15 ?_
    refine lv_topi (fun v15 ev15 => ?_)
    have h := of_bnd h ev15
    refine lv_goto (tgt := 20) hx hb dX6_kindSwapped_16 (by decide) ?_
    obtain rfl := Option.some.inj h
    exact C_iret hx hb hr hlocks hw (by rfl) dX6_kindSwapped_20
