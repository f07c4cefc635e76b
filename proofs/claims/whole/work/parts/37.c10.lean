def fX9_init (n : Nat × Nat) (S : CS) (a0 : Nat) : Option (CS × Nat × Nat) :=
  adc 14 182 (bnd (nx S) (fun q9 => bnd (mnaS S) (fun S9 => grd (cD S9 a0 = 10) (bnd (uR S9 200 a0 (some q9)) (fun S13 => adc 1 8 (bnd (nx S13) (fun q19 => bnd (nw S13 48 8) (fun S19 => grd (cD S19 a0 = 10) (bnd (uR S19 201 a0 (some q19)) (fun S21 => adc 1 8 (bnd (nx S21) (fun q27 => bnd (nw S21 49 8) (fun S27 => grd (cD S27 a0 = 10) (bnd (uR S27 202 a0 (some q27)) (fun S29 => bnd (uI S29 203 a0 (0 : Int32)) (fun S34 => adc 1 256 (bnd (nx S34) (fun q41 => bnd (nw S34 50 256) (fun S41 => grd (cD S41 a0 = 10) (bnd (uR S41 204 a0 (some q41)) (fun S43 => adc 1 2048 (bnd (nx S43) (fun q50 => bnd (nw S43 51 2048) (fun S50 => grd (cD S50 a0 = 10) (bnd (uR S50 205 a0 (some q50)) (fun S52 => adc 1 256 (bnd (nx S52) (fun q59 => bnd (nw S52 52 256) (fun S59 => grd (cD S59 a0 = 10) (bnd (uR S59 206 a0 (some q59)) (fun S61 => adc 1 256 (bnd (nx S61) (fun q68 => bnd (nw S61 53 256) (fun S68 => grd (cD S68 a0 = 10) (bnd (uR S68 207 a0 (some q68)) (fun S70 => adc 1 15 (bnd (nx S70) (fun q76 => bnd (nw S70 54 15) (fun S76 => grd (cD S76 a0 = 10) (bnd (uR S76 208 a0 (some q76)) (fun S78 => bnd (uI S78 209 a0 (-1 : Int32)) (fun S83 => some (S83, 0, 0)))))))))))))))))))))))))))))))))))))))))))
set_option maxHeartbeats 8000000 in
set_option maxRecDepth 100000 in
theorem cX9_init_ok (l : Launch) (D : va_G) (cc : Nat → ClassId) (E : Nat → Nat) (n : Nat × Nat) (S : CS) (a0 : Nat) {T : CS} {mc ms : Nat} (h : fX9_init n S a0 = some (T, mc, ms)) : Cv l yX9_init wsX9_init 1 20 D cc E [.ref a0] S T mc ms := by
  refine C_of (own := RX9) (bb := cX9_init) (nL := 1) (ret := none) (by decide) rfl rfl (Nat.le_of_ble_eq_true rfl) ?_
  intro p e s m args below meth c hx hb hr hlocks hml hts hown hnm hA hK hro hw ls hl
  generalize va_A (cPs cc S) (nx S) = A at hA hro hw ⊢
  unfold fX9_init at h
  have hinX9 : ∀ w ∈ wsX90, w ∈ wsX9_init := by decide +kernel
  have hl : lv_has ls 1 [(0, .ref a0)] := hl
  refine W.widen (k := mc - mc) (n := ms - ms) (by omega) (by omega) ?_
  have hk1 : mc ≤ mc := Nat.le_refl _
  have hk2 : ms ≤ ms := Nat.le_refl _
  refine lv_aload_n hx hb dX9_init_0 rfl (lv_at hl 0 rfl) ?_
  refine W.objInit hx hb hown (hts (.methodLink RX9 3 objectInit) (by decide +kernel)) (hts (.instanceMethod objectInit) (by decide +kernel)) (hts (.code objectInit ⟨#[0xb1]⟩ 1 none) (by decide +kernel)) rfl (by rw [hml]; exact hl.1) rfl dX9_init_1 (Nat.le_of_ble_eq_true rfl) (Nat.le_of_ble_eq_true rfl) ?_
  refine W.eq (g2 := F0 m 4 ls []) rfl ?_
  refine lv_aload_n hx hb dX9_init_4 rfl (lv_at hl 0 rfl) ?_
  refine lv_bipush (v := 13) hx hb dX9_init_5 (by decide) ?_
  refine lv_bipush (v := 13) hx hb dX9_init_7 (by decide) ?_
  obtain ⟨kc1, ks1, h, ek1, ek2⟩ := of_adc h
  refine C_mna hx hb hown (index := 9) (hts (.classLink RX9 9 "[[I") (by decide +kernel)) hro.2.2.2.2.2.2.2.2.2.2.2.2 (hts (.arrayClass .int) (by decide +kernel)) hK hA hw (by show _ ≤ mc; omega) (by show _ ≤ ms; omega) dX9_init_9 (fun q9 S9 H eq9 eS9 hw => ?_)
  have h := of_bnd h eq9
  have h := of_bnd h eS9
  refine W.widen (k := mc - kc1) (n := ms - ks1) (by omega) (by omega) ?_
  have hk1 : kc1 ≤ mc := by omega
  have hk2 : ks1 ≤ ms := by omega
  obtain ⟨hf2, h⟩ := of_grd h
  refine C_putF hx hb hts hinX9 tyX9 tyX9_ok nmX9 hown hK hw (cell_10 hf2) (by omega) rfl 0 (by decide) (index := 11) (by decide +kernel) rfl rfl hnm rfl (ty := (.array (.array .int))) (by decide +kernel) rfl rfl (Nat.le_of_ble_eq_true rfl) (S' := uR S9 200 a0 (some q9)) rfl rfl rfl (pu_200 hf2 (some q9)) (fun b hb => off_uR hb) dX9_init_13 (fun S13 H locs eS13 hw => ?_)
  have h := of_bnd h eS13
  refine lv_aload_n hx hb dX9_init_16 rfl (lv_at hl 0 rfl) ?_
  refine lv_bipush (v := 8) hx hb dX9_init_17 (by decide) ?_
  obtain ⟨kc3, ks3, h, ek1, ek2⟩ := of_adc h
  refine C_newa (d := 48) hx hb hts (by decide +kernel) (ty := .int) rfl hK hA hw 0 rfl (fun _ _ => rfl) (N' := 8) (fun _ => rfl) (cnew_A S13 (by decide) (by decide)) (by decide) (by decide) (by decide) (by decide) (by show _ ≤ mc; omega) (by show _ ≤ ms; omega) dX9_init_19 (fun q19 S19 H eq19 eS19 hw => ?_)
  have h := of_bnd h eq19
  have h := of_bnd h eS19
  refine W.widen (k := mc - kc3) (n := ms - ks3) (by omega) (by omega) ?_
  have hk1 : kc3 ≤ mc := by omega
  have hk2 : ks3 ≤ ms := by omega
  have hf4 : cD S19 q19 = 48 := by rw [eS19, eq19]; exact cD_new _ _ _
  obtain ⟨hf5, h⟩ := of_grd h
  refine C_putF hx hb hts hinX9 tyX9 tyX9_ok nmX9 hown hK hw (cell_10 hf5) (by omega) rfl 1 (by decide) (index := 16) (by decide +kernel) rfl rfl hnm rfl (ty := (.array .int)) (by decide +kernel) rfl rfl (Nat.le_of_ble_eq_true rfl) (S' := uR S19 201 a0 (some q19)) rfl rfl rfl (pu_201 hf5 (some q19)) (fun b hb => off_uR hb) dX9_init_21 (fun S21 H locs eS21 hw => ?_)
  have h := of_bnd h eS21
  refine lv_aload_n hx hb dX9_init_24 rfl (lv_at hl 0 rfl) ?_
  refine lv_bipush (v := 8) hx hb dX9_init_25 (by decide) ?_
  obtain ⟨kc6, ks6, h, ek1, ek2⟩ := of_adc h
  refine C_newa (d := 49) hx hb hts (by decide +kernel) (ty := .int) rfl hK hA hw 0 rfl (fun _ _ => rfl) (N' := 8) (fun _ => rfl) (cnew_A S21 (by decide) (by decide)) (by decide) (by decide) (by decide) (by decide) (by show _ ≤ mc; omega) (by show _ ≤ ms; omega) dX9_init_27 (fun q27 S27 H eq27 eS27 hw => ?_)
  have h := of_bnd h eq27
  have h := of_bnd h eS27
  refine W.widen (k := mc - kc6) (n := ms - ks6) (by omega) (by omega) ?_
  have hk1 : kc6 ≤ mc := by omega
  have hk2 : ks6 ≤ ms := by omega
  have hf7 : cD S27 q27 = 49 := by rw [eS27, eq27]; exact cD_new _ _ _
  obtain ⟨hf8, h⟩ := of_grd h
  refine C_putF hx hb hts hinX9 tyX9 tyX9_ok nmX9 hown hK hw (cell_10 hf8) (by omega) rfl 2 (by decide) (index := 20) (by decide +kernel) rfl rfl hnm rfl (ty := (.array .int)) (by decide +kernel) rfl rfl (Nat.le_of_ble_eq_true rfl) (S' := uR S27 202 a0 (some q27)) rfl rfl rfl (pu_202 hf8 (some q27)) (fun b hb => off_uR hb) dX9_init_29 (fun S29 H locs eS29 hw => ?_)
  have h := of_bnd h eS29
  refine lv_aload_n hx hb dX9_init_32 rfl (lv_at hl 0 rfl) ?_
  refine lv_iconst (v := 0) hx hb dX9_init_33 (by decide) ?_
  have hf9 : cD S29 a0 = 10 := by rw [eS29]; exact hf8
  refine C_put hx hb hts hinX9 tyX9 tyX9_ok nmX9 hown hK hw (cell_10 hf9) (by omega) rfl 3 (by decide) (index := 23) (by decide +kernel) rfl rfl (ty := .int) (by decide +kernel) rfl rfl (Nat.le_of_ble_eq_true rfl) (S' := uI S29 203 a0 (0 : Int32)) rfl rfl rfl (pu_203 hf9 (0 : Int32)) (fun b hb => off_uI hb) dX9_init_34 (fun S34 H locs eS34 hw => ?_)
  have h := of_bnd h eS34
  refine lv_aload_n hx hb dX9_init_37 rfl (lv_at hl 0 rfl) ?_
  refine lv_sipush (v := 256) hx hb dX9_init_38 (by decide) ?_
  obtain ⟨kc10, ks10, h, ek1, ek2⟩ := of_adc h
  refine C_newa (d := 50) hx hb hts (by decide +kernel) (ty := .int) rfl hK hA hw 0 rfl (fun _ _ => rfl) (N' := 256) (fun _ => rfl) (cnew_A S34 (by decide) (by decide)) (by decide) (by decide) (by decide) (by decide) (by show _ ≤ mc; omega) (by show _ ≤ ms; omega) dX9_init_41 (fun q41 S41 H eq41 eS41 hw => ?_)
  have h := of_bnd h eq41
  have h := of_bnd h eS41
  refine W.widen (k := mc - kc10) (n := ms - ks10) (by omega) (by omega) ?_
  have hk1 : kc10 ≤ mc := by omega
  have hk2 : ks10 ≤ ms := by omega
  have hf11 : cD S41 q41 = 50 := by rw [eS41, eq41]; exact cD_new _ _ _
  obtain ⟨hf12, h⟩ := of_grd h
  refine C_putF hx hb hts hinX9 tyX9 tyX9_ok nmX9 hown hK hw (cell_10 hf12) (by omega) rfl 4 (by decide) (index := 27) (by decide +kernel) rfl rfl hnm rfl (ty := (.array .int)) (by decide +kernel) rfl rfl (Nat.le_of_ble_eq_true rfl) (S' := uR S41 204 a0 (some q41)) rfl rfl rfl (pu_204 hf12 (some q41)) (fun b hb => off_uR hb) dX9_init_43 (fun S43 H locs eS43 hw => ?_)
  have h := of_bnd h eS43
  refine lv_aload_n hx hb dX9_init_46 rfl (lv_at hl 0 rfl) ?_
  refine lv_sipush (v := 2048) hx hb dX9_init_47 (by decide) ?_
  obtain ⟨kc13, ks13, h, ek1, ek2⟩ := of_adc h
  refine C_newa (d := 51) hx hb hts (by decide +kernel) (ty := .int) rfl hK hA hw 0 rfl (fun _ _ => rfl) (N' := 2048) (fun _ => rfl) (cnew_A S43 (by decide) (by decide)) (by decide) (by decide) (by decide) (by decide) (by show _ ≤ mc; omega) (by show _ ≤ ms; omega) dX9_init_50 (fun q50 S50 H eq50 eS50 hw => ?_)
  have h := of_bnd h eq50
  have h := of_bnd h eS50
  refine W.widen (k := mc - kc13) (n := ms - ks13) (by omega) (by omega) ?_
  have hk1 : kc13 ≤ mc := by omega
  have hk2 : ks13 ≤ ms := by omega
  have hf14 : cD S50 q50 = 51 := by rw [eS50, eq50]; exact cD_new _ _ _
  obtain ⟨hf15, h⟩ := of_grd h
  refine C_putF hx hb hts hinX9 tyX9 tyX9_ok nmX9 hown hK hw (cell_10 hf15) (by omega) rfl 5 (by decide) (index := 30) (by decide +kernel) rfl rfl hnm rfl (ty := (.array .int)) (by decide +kernel) rfl rfl (Nat.le_of_ble_eq_true rfl) (S' := uR S50 205 a0 (some q50)) rfl rfl rfl (pu_205 hf15 (some q50)) (fun b hb => off_uR hb) dX9_init_52 (fun S52 H locs eS52 hw => ?_)
  have h := of_bnd h eS52
  refine lv_aload_n hx hb dX9_init_55 rfl (lv_at hl 0 rfl) ?_
  refine lv_sipush (v := 256) hx hb dX9_init_56 (by decide) ?_
  obtain ⟨kc16, ks16, h, ek1, ek2⟩ := of_adc h
  refine C_newa (d := 52) hx hb hts (by decide +kernel) (ty := .int) rfl hK hA hw 0 rfl (fun _ _ => rfl) (N' := 256) (fun _ => rfl) (cnew_A S52 (by decide) (by decide)) (by decide) (by decide) (by decide) (by decide) (by show _ ≤ mc; omega) (by show _ ≤ ms; omega) dX9_init_59 (fun q59 S59 H eq59 eS59 hw => ?_)
  have h := of_bnd h eq59
  have h := of_bnd h eS59
  refine W.widen (k := mc - kc16) (n := ms - ks16) (by omega) (by omega) ?_
  have hk1 : kc16 ≤ mc := by omega
  have hk2 : ks16 ≤ ms := by omega
  have hf17 : cD S59 q59 = 52 := by rw [eS59, eq59]; exact cD_new _ _ _
  obtain ⟨hf18, h⟩ := of_grd h
  refine C_putF hx hb hts hinX9 tyX9 tyX9_ok nmX9 hown hK hw (cell_10 hf18) (by omega) rfl 6 (by decide) (index := 33) (by decide +kernel) rfl rfl hnm rfl (ty := (.array .int)) (by decide +kernel) rfl rfl (Nat.le_of_ble_eq_true rfl) (S' := uR S59 206 a0 (some q59)) rfl rfl rfl (pu_206 hf18 (some q59)) (fun b hb => off_uR hb) dX9_init_61 (fun S61 H locs eS61 hw => ?_)
  have h := of_bnd h eS61
  refine lv_aload_n hx hb dX9_init_64 rfl (lv_at hl 0 rfl) ?_
  refine lv_sipush (v := 256) hx hb dX9_init_65 (by decide) ?_
  obtain ⟨kc19, ks19, h, ek1, ek2⟩ := of_adc h
  refine C_newa (d := 53) hx hb hts (by decide +kernel) (ty := .int) rfl hK hA hw 0 rfl (fun _ _ => rfl) (N' := 256) (fun _ => rfl) (cnew_A S61 (by decide) (by decide)) (by decide) (by decide) (by decide) (by decide) (by show _ ≤ mc; omega) (by show _ ≤ ms; omega) dX9_init_68 (fun q68 S68 H eq68 eS68 hw => ?_)
  have h := of_bnd h eq68
  have h := of_bnd h eS68
  refine W.widen (k := mc - kc19) (n := ms - ks19) (by omega) (by omega) ?_
  have hk1 : kc19 ≤ mc := by omega
  have hk2 : ks19 ≤ ms := by omega
  have hf20 : cD S68 q68 = 53 := by rw [eS68, eq68]; exact cD_new _ _ _
  obtain ⟨hf21, h⟩ := of_grd h
  refine C_putF hx hb hts hinX9 tyX9 tyX9_ok nmX9 hown hK hw (cell_10 hf21) (by omega) rfl 7 (by decide) (index := 36) (by decide +kernel) rfl rfl hnm rfl (ty := (.array .int)) (by decide +kernel) rfl rfl (Nat.le_of_ble_eq_true rfl) (S' := uR S68 207 a0 (some q68)) rfl rfl rfl (pu_207 hf21 (some q68)) (fun b hb => off_uR hb) dX9_init_70 (fun S70 H locs eS70 hw => ?_)
  have h := of_bnd h eS70
  refine lv_aload_n hx hb dX9_init_73 rfl (lv_at hl 0 rfl) ?_
  refine lv_bipush (v := 15) hx hb dX9_init_74 (by decide) ?_
  obtain ⟨kc22, ks22, h, ek1, ek2⟩ := of_adc h
  refine C_newa (d := 54) hx hb hts (by decide +kernel) (ty := .int) rfl hK hA hw 0 rfl (fun _ _ => rfl) (N' := 15) (fun _ => rfl) (cnew_A S70 (by decide) (by decide)) (by decide) (by decide) (by decide) (by decide) (by show _ ≤ mc; omega) (by show _ ≤ ms; omega) dX9_init_76 (fun q76 S76 H eq76 eS76 hw => ?_)
  have h := of_bnd h eq76
  have h := of_bnd h eS76
  refine W.widen (k := mc - kc22) (n := ms - ks22) (by omega) (by omega) ?_
  have hk1 : kc22 ≤ mc := by omega
  have hk2 : ks22 ≤ ms := by omega
  have hf23 : cD S76 q76 = 54 := by rw [eS76, eq76]; exact cD_new _ _ _
  obtain ⟨hf24, h⟩ := of_grd h
  refine C_putF hx hb hts hinX9 tyX9 tyX9_ok nmX9 hown hK hw (cell_10 hf24) (by omega) rfl 8 (by decide) (index := 39) (by decide +kernel) rfl rfl hnm rfl (ty := (.array .int)) (by decide +kernel) rfl rfl (Nat.le_of_ble_eq_true rfl) (S' := uR S76 208 a0 (some q76)) rfl rfl rfl (pu_208 hf24 (some q76)) (fun b hb => off_uR hb) dX9_init_78 (fun S78 H locs eS78 hw => ?_)
  have h := of_bnd h eS78
  refine lv_aload_n hx hb dX9_init_81 rfl (lv_at hl 0 rfl) ?_
  refine lv_iconst (v := -1) hx hb dX9_init_82 (by decide) ?_
  have hf25 : cD S78 a0 = 10 := by rw [eS78]; exact hf24
  refine C_put hx hb hts hinX9 tyX9 tyX9_ok nmX9 hown hK hw (cell_10 hf25) (by omega) rfl 9 (by decide) (index := 42) (by decide +kernel) rfl rfl (ty := .int) (by decide +kernel) rfl rfl (Nat.le_of_ble_eq_true rfl) (S' := uI S78 209 a0 (-1 : Int32)) rfl rfl rfl (pu_209 hf25 (-1 : Int32)) (fun b hb => off_uI hb) dX9_init_83 (fun S83 H locs eS83 hw => ?_)
  have h := of_bnd h eS83
  obtain ⟨rfl, ek1, ek2⟩ := of_retV h
  refine W.widen (k := mc) (n := ms) (by omega) (by omega) ?_
  exact C_vret hx hb hr hlocks hw dX9_init_86

def fX11_init (n : Nat × Nat) (S : CS) (a0 : Nat) : Option (CS × Nat × Nat) :=
  adc 1 10 (bnd (nx S) (fun q7 => bnd (nw S 40 10) (fun S7 => grd (cD S7 a0 = 12) (bnd (uR S7 240 a0 (some q7)) (fun S9 => adc 1 2 (bnd (nx S9) (fun q13 => bnd (nw S9 8 0) (fun S13 => cal (fX7_init n S13 q13) (un2 fun S17 u17 => un2 (fun c1_17 c2_17 => adc c1_17 c2_17 (grd (cD S17 a0 = 12) (bnd (uR S17 241 a0 (some q13)) (fun S20 => adc 1 3 (bnd (nx S20) (fun q24 => bnd (nw S20 21 0) (fun S24 => cal (fL_init n 1 S24 q24) (fun S28 => grd (cD S28 a0 = 12) (bnd (uR S28 242 a0 (some q24)) (fun S31 => adc 1 3 (bnd (nx S31) (fun q35 => bnd (nw S31 22 0) (fun S35 => cal (fL_init n 2 S35 q35) (fun S39 => grd (cD S39 a0 = 12) (bnd (uR S39 243 a0 (some q35)) (fun S42 => adc 1 3 (bnd (nx S42) (fun q46 => bnd (nw S42 23 0) (fun S46 => cal (fL_init n 3 S46 q46) (fun S50 => grd (cD S50 a0 = 12) (bnd (uR S50 244 a0 (some q46)) (fun S53 => adc 1 6 (bnd (nx S53) (fun q57 => bnd (nw S53 6 0) (fun S57 => cal (fX5_init n S57 q57) (un2 fun S61 u61 => un2 (fun c1_61 c2_61 => adc c1_61 c2_61 (grd (cD S61 a0 = 12) (bnd (uR S61 245 a0 (some q57)) (fun S64 => adc 1 10 (bnd (nx S64) (fun q68 => bnd (nw S64 10 0) (fun S68 => cal (fX9_init n S68 q68) (un2 fun S72 u72 => un2 (fun c1_72 c2_72 => adc c1_72 c2_72 (grd (cD S72 a0 = 12) (bnd (uR S72 246 a0 (some q68)) (fun S75 => adc 1 5 (bnd (nx S75) (fun q79 => bnd (nw S75 7 0) (fun S79 => cal (fX6_init n S79 q79) (un2 fun S83 u83 => un2 (fun c1_83 c2_83 => adc c1_83 c2_83 (grd (cD S83 a0 = 12) (bnd (uR S83 247 a0 (some q79)) (fun S86 => bnd (uI S86 248 a0 (0 : Int32)) (fun S91 => bnd (uI S91 249 a0 (0 : Int32)) (fun S96 => bnd (uI S96 250 a0 (0 : Int32)) (fun S101 => bnd (uI S101 251 a0 (0 : Int32)) (fun S106 => some (S106, 0, 0))))))))) u83)))))))) u72)))))))) u61)))))))))))))))))))))))))) u17)))))))))
set_option maxHeartbeats 8000000 in
set_option maxRecDepth 100000 in
theorem cX11_init_ok (l : Launch) (D : va_G) (cc : Nat → ClassId) (E : Nat → Nat) (n : Nat × Nat) (hE : E 0 = n.2) (S : CS) (a0 : Nat) {T : CS} {mc ms : Nat} (h : fX11_init n S a0 = some (T, mc, ms)) : Cv l yX11_init wsX11_init 5 100 D cc E [.ref a0] S T mc ms := by
  refine C_of (own := RX11) (bb := cX11_init) (nL := 1) (ret := none) (by decide) rfl rfl (Nat.le_of_ble_eq_true rfl) ?_
  intro p e s m args below meth c hx hb hr hlocks hml hts hown hnm hA hK hro hw ls hl
  generalize va_A (cPs cc S) (nx S) = A at hA hro hw ⊢
  unfold fX11_init at h
  have hinJx4a65c : ∀ w ∈ wsJx4a65c0, w ∈ wsX11_init := by decide +kernel
  have hinX11 : ∀ w ∈ wsX110, w ∈ wsX11_init := by decide +kernel
  have hinX5 : ∀ w ∈ wsX50, w ∈ wsX11_init := by decide +kernel
  have hinX6 : ∀ w ∈ wsX60, w ∈ wsX11_init := by decide +kernel
  have hinX7 : ∀ w ∈ wsX70, w ∈ wsX11_init := by decide +kernel
  have hinX9 : ∀ w ∈ wsX90, w ∈ wsX11_init := by decide +kernel
  have hl : lv_has ls 1 [(0, .ref a0)] := hl
  refine W.widen (k := mc - mc) (n := ms - ms) (by omega) (by omega) ?_
  have hk1 : mc ≤ mc := Nat.le_refl _
  have hk2 : ms ≤ ms := Nat.le_refl _
  refine lv_aload_n hx hb dX11_init_0 rfl (lv_at hl 0 rfl) ?_
  refine W.objInit hx hb hown (hts (.methodLink RX11 1 objectInit) (by decide +kernel)) (hts (.instanceMethod objectInit) (by decide +kernel)) (hts (.code objectInit ⟨#[0xb1]⟩ 1 none) (by decide +kernel)) rfl (by rw [hml]; exact hl.1) rfl dX11_init_1 (Nat.le_of_ble_eq_true rfl) (Nat.le_of_ble_eq_true rfl) ?_
  refine W.eq (g2 := F0 m 4 ls []) rfl ?_
  refine lv_aload_n hx hb dX11_init_4 rfl (lv_at hl 0 rfl) ?_
  refine lv_bipush (v := 10) hx hb dX11_init_5 (by decide) ?_
  obtain ⟨kc1, ks1, h, ek1, ek2⟩ := of_adc h
  refine C_newa (d := 40) hx hb hts (by decide +kernel) (ty := .int) rfl hK hA hw 0 rfl (fun _ _ => rfl) (N' := 10) (fun _ => rfl) (cnew_A S (by decide) (by decide)) (by decide) (by decide) (by decide) (by decide) (by show _ ≤ mc; omega) (by show _ ≤ ms; omega) dX11_init_7 (fun q7 S7 H eq7 eS7 hw => ?_)
  have h := of_bnd h eq7
  have h := of_bnd h eS7
  refine W.widen (k := mc - kc1) (n := ms - ks1) (by omega) (by omega) ?_
  have hk1 : kc1 ≤ mc := by omega
  have hk2 : ks1 ≤ ms := by omega
  have hf2 : cD S7 q7 = 40 := by rw [eS7, eq7]; exact cD_new _ _ _
  obtain ⟨hf3, h⟩ := of_grd h
  refine C_putF hx hb hts hinX11 tyX11 tyX11_ok nmX11 hown hK hw (cell_12 hf3) (by omega) rfl 0 (by decide) (index := 9) (by decide +kernel) rfl rfl hnm rfl (ty := (.array .int)) (by decide +kernel) rfl rfl (Nat.le_of_ble_eq_true rfl) (S' := uR S7 240 a0 (some q7)) rfl rfl rfl (pu_240 hf3 (some q7)) (fun b hb => off_uR hb) dX11_init_9 (fun S9 H locs eS9 hw => ?_)
  have h := of_bnd h eS9
  refine lv_aload_n hx hb dX11_init_12 rfl (lv_at hl 0 rfl) ?_
  obtain ⟨kc4, ks4, h, ek1, ek2⟩ := of_adc h
  refine C_new (d := 8) hx hb hts hinX7 tyX7 tyX7_ok hown (index := 13) (by decide +kernel) (by decide +kernel) (by decide +kernel) hK hA hw rfl (fun j hj => dfX7 j hj) (cnew_8 S9) (by show _ ≤ mc; omega) (by show _ ≤ ms; omega) dX11_init_13 (fun q13 S13 H eq13 eS13 hw => ?_)
  have h := of_bnd h eq13
  have h := of_bnd h eS13
  refine W.widen (k := mc - kc4) (n := ms - ks4) (by omega) (by omega) ?_
  have hk1 : kc4 ≤ mc := by omega
  have hk2 : ks4 ≤ ms := by omega
  have hf5 : cD S13 q13 = 8 := by rw [eS13, eq13]; exact cD_new _ _ _
  refine lv_dup hx hb dX11_init_16 rfl ?_
  obtain ⟨q17, hq17, h⟩ := of_cal h
  obtain ⟨S17, c1_17, c2_17⟩ := q17
  have h := of_un2 h
  have h := of_un2 h
  obtain ⟨kc6, ks6, h, ek1, ek2⟩ := of_adc h
  refine C_v hA hw (va_runIN (As := []) (rest := [.ref q13, .ref a0]) ⟨hx, hb, hml, hown, hts⟩ (cX7_init_ok l D cc E n hE S13 q13 hq17) ⟨va_cnB 0 hts gX11_init_X7_init_n15 rfl rfl rfl (hro.1 (RX11, 15, yX7_init) (by decide +kernel)) (hts (.initialized RX7) (by decide +kernel)) (by decide +kernel) ⟨Nat.le_of_ble_eq_true rfl, Nat.le_of_ble_eq_true rfl⟩, rfl, (hts (.instanceMethod yX7_init) (by decide +kernel))⟩ ⟨cBlind D cc E S13 _, fun U hU hW => ⟨rfl, C_pre hA hK hro hw U hU hW⟩⟩ rfl rfl hl.1 rfl (lv_room (Nat.le_of_ble_eq_true rfl)) dX11_init_17 ⟨by show _ ≤ mc; omega, by show _ ≤ ms; omega⟩) (fun H locs hw => ?_)
  refine W.widen (k := mc - kc6) (n := ms - ks6) (by omega) (by omega) ?_
  have hk1 : kc6 ≤ mc := by omega
  have hk2 : ks6 ≤ ms := by omega
  obtain ⟨hf7, h⟩ := of_grd h
  refine C_putF hx hb hts hinX11 tyX11 tyX11_ok nmX11 hown hK hw (cell_12 hf7) (by omega) rfl 1 (by decide) (index := 16) (by decide +kernel) rfl rfl hnm rfl (ty := (.object "FoodShares$Stock")) (by decide +kernel) rfl rfl (Nat.le_of_ble_eq_true rfl) (S' := uR S17 241 a0 (some q13)) rfl rfl rfl (pu_241 hf7 (some q13)) (fun b hb => off_uR hb) dX11_init_20 (fun S20 H locs eS20 hw => ?_)
  have h := of_bnd h eS20
  refine lv_aload_n hx hb dX11_init_23 rfl (lv_at hl 0 rfl) ?_
  obtain ⟨kc8, ks8, h, ek1, ek2⟩ := of_adc h
  refine C_new (d := 21) hx hb hts hinJx4a65c tyJx4a65c tyJx4a65c_ok hown (index := 20) (by decide +kernel) (by decide +kernel) (by decide +kernel) hK hA hw rfl (fun j hj => dfJx4a65c j hj) (cnew_L (r := 1) (by decide) S20) (by show _ ≤ mc; omega) (by show _ ≤ ms; omega) dX11_init_24 (fun q24 S24 H eq24 eS24 hw => ?_)
  have h := of_bnd h eq24
  have h := of_bnd h eS24
  refine W.widen (k := mc - kc8) (n := ms - ks8) (by omega) (by omega) ?_
  have hk1 : kc8 ≤ mc := by omega
  have hk2 : ks8 ≤ ms := by omega
  have hf9 : cD S24 q24 = 21 := by rw [eS24, eq24]; exact cD_new _ _ _
  refine lv_dup hx hb dX11_init_27 rfl ?_
  obtain ⟨q28, hq28, h⟩ := of_cal h
  obtain ⟨S28, eS28⟩ : ∃ x, x = q28 := ⟨_, rfl⟩
  subst eS28
  refine C_v hA hw (va_runI (As := []) (rest := [.ref q24, .ref a0]) ⟨hx, hb, hml, hown, hts⟩ (cL_init_ok l D cc E n hE 1 (by decide) S24 q24 hq28) (cwI 0 hts gX11_init_Jx4a65c_init_da8c8 rfl rfl rfl (hts (.initialized RJx4a65c) (by decide +kernel)) (hts (.methodLink RX11 22 yJx4a65c_init_da8c8) (by decide +kernel)) (hts (.instanceMethod yJx4a65c_init_da8c8) (by decide +kernel)) rfl (by decide +kernel) ⟨Nat.le_of_ble_eq_true rfl, Nat.le_of_ble_eq_true rfl⟩) ⟨cBlind D cc E S24 _, fun U hU hW => ⟨rfl, C_pre hA hK hro hw U hU hW⟩⟩ rfl rfl hl.1 rfl (lv_room (Nat.le_of_ble_eq_true rfl)) dX11_init_28 ⟨by show _ ≤ mc; omega, by show _ ≤ ms; omega⟩) (fun H locs hw => ?_)
  refine W.widen (k := mc - kc8) (n := ms - ks8) (Nat.le_refl _) (Nat.le_refl _) ?_
  obtain ⟨hf10, h⟩ := of_grd h
  refine C_putF hx hb hts hinX11 tyX11 tyX11_ok nmX11 hown hK hw (cell_12 hf10) (by omega) rfl 2 (by decide) (index := 23) (by decide +kernel) rfl rfl hnm rfl (ty := (.object "java/util/ArrayList")) (by decide +kernel) rfl rfl (Nat.le_of_ble_eq_true rfl) (S' := uR S28 242 a0 (some q24)) rfl rfl rfl (pu_242 hf10 (some q24)) (fun b hb => off_uR hb) dX11_init_31 (fun S31 H locs eS31 hw => ?_)
  have h := of_bnd h eS31
  refine lv_aload_n hx hb dX11_init_34 rfl (lv_at hl 0 rfl) ?_
  obtain ⟨kc11, ks11, h, ek1, ek2⟩ := of_adc h
  refine C_new (d := 22) hx hb hts hinJx4a65c tyJx4a65c tyJx4a65c_ok hown (index := 20) (by decide +kernel) (by decide +kernel) (by decide +kernel) hK hA hw rfl (fun j hj => dfJx4a65c j hj) (cnew_L (r := 2) (by decide) S31) (by show _ ≤ mc; omega) (by show _ ≤ ms; omega) dX11_init_35 (fun q35 S35 H eq35 eS35 hw => ?_)
  have h := of_bnd h eq35
  have h := of_bnd h eS35
  refine W.widen (k := mc - kc11) (n := ms - ks11) (by omega) (by omega) ?_
  have hk1 : kc11 ≤ mc := by omega
  have hk2 : ks11 ≤ ms := by omega
  have hf12 : cD S35 q35 = 22 := by rw [eS35, eq35]; exact cD_new _ _ _
  refine lv_dup hx hb dX11_init_38 rfl ?_
  obtain ⟨q39, hq39, h⟩ := of_cal h
  obtain ⟨S39, eS39⟩ : ∃ x, x = q39 := ⟨_, rfl⟩
  subst eS39
  refine C_v hA hw (va_runI (As := []) (rest := [.ref q35, .ref a0]) ⟨hx, hb, hml, hown, hts⟩ (cL_init_ok l D cc E n hE 2 (by decide) S35 q35 hq39) (cwI 0 hts gX11_init_Jx4a65c_init_da8c8 rfl rfl rfl (hts (.initialized RJx4a65c) (by decide +kernel)) (hts (.methodLink RX11 22 yJx4a65c_init_da8c8) (by decide +kernel)) (hts (.instanceMethod yJx4a65c_init_da8c8) (by decide +kernel)) rfl (by decide +kernel) ⟨Nat.le_of_ble_eq_true rfl, Nat.le_of_ble_eq_true rfl⟩) ⟨cBlind D cc E S35 _, fun U hU hW => ⟨rfl, C_pre hA hK hro hw U hU hW⟩⟩ rfl rfl hl.1 rfl (lv_room (Nat.le_of_ble_eq_true rfl)) dX11_init_39 ⟨by show _ ≤ mc; omega, by show _ ≤ ms; omega⟩) (fun H locs hw => ?_)
  refine W.widen (k := mc - kc11) (n := ms - ks11) (Nat.le_refl _) (Nat.le_refl _) ?_
  obtain ⟨hf13, h⟩ := of_grd h
  refine C_putF hx hb hts hinX11 tyX11 tyX11_ok nmX11 hown hK hw (cell_12 hf13) (by omega) rfl 3 (by decide) (index := 27) (by decide +kernel) rfl rfl hnm rfl (ty := (.object "java/util/ArrayList")) (by decide +kernel) rfl rfl (Nat.le_of_ble_eq_true rfl) (S' := uR S39 243 a0 (some q35)) rfl rfl rfl (pu_243 hf13 (some q35)) (fun b hb => off_uR hb) dX11_init_42 (fun S42 H locs eS42 hw => ?_)
  have h := of_bnd h eS42
  refine lv_aload_n hx hb dX11_init_45 rfl (lv_at hl 0 rfl) ?_
  obtain ⟨kc14, ks14, h, ek1, ek2⟩ := of_adc h
  refine C_new (d := 23) hx hb hts hinJx4a65c tyJx4a65c tyJx4a65c_ok hown (index := 20) (by decide +kernel) (by decide +kernel) (by decide +kernel) hK hA hw rfl (fun j hj => dfJx4a65c j hj) (cnew_L (r := 3) (by decide) S42) (by show _ ≤ mc; omega) (by show _ ≤ ms; omega) dX11_init_46 (fun q46 S46 H eq46 eS46 hw => ?_)
  have h := of_bnd h eq46
  have h := of_bnd h eS46
  refine W.widen (k := mc - kc14) (n := ms - ks14) (by omega) (by omega) ?_
  have hk1 : kc14 ≤ mc := by omega
  have hk2 : ks14 ≤ ms := by omega
  have hf15 : cD S46 q46 = 23 := by rw [eS46, eq46]; exact cD_new _ _ _
  refine lv_dup hx hb dX11_init_49 rfl ?_
  obtain ⟨q50, hq50, h⟩ := of_cal h
  obtain ⟨S50, eS50⟩ : ∃ x, x = q50 := ⟨_, rfl⟩
  subst eS50
  refine C_v hA hw (va_runI (As := []) (rest := [.ref q46, .ref a0]) ⟨hx, hb, hml, hown, hts⟩ (cL_init_ok l D cc E n hE 3 (by decide) S46 q46 hq50) (cwI 0 hts gX11_init_Jx4a65c_init_da8c8 rfl rfl rfl (hts (.initialized RJx4a65c) (by decide +kernel)) (hts (.methodLink RX11 22 yJx4a65c_init_da8c8) (by decide +kernel)) (hts (.instanceMethod yJx4a65c_init_da8c8) (by decide +kernel)) rfl (by decide +kernel) ⟨Nat.le_of_ble_eq_true rfl, Nat.le_of_ble_eq_true rfl⟩) ⟨cBlind D cc E S46 _, fun U hU hW => ⟨rfl, C_pre hA hK hro hw U hU hW⟩⟩ rfl rfl hl.1 rfl (lv_room (Nat.le_of_ble_eq_true rfl)) dX11_init_50 ⟨by show _ ≤ mc; omega, by show _ ≤ ms; omega⟩) (fun H locs hw => ?_)
  refine W.widen (k := mc - kc14) (n := ms - ks14) (Nat.le_refl _) (Nat.le_refl _) ?_
  obtain ⟨hf16, h⟩ := of_grd h
  refine C_putF hx hb hts hinX11 tyX11 tyX11_ok nmX11 hown hK hw (cell_12 hf16) (by omega) rfl 4 (by decide) (index := 30) (by decide +kernel) rfl rfl hnm rfl (ty := (.object "java/util/ArrayList")) (by decide +kernel) rfl rfl (Nat.le_of_ble_eq_true rfl) (S' := uR S50 244 a0 (some q46)) rfl rfl rfl (pu_244 hf16 (some q46)) (fun b hb => off_uR hb) dX11_init_53 (fun S53 H locs eS53 hw => ?_)
  have h := of_bnd h eS53
  refine lv_aload_n hx hb dX11_init_56 rfl (lv_at hl 0 rfl) ?_
  obtain ⟨kc17, ks17, h, ek1, ek2⟩ := of_adc h
  refine C_new (d := 6) hx hb hts hinX5 tyX5 tyX5_ok hown (index := 33) (by decide +kernel) (by decide +kernel) (by decide +kernel) hK hA hw rfl (fun j hj => dfX5 j hj) (cnew_6 S53) (by show _ ≤ mc; omega) (by show _ ≤ ms; omega) dX11_init_57 (fun q57 S57 H eq57 eS57 hw => ?_)
  have h := of_bnd h eq57
  have h := of_bnd h eS57
  refine W.widen (k := mc - kc17) (n := ms - ks17) (by omega) (by omega) ?_
  have hk1 : kc17 ≤ mc := by omega
  have hk2 : ks17 ≤ ms := by omega
  have hf18 : cD S57 q57 = 6 := by rw [eS57, eq57]; exact cD_new _ _ _
  refine lv_dup hx hb dX11_init_60 rfl ?_
  obtain ⟨q61, hq61, h⟩ := of_cal h
  obtain ⟨S61, c1_61, c2_61⟩ := q61
  have h := of_un2 h
  have h := of_un2 h
  obtain ⟨kc19, ks19, h, ek1, ek2⟩ := of_adc h
  refine C_v hA hw (va_runIN (As := []) (rest := [.ref q57, .ref a0]) ⟨hx, hb, hml, hown, hts⟩ (cX5_init_ok l D cc E n S57 q57 hq61) ⟨va_cnB 0 hts gX11_init_X5_init_n35 rfl rfl rfl (hro.1 (RX11, 35, yX5_init) (by decide +kernel)) (hts (.initialized RX5) (by decide +kernel)) (by decide +kernel) ⟨Nat.le_of_ble_eq_true rfl, Nat.le_of_ble_eq_true rfl⟩, rfl, (hts (.instanceMethod yX5_init) (by decide +kernel))⟩ ⟨cBlind D cc E S57 _, fun U hU hW => ⟨rfl, C_pre hA hK hro hw U hU hW⟩⟩ rfl rfl hl.1 rfl (lv_room (Nat.le_of_ble_eq_true rfl)) dX11_init_61 ⟨by show _ ≤ mc; omega, by show _ ≤ ms; omega⟩) (fun H locs hw => ?_)
  refine W.widen (k := mc - kc19) (n := ms - ks19) (by omega) (by omega) ?_
  have hk1 : kc19 ≤ mc := by omega
  have hk2 : ks19 ≤ ms := by omega
  obtain ⟨hf20, h⟩ := of_grd h
  refine C_putF hx hb hts hinX11 tyX11 tyX11_ok nmX11 hown hK hw (cell_12 hf20) (by omega) rfl 5 (by decide) (index := 36) (by decide +kernel) rfl rfl hnm rfl (ty := (.object "FoodShares$RuleReader")) (by decide +kernel) rfl rfl (Nat.le_of_ble_eq_true rfl) (S' := uR S61 245 a0 (some q57)) rfl rfl rfl (pu_245 hf20 (some q57)) (fun b hb => off_uR hb) dX11_init_64 (fun S64 H locs eS64 hw => ?_)
  have h := of_bnd h eS64
  refine lv_aload_n hx hb dX11_init_67 rfl (lv_at hl 0 rfl) ?_
  obtain ⟨kc21, ks21, h, ek1, ek2⟩ := of_adc h
  refine C_new (d := 10) hx hb hts hinX9 tyX9 tyX9_ok hown (index := 40) (by decide +kernel) (by decide +kernel) (by decide +kernel) hK hA hw rfl (fun j hj => dfX9 j hj) (cnew_10 S64) (by show _ ≤ mc; omega) (by show _ ≤ ms; omega) dX11_init_68 (fun q68 S68 H eq68 eS68 hw => ?_)
  have h := of_bnd h eq68
  have h := of_bnd h eS68
  refine W.widen (k := mc - kc21) (n := ms - ks21) (by omega) (by omega) ?_
  have hk1 : kc21 ≤ mc := by omega
  have hk2 : ks21 ≤ ms := by omega
  have hf22 : cD S68 q68 = 10 := by rw [eS68, eq68]; exact cD_new _ _ _
  refine lv_dup hx hb dX11_init_71 rfl ?_
  obtain ⟨q72, hq72, h⟩ := of_cal h
  obtain ⟨S72, c1_72, c2_72⟩ := q72
  have h := of_un2 h
  have h := of_un2 h
  obtain ⟨kc23, ks23, h, ek1, ek2⟩ := of_adc h
  refine C_v hA hw (va_runIN (As := []) (rest := [.ref q68, .ref a0]) ⟨hx, hb, hml, hown, hts⟩ (cX9_init_ok l D cc E n S68 q68 hq72) ⟨va_cnB 0 hts gX11_init_X9_init_n42 rfl rfl rfl (hro.1 (RX11, 42, yX9_init) (by decide +kernel)) (hts (.initialized RX9) (by decide +kernel)) (by decide +kernel) ⟨Nat.le_of_ble_eq_true rfl, Nat.le_of_ble_eq_true rfl⟩, rfl, (hts (.instanceMethod yX9_init) (by decide +kernel))⟩ ⟨cBlind D cc E S68 _, fun U hU hW => ⟨rfl, C_pre hA hK hro hw U hU hW⟩⟩ rfl rfl hl.1 rfl (lv_room (Nat.le_of_ble_eq_true rfl)) dX11_init_72 ⟨by show _ ≤ mc; omega, by show _ ≤ ms; omega⟩) (fun H locs hw => ?_)
  refine W.widen (k := mc - kc23) (n := ms - ks23) (by omega) (by omega) ?_
  have hk1 : kc23 ≤ mc := by omega
  have hk2 : ks23 ≤ ms := by omega
  obtain ⟨hf24, h⟩ := of_grd h
  refine C_putF hx hb hts hinX11 tyX11 tyX11_ok nmX11 hown hK hw (cell_12 hf24) (by omega) rfl 6 (by decide) (index := 43) (by decide +kernel) rfl rfl hnm rfl (ty := (.object "FoodShares$Vans")) (by decide +kernel) rfl rfl (Nat.le_of_ble_eq_true rfl) (S' := uR S72 246 a0 (some q68)) rfl rfl rfl (pu_246 hf24 (some q68)) (fun b hb => off_uR hb) dX11_init_75 (fun S75 H locs eS75 hw => ?_)
  have h := of_bnd h eS75
  refine lv_aload_n hx hb dX11_init_78 rfl (lv_at hl 0 rfl) ?_
  obtain ⟨kc25, ks25, h, ek1, ek2⟩ := of_adc h
  refine C_new (d := 7) hx hb hts hinX6 tyX6 tyX6_ok hown (index := 47) (by decide +kernel) (by decide +kernel) (by decide +kernel) hK hA hw rfl (fun j hj => dfX6 j hj) (cnew_7 S75) (by show _ ≤ mc; omega) (by show _ ≤ ms; omega) dX11_init_79 (fun q79 S79 H eq79 eS79 hw => ?_)
  have h := of_bnd h eq79
  have h := of_bnd h eS79
  refine W.widen (k := mc - kc25) (n := ms - ks25) (by omega) (by omega) ?_
  have hk1 : kc25 ≤ mc := by omega
  have hk2 : ks25 ≤ ms := by omega
  have hf26 : cD S79 q79 = 7 := by rw [eS79, eq79]; exact cD_new _ _ _
  refine lv_dup hx hb dX11_init_82 rfl ?_
  obtain ⟨q83, hq83, h⟩ := of_cal h
  obtain ⟨S83, c1_83, c2_83⟩ := q83
  have h := of_un2 h
  have h := of_un2 h
  obtain ⟨kc27, ks27, h, ek1, ek2⟩ := of_adc h
  refine C_v hA hw (va_runIN (As := []) (rest := [.ref q79, .ref a0]) ⟨hx, hb, hml, hown, hts⟩ (cX6_init_ok l D cc E n S79 q79 hq83) ⟨va_cnB 0 hts gX11_init_X6_init_n49 rfl rfl rfl (hro.1 (RX11, 49, yX6_init) (by decide +kernel)) (hts (.initialized RX6) (by decide +kernel)) (by decide +kernel) ⟨Nat.le_of_ble_eq_true rfl, Nat.le_of_ble_eq_true rfl⟩, rfl, (hts (.instanceMethod yX6_init) (by decide +kernel))⟩ ⟨cBlind D cc E S79 _, fun U hU hW => ⟨rfl, C_pre hA hK hro hw U hU hW⟩⟩ rfl rfl hl.1 rfl (lv_room (Nat.le_of_ble_eq_true rfl)) dX11_init_83 ⟨by show _ ≤ mc; omega, by show _ ≤ ms; omega⟩) (fun H locs hw => ?_)
  refine W.widen (k := mc - kc27) (n := ms - ks27) (by omega) (by omega) ?_
  have hk1 : kc27 ≤ mc := by omega
  have hk2 : ks27 ≤ ms := by omega
  obtain ⟨hf28, h⟩ := of_grd h
  refine C_put hx hb hts hinX11 tyX11 tyX11_ok nmX11 hown hK hw (cell_12 hf28) (by omega) rfl 7 (by decide) (index := 50) (by decide +kernel) rfl rfl (ty := (.object "FoodShares$RuleSet")) (by decide +kernel) rfl rfl (Nat.le_of_ble_eq_true rfl) (S' := uR S83 247 a0 (some q79)) rfl rfl rfl (pu_247 hf28 (some q79)) (fun b hb => off_uR hb) dX11_init_86 (fun S86 H locs eS86 hw => ?_)
  have h := of_bnd h eS86
  refine lv_aload_n hx hb dX11_init_89 rfl (lv_at hl 0 rfl) ?_
  refine lv_iconst (v := 0) hx hb dX11_init_90 (by decide) ?_
  have hf29 : cD S86 a0 = 12 := by rw [eS86]; exact hf28
  refine C_put hx hb hts hinX11 tyX11 tyX11_ok nmX11 hown hK hw (cell_12 hf29) (by omega) rfl 8 (by decide) (index := 54) (by decide +kernel) rfl rfl (ty := .int) (by decide +kernel) rfl rfl (Nat.le_of_ble_eq_true rfl) (S' := uI S86 248 a0 (0 : Int32)) rfl rfl rfl (pu_248 hf29 (0 : Int32)) (fun b hb => off_uI hb) dX11_init_91 (fun S91 H locs eS91 hw => ?_)
  have h := of_bnd h eS91
  refine lv_aload_n hx hb dX11_init_94 rfl (lv_at hl 0 rfl) ?_
  refine lv_iconst (v := 0) hx hb dX11_init_95 (by decide) ?_
  have hf30 : cD S91 a0 = 12 := by rw [eS91]; exact hf29
  refine C_put hx hb hts hinX11 tyX11 tyX11_ok nmX11 hown hK hw (cell_12 hf30) (by omega) rfl 9 (by decide) (index := 58) (by decide +kernel) rfl rfl (ty := .int) (by decide +kernel) rfl rfl (Nat.le_of_ble_eq_true rfl) (S' := uI S91 249 a0 (0 : Int32)) rfl rfl rfl (pu_249 hf30 (0 : Int32)) (fun b hb => off_uI hb) dX11_init_96 (fun S96 H locs eS96 hw => ?_)
  have h := of_bnd h eS96
  refine lv_aload_n hx hb dX11_init_99 rfl (lv_at hl 0 rfl) ?_
  refine lv_iconst (v := 0) hx hb dX11_init_100 (by decide) ?_
  have hf31 : cD S96 a0 = 12 := by rw [eS96]; exact hf30
  refine C_put hx hb hts hinX11 tyX11 tyX11_ok nmX11 hown hK hw (cell_12 hf31) (by omega) rfl 10 (by decide) (index := 61) (by decide +kernel) rfl rfl (ty := .int) (by decide +kernel) rfl rfl (Nat.le_of_ble_eq_true rfl) (S' := uI S96 250 a0 (0 : Int32)) rfl rfl rfl (pu_250 hf31 (0 : Int32)) (fun b hb => off_uI hb) dX11_init_101 (fun S101 H locs eS101 hw => ?_)
  have h := of_bnd h eS101
  refine lv_aload_n hx hb dX11_init_104 rfl (lv_at hl 0 rfl) ?_
  refine lv_iconst (v := 0) hx hb dX11_init_105 (by decide) ?_
  have hf32 : cD S101 a0 = 12 := by rw [eS101]; exact hf31
  refine C_put hx hb hts hinX11 tyX11 tyX11_ok nmX11 hown hK hw (cell_12 hf32) (by omega) rfl 11 (by decide) (index := 64) (by decide +kernel) rfl rfl (ty := .int) (by decide +kernel) rfl rfl (Nat.le_of_ble_eq_true rfl) (S' := uI S101 251 a0 (0 : Int32)) rfl rfl rfl (pu_251 hf32 (0 : Int32)) (fun b hb => off_uI hb) dX11_init_106 (fun S106 H locs eS106 hw => ?_)
  have h := of_bnd h eS106
  obtain ⟨rfl, ek1, ek2⟩ := of_retV h
  refine W.widen (k := mc) (n := ms) (by omega) (by omega) ?_
  exact C_vret hx hb hr hlocks hw dX11_init_109
