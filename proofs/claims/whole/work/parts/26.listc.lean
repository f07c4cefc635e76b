/-! the readers -/
def fL_size (_ : Nat × Nat) (r : Nat) (S : CS) (a : Nat) : Option Int32 := grd (cD S a = 20 + r) (some (cI S (gS r) a))
def fL_isEmpty (_ : Nat × Nat) (r : Nat) (S : CS) (a : Nat) : Option Int32 := grd (cD S a = 20 + r) (some (if cI S (gS r) a = 0 then 1 else 0))
def fL_elem (_ : Nat × Nat) (r : Nat) (S : CS) (a : Nat) (i : Int32) : Option (Option Nat) := grd (cD S a = 20 + r) (onn (cR S (gE r) a) (fun b => grd (cD S b = 30 + r) (grd (¬ (i < 0 ∨ cN S b ≤ i.toNatClampNeg)) (some (cQ S (30 + r) b i.toNatClampNeg)))))
def fL_get (n : Nat × Nat) (r : Nat) (S : CS) (a : Nat) (i : Int32) : Option (Option Nat) := grd (cD S a = 20 + r) (grd (¬ i < 0) (grd (i < cI S (gS r) a) (fL_elem n r S a i)))
set_option maxHeartbeats 8000000 in
set_option maxRecDepth 100000 in
theorem cL_size_ok (l : Launch) (D : va_G) (cc : Nat → ClassId) (E : Nat → Nat) (n : Nat × Nat) (r : Nat) (hr5 : r < 5) (S : CS) (a : Nat) {x : Int32} (h : fL_size n r S a = some x) : Ci l yJx4a65c_size_8abf5 wsJx4a65c_size_8abf5 0 0 D cc E [.ref a] S x S 0 0 := by
  refine C_of (own := RJx4a65c) (bb := cJx4a65c_size_8abf5) (nL := 1) (ret := (some .int)) (by decide) rfl rfl (Nat.le_of_ble_eq_true rfl) ?_
  intro p e s m args below meth c hx hb hr hlocks hml hts hown hnm hA hK hro hw ls hl
  generalize va_A (cPs cc S) (nx S) = A at hA hro hw ⊢
  have hin : ∀ w ∈ wsJx4a65c0, w ∈ wsJx4a65c_size_8abf5 := by decide +kernel
  obtain ⟨hk, h⟩ := of_grd h
  have hl : lv_has ls 1 [(0, .ref a)] := hl
  refine lv_aload_n hx hb dJx4a65c_size_8abf5_0 rfl (lv_at hl 0 rfl) ?_
  refine C_get hx hb hts hin hown hK hw (cell_L hr5 hk) (by omega) rfl 2 (by decide) (index := 48) (by decide +kernel) rfl rfl dJx4a65c_size_8abf5_1 ?_
  obtain rfl := Option.some.inj h
  exact C_iret hx hb hr hlocks hw (by rfl) dJx4a65c_size_8abf5_4
set_option maxHeartbeats 8000000 in
set_option maxRecDepth 100000 in
theorem cL_isEmpty_ok (l : Launch) (D : va_G) (cc : Nat → ClassId) (E : Nat → Nat) (n : Nat × Nat) (r : Nat) (hr5 : r < 5) (S : CS) (a : Nat) {x : Int32} (h : fL_isEmpty n r S a = some x) : Ci l yJx4a65c_isEmpty_aae02 wsJx4a65c_isEmpty_aae02 0 0 D cc E [.ref a] S x S 0 0 := by
  refine C_of (own := RJx4a65c) (bb := cJx4a65c_isEmpty_aae02) (nL := 1) (ret := (some .boolean)) (by decide) rfl rfl (Nat.le_of_ble_eq_true rfl) ?_
  intro p e s m args below meth c hx hb hr hlocks hml hts hown hnm hA hK hro hw ls hl
  generalize va_A (cPs cc S) (nx S) = A at hA hro hw ⊢
  have hin : ∀ w ∈ wsJx4a65c0, w ∈ wsJx4a65c_isEmpty_aae02 := by decide +kernel
  obtain ⟨hk, h⟩ := of_grd h
  have h := Option.some.inj h
  have hl : lv_has ls 1 [(0, .ref a)] := hl
  refine lv_aload_n hx hb dJx4a65c_isEmpty_aae02_0 rfl (lv_at hl 0 rfl) ?_
  refine C_get hx hb hts hin hown hK hw (cell_L hr5 hk) (by omega) rfl 2 (by decide) (index := 48) (by decide +kernel) rfl rfl dJx4a65c_isEmpty_aae02_1 ?_
  refine lv_if_ne (tgt := 11) hx hb dJx4a65c_isEmpty_aae02_4 (by decide) (fun c4 => ?_) (fun c4 => ?_)
  · have h := of_if h c4
    subst h
    refine lv_iconst (v := 0) hx hb dJx4a65c_isEmpty_aae02_11 (by decide) ?_
    exact C_iret hx hb hr hlocks hw (by rfl) dJx4a65c_isEmpty_aae02_12
  · have h := of_it h c4
    subst h
    refine lv_iconst (v := 1) hx hb dJx4a65c_isEmpty_aae02_7 (by decide) ?_
    refine lv_goto (tgt := 12) hx hb dJx4a65c_isEmpty_aae02_8 (by decide) ?_
    exact C_iret hx hb hr hlocks hw (by rfl) dJx4a65c_isEmpty_aae02_12
set_option maxHeartbeats 8000000 in
set_option maxRecDepth 100000 in
theorem cL_elem_ok (l : Launch) (D : va_G) (cc : Nat → ClassId) (E : Nat → Nat) (n : Nat × Nat) (r : Nat) (hr5 : r < 5) (S : CS) (a : Nat) (i : Int32) {x : Option Nat} (h : fL_elem n r S a i = some x) : Cq l yJx4a65c_elementData_915e3 wsJx4a65c_elementData_915e3 0 0 D cc E [.ref a, .int i] S x S 0 0 := by
  refine C_of (own := RJx4a65c) (bb := cJx4a65c_elementData_915e3) (nL := 2) (ret := (some (.object "java/lang/Object"))) (by decide) rfl rfl (Nat.le_of_ble_eq_true rfl) ?_
  intro p e s m args below meth c hx hb hr hlocks hml hts hown hnm hA hK hro hw ls hl
  generalize va_A (cPs cc S) (nx S) = A at hA hro hw ⊢
  have hin : ∀ w ∈ wsJx4a65c0, w ∈ wsJx4a65c_elementData_915e3 := by decide +kernel
  obtain ⟨hk, h⟩ := of_grd h
  obtain ⟨b, eb, h⟩ := of_onn h
  obtain ⟨hkb, h⟩ := of_grd h
  obtain ⟨hi, h⟩ := of_grd h
  obtain rfl := Option.some.inj h
  have hl : lv_has ls 2 [(0, .ref a), (1, .int i)] := hl
  refine lv_aload_n hx hb dJx4a65c_elementData_915e3_0 rfl (lv_at hl 0 rfl) ?_
  refine C_get hx hb hts hin hown hK hw (cell_L hr5 hk) (by omega) rfl 1 (by decide) (index := 9) (by decide +kernel) rfl (v := .ref b) (congrArg (fun o => some (va_rf o)) eb) dJx4a65c_elementData_915e3_1 ?_
  refine lv_iload_n hx hb dJx4a65c_elementData_915e3_4 rfl (lv_at hl 1 rfl) ?_
  refine C_aaldO hx hb hK hw hr5 hkb hi dJx4a65c_elementData_915e3_5 ?_
  exact C_aret hx hb hr hlocks (Or.inl ⟨_, rfl⟩) hw dJx4a65c_elementData_915e3_6
set_option maxHeartbeats 8000000 in
set_option maxRecDepth 100000 in
theorem cJ3_check (l : Launch) (i k : Int32) (o : Option Nat) (h0 : ¬ i < 0) (h1 : i < k) : Si l yJ3_checkIndex_8e157 wsJ3_checkIndex_8e157 { frames := 0, cells := 0, slots := 0, locals := 0 } [.int i, .int k, va_rf o] (fun r => r = i) := by
  refine Si_of (own := RJ3) (cc := cJ3_checkIndex_8e157) (nL := 3) (ret := (some .int)) (by decide) rfl rfl (Nat.le_of_ble_eq_true (by cases o <;> rfl)) ?_
  intro p e s m args below meth c hx hb hr hlocks hml hts hown ls hl
  have hl : lv_has ls 3 [(0, .int i), (1, .int k), (2, va_rf o)] := hl
  refine lv_iload_n hx hb dJ3_checkIndex_8e157_0 rfl (lv_at hl 0 rfl) ?_
  refine lv_if_lt (tgt := 9) hx hb dJ3_checkIndex_8e157_1 (by decide) (fun c => absurd c h0) (fun c => ?_)
  refine lv_iload_n hx hb dJ3_checkIndex_8e157_4 rfl (lv_at hl 0 rfl) ?_
  refine lv_iload_n hx hb dJ3_checkIndex_8e157_5 rfl (lv_at hl 1 rfl) ?_
  refine lv_icmp_lt (tgt := 16) hx hb dJ3_checkIndex_8e157_6 (by decide) (fun c => ?_) (fun c => absurd h1 c)
  refine lv_iload_n hx hb dJ3_checkIndex_8e157_16 rfl (lv_at hl 0 rfl) ?_
  exact S_iret (v := i) hx hb hr hlocks dJ3_checkIndex_8e157_17 rfl rfl
set_option maxHeartbeats 8000000 in
set_option maxRecDepth 100000 in
theorem cJ15_check (l : Launch) (i k : Int32) (h0 : ¬ i < 0) (h1 : i < k) : Si l yJ15_checkIndex_7cf53 wsJ15_checkIndex_7cf53 { frames := 1, cells := 0, slots := 0, locals := 22 } [.int i, .int k] (fun r => r = i) := by
  refine Si_of (own := RJ15) (cc := cJ15_checkIndex_7cf53) (nL := 2) (ret := (some .int)) (by decide) rfl rfl (Nat.le_of_ble_eq_true rfl) ?_
  intro p e s m args below meth c hx hb hr hlocks hml hts hown ls hl
  have hl : lv_has ls 2 [(0, .int i), (1, .int k)] := hl
  refine lv_iload_n hx hb dJ15_checkIndex_7cf53_0 rfl (lv_at hl 0 rfl) ?_
  refine lv_iload_n hx hb dJ15_checkIndex_7cf53_1 rfl (lv_at hl 1 rfl) ?_
  refine lv_null hx hb dJ15_checkIndex_7cf53_2 ?_
  refine C_s (va_runS (As := [.int i, .int k, .null]) (rest := []) ⟨hx, hb, hml, hown, hts⟩ (cJ3_check l i k none h0 h1) (va_cwS 3 hts gJ15_checkIndex_7cf53_J3_checkIndex_8e157 rfl rfl rfl (by decide +kernel) ⟨Nat.le_of_ble_eq_true rfl, Nat.le_of_ble_eq_true rfl⟩) ⟨fun a U g mk q => ⟨q.1, trivial⟩, fun U hU hW => ⟨rfl, trivial⟩⟩ rfl rfl hl.1 rfl (lv_room (Nat.le_of_ble_eq_true rfl)) dJ15_checkIndex_7cf53_3 ⟨Nat.le_refl _, Nat.le_refl _⟩) (fun r3 e3 => ?_)
  exact S_iret (v := r3) hx hb hr hlocks dJ15_checkIndex_7cf53_6 rfl e3
set_option maxHeartbeats 8000000 in
set_option maxRecDepth 100000 in
theorem cL_get_ok (l : Launch) (D : va_G) (cc : Nat → ClassId) (E : Nat → Nat) (n : Nat × Nat) (r : Nat) (hr5 : r < 5) (S : CS) (a : Nat) (i : Int32) {x : Option Nat} (h : fL_get n r S a i = some x) : Cq l yJx4a65c_get_915e3 wsJx4a65c_get_915e3 2 43 D cc E [.ref a, .int i] S x S 0 0 := by
  refine C_of (own := RJx4a65c) (bb := cJx4a65c_get_915e3) (nL := 2) (ret := (some (.object "java/lang/Object"))) (by decide) rfl rfl (Nat.le_of_ble_eq_true rfl) ?_
  intro p e s m args below meth c hx hb hr hlocks hml hts hown hnm hA hK hro hw ls hl
  generalize va_A (cPs cc S) (nx S) = A at hA hro hw ⊢
  have hin : ∀ w ∈ wsJx4a65c0, w ∈ wsJx4a65c_get_915e3 := by decide +kernel
  obtain ⟨hk, h⟩ := of_grd h
  obtain ⟨h0, h⟩ := of_grd h
  obtain ⟨h1, h⟩ := of_grd h
  have hl : lv_has ls 2 [(0, .ref a), (1, .int i)] := hl
  refine lv_iload_n hx hb dJx4a65c_get_915e3_0 rfl (lv_at hl 1 rfl) ?_
  refine lv_aload_n hx hb dJx4a65c_get_915e3_1 rfl (lv_at hl 0 rfl) ?_
  refine C_get hx hb hts hin hown hK hw (cell_L hr5 hk) (by omega) rfl 2 (by decide) (index := 48) (by decide +kernel) rfl rfl dJx4a65c_get_915e3_2 ?_
  refine C_s (va_runS (As := [.int i, .int (cI S (20 * (20 + r) + 2) a)]) (rest := []) ⟨hx, hb, hml, hown, hts⟩ (cJ15_check l i (cI S (20 * (20 + r) + 2) a) h0 h1) (va_cwS 2 hts gJx4a65c_get_915e3_J15_checkIndex_7cf53 rfl rfl rfl (by decide +kernel) ⟨Nat.le_of_ble_eq_true rfl, Nat.le_of_ble_eq_true rfl⟩) ⟨fun a U g mk q => ⟨q.1, trivial⟩, fun U hU hW => ⟨rfl, trivial⟩⟩ rfl rfl hl.1 rfl (lv_room (Nat.le_of_ble_eq_true rfl)) dJx4a65c_get_915e3_5 ⟨Nat.le_refl _, Nat.le_refl _⟩) (fun r3 e3 => ?_)
  refine lv_pop hx hb dJx4a65c_get_915e3_8 rfl ?_
  refine lv_aload_n hx hb dJx4a65c_get_915e3_9 rfl (lv_at hl 0 rfl) ?_
  refine lv_iload_n hx hb dJx4a65c_get_915e3_10 rfl (lv_at hl 1 rfl) ?_
  refine C_q hA hw (va_runV (As := [.int i]) (rest := []) ⟨hx, hb, hml, hown, hts⟩ (cL_elem_ok l D cc E n r hr5 S a i h) (cwV 1 hts gJx4a65c_get_915e3_Jx4a65c_elementData_915e3 rfl rfl rfl (by decide +kernel) ⟨Nat.le_of_ble_eq_true rfl, Nat.le_of_ble_eq_true rfl⟩) ⟨cBlind D cc E S _, C_recv hK hw (by omega) (cell_L hr5 hk) (r := (RJx4a65c, TJx4a65c, 3)) rfl, fun U hU hW => ⟨rfl, C_pre hA hK hro hw U hU hW⟩⟩ rfl rfl hl.1 rfl (lv_room (Nat.le_of_ble_eq_true rfl)) dJx4a65c_get_915e3_11 ⟨Nat.le_refl _, Nat.le_refl _⟩) (fun H locs hw => ?_)
  refine W.widen (k := 0) (n := 0) (Nat.le_refl _) (Nat.le_refl _) ?_
  exact C_aret hx hb hr hlocks (Or.inl ⟨_, rfl⟩) hw dJx4a65c_get_915e3_14
/-! the making -/
def fL_init (n : Nat × Nat) (r : Nat) (S : CS) (a : Nat) : Option CS := grd (cD S a = 20 + r) (some (uR (uI S (gM r) a 0) (gE r) a (some n.2)))
set_option maxHeartbeats 8000000 in
set_option maxRecDepth 100000 in
theorem cJa_init (l : Launch) (D : va_G) (cc : Nat → ClassId) (E : Nat → Nat) (S : CS) (a : Nat) : Cv l yJxa1e45_init_da8c8 wsJxa1e45_init_da8c8 1 20 D cc E [.ref a] S S 0 0 := by
  refine C_of (own := RJxa1e45) (bb := cJxa1e45_init_da8c8) (nL := 1) (ret := none) (by decide) rfl rfl (Nat.le_of_ble_eq_true rfl) ?_
  intro p e s m args below meth c hx hb hr hlocks hml hts hown hnm hA hK hro hw ls hl
  generalize va_A (cPs cc S) (nx S) = A at hA hro hw ⊢
  have hl : lv_has ls 1 [(0, .ref a)] := hl
  refine lv_aload_n hx hb dJxa1e45_init_da8c8_0 rfl (lv_at hl 0 rfl) ?_
  refine W.objInit hx hb hown (hts (.methodLink RJxa1e45 1 objectInit) (by decide +kernel)) (hts (.instanceMethod objectInit) (by decide +kernel)) (hts (.code objectInit ⟨#[0xb1]⟩ 1 none) (by decide +kernel)) rfl (by rw [hml]; exact hl.1) rfl dJxa1e45_init_da8c8_1 (Nat.le_of_ble_eq_true rfl) (Nat.le_of_ble_eq_true rfl) ?_
  refine W.eq (g2 := F0 m 4 ls []) rfl ?_
  exact C_vret hx hb hr hlocks hw dJxa1e45_init_da8c8_4
set_option maxHeartbeats 8000000 in
set_option maxRecDepth 100000 in
theorem cJc_init (l : Launch) (D : va_G) (cc : Nat → ClassId) (E : Nat → Nat) (r : Nat) (hr5 : r < 5) (S : CS) (a : Nat) (hk : cD S a = 20 + r) : Cv l yJxc12de_init_da8c8 wsJxc12de_init_da8c8 2 40 D cc E [.ref a] S (uI S (gM r) a 0) 0 0 := by
  refine C_of (own := RJxc12de) (bb := cJxc12de_init_da8c8) (nL := 1) (ret := none) (by decide) rfl rfl (Nat.le_of_ble_eq_true rfl) ?_
  intro p e s m args below meth c hx hb hr hlocks hml hts hown hnm hA hK hro hw ls hl
  generalize va_A (cPs cc S) (nx S) = A at hA hro hw ⊢
  have hin : ∀ w ∈ wsJx4a65c0, w ∈ wsJxc12de_init_da8c8 := by decide +kernel
  have hl : lv_has ls 1 [(0, .ref a)] := hl
  refine lv_aload_n hx hb dJxc12de_init_da8c8_0 rfl (lv_at hl 0 rfl) ?_
  refine C_v hA hw (va_runI (As := []) (rest := []) ⟨hx, hb, hml, hown, hts⟩ (cJa_init l D cc E S a) (cwI 0 hts gJxc12de_init_da8c8_Jxa1e45_init_da8c8 rfl rfl rfl (hts (.initialized RJxa1e45) (by decide +kernel)) (hts (.methodLink RJxc12de 1 yJxa1e45_init_da8c8) (by decide +kernel)) (hts (.instanceMethod yJxa1e45_init_da8c8) (by decide +kernel)) rfl (by decide +kernel) ⟨Nat.le_of_ble_eq_true rfl, Nat.le_of_ble_eq_true rfl⟩) ⟨cBlind D cc E S _, fun U hU hW => ⟨rfl, C_pre hA hK hro hw U hU hW⟩⟩ rfl rfl hl.1 rfl (lv_room (Nat.le_of_ble_eq_true rfl)) dJxc12de_init_da8c8_1 ⟨Nat.le_refl _, Nat.le_refl _⟩) (fun H locs hw => ?_)
  refine W.widen (k := 0) (n := 0) (Nat.le_refl _) (Nat.le_refl _) ?_
  refine lv_aload_n hx hb dJxc12de_init_da8c8_4 rfl (lv_at hl 0 rfl) ?_
  refine lv_iconst (v := 0) hx hb dJxc12de_init_da8c8_5 (by decide) ?_
  refine C_put hx hb hts hin tyJx4a65c tyJx4a65c_ok nmJx4a65c hown hK hw (cell_L hr5 hk) (by omega) rfl 0 (by decide) (index := 7) (by decide +kernel) rfl rfl (ty := .int) (by decide +kernel) rfl rfl (Nat.le_of_ble_eq_true rfl) (S' := uI S (gM r) a 0) rfl rfl rfl (puL_M hr5 hk 0) (fun b hb => off_uI hb) dJxc12de_init_da8c8_6 (fun S6 H locs eS6 hw => ?_)
  subst eS6
  exact C_vret hx hb hr hlocks hw dJxc12de_init_da8c8_9
set_option maxHeartbeats 8000000 in
set_option maxRecDepth 100000 in
theorem cL_init_ok (l : Launch) (D : va_G) (cc : Nat → ClassId) (E : Nat → Nat) (n : Nat × Nat) (hE : E 0 = n.2) (r : Nat) (hr5 : r < 5) (S : CS) (a : Nat) {T : CS} (h : fL_init n r S a = some T) : Cv l yJx4a65c_init_da8c8 wsJx4a65c_init_da8c8 3 60 D cc E [.ref a] S T 0 0 := by
  refine C_of (own := RJx4a65c) (bb := cJx4a65c_init_da8c8) (nL := 1) (ret := none) (by decide) rfl rfl (Nat.le_of_ble_eq_true rfl) ?_
  intro p e s m args below meth c hx hb hr hlocks hml hts hown hnm hA hK hro hw ls hl
  generalize va_A (cPs cc S) (nx S) = A at hA hro hw ⊢
  have hin : ∀ w ∈ wsJx4a65c0, w ∈ wsJx4a65c_init_da8c8 := by decide +kernel
  obtain ⟨hk, h⟩ := of_grd h
  obtain rfl := Option.some.inj h
  have hl : lv_has ls 1 [(0, .ref a)] := hl
  refine lv_aload_n hx hb dJx4a65c_init_da8c8_0 rfl (lv_at hl 0 rfl) ?_
  refine C_v hA hw (va_runI (As := []) (rest := []) ⟨hx, hb, hml, hown, hts⟩ (cJc_init l D cc E r hr5 S a hk) (cwI 0 hts gJx4a65c_init_da8c8_Jxc12de_init_da8c8 rfl rfl rfl (hts (.initialized RJxc12de) (by decide +kernel)) (hts (.methodLink RJx4a65c 1 yJxc12de_init_da8c8) (by decide +kernel)) (hts (.instanceMethod yJxc12de_init_da8c8) (by decide +kernel)) rfl (by decide +kernel) ⟨Nat.le_of_ble_eq_true rfl, Nat.le_of_ble_eq_true rfl⟩) ⟨cBlind D cc E S _, fun U hU hW => ⟨rfl, C_pre hA hK hro hw U hU hW⟩⟩ rfl rfl hl.1 rfl (lv_room (Nat.le_of_ble_eq_true rfl)) dJx4a65c_init_da8c8_1 ⟨Nat.le_refl _, Nat.le_refl _⟩) (fun H locs hw => ?_)
  refine W.widen (k := 0) (n := 0) (Nat.le_refl _) (Nat.le_refl _) ?_
  refine lv_aload_n hx hb dJx4a65c_init_da8c8_4 rfl (lv_at hl 0 rfl) ?_
  refine va_gets hx hb hro.2.2.1 hw.2.2.2.2 hown (hts (.fieldLink RJx4a65c 39 "java/util/ArrayList" "DEFAULTCAPACITY_EMPTY_ELEMENTDATA" "[Ljava/lang/Object;") (by decide +kernel)) (fun _ h => h) dJx4a65c_init_da8c8_5 ?_
  rw [hE]
  refine C_put hx hb hts hin tyJx4a65c tyJx4a65c_ok nmJx4a65c hown hK hw (cell_L hr5 (S := uI S (gM r) a 0) hk) (by show cD S a ≠ 0; omega) rfl 1 (by decide) (index := 9) (by decide +kernel) rfl rfl (ty := .array (.object "java/lang/Object")) (by decide +kernel) rfl rfl (Nat.le_of_ble_eq_true rfl) (S' := uR (uI S (gM r) a 0) (gE r) a (some n.2)) rfl rfl rfl (puL_E hr5 (S := uI S (gM r) a 0) hk (some n.2)) (fun b hb => off_uR hb) dJx4a65c_init_da8c8_8 (fun S6 H locs eS6 hw => ?_)
  subst eS6
  exact C_vret hx hb hr hlocks hw dJx4a65c_init_da8c8_11
