/-! the six texts: length, charAt -/
def sLen (w : Nat) : Nat := [4, 5, 4, 5, 3, 1].getD w 0
def sByt (w j : Nat) : Int32 := (([[110, 101, 101, 100], [115, 112, 97, 114, 101], [115, 119, 97, 112], [97, 98, 111, 118, 101], [102, 111, 114], [59]] : List (List Int32)).getD w []).getD j 0
def fS_length (_ : Nat × Nat) (_ : CS) (w : Nat) : Option Int32 := grd (w < 6) (some (nI (sLen w)))
def fS_charAt (_ : Nat × Nat) (_ : CS) (w : Nat) (i : Int32) : Option Int32 := grd (w < 6) (grd (¬ i < 0) (grd (i < nI (sLen w)) (some (sByt w i.toNatClampNeg))))
theorem fS_length_lt {n : Nat × Nat} {S : CS} {w : Nat} {x : Int32} (h : fS_length n S w = some x) : w < 6 := (of_grd h).1
theorem fS_charAt_lt {n : Nat × Nat} {S : CS} {w : Nat} {i x : Int32} (h : fS_charAt n S w i = some x) : w < 6 := (of_grd h).1
theorem sLen_lt : ∀ w, w < 6 → sLen w < 10 := by decide
theorem sByt_ok : ∀ w, w < 6 → ∀ j, j < sLen w → ((sByt w j &&& 255).toUInt32 % 65536).toInt32 = sByt w j ∧ narrow .char (.int (sByt w j)) = .int (sByt w j) := by decide
set_option maxHeartbeats 8000000 in
set_option maxRecDepth 100000 in
theorem cS_coder (l : Launch) (D : va_G) (cc : Nat → ClassId) (E : Nat → Nat) (S : CS) (w : Nat) (h6 : w < 6) : Ci l yJ0_coder_7d493 wsJ0_coder_7d493 0 0 D cc E [.ref (E (10 + w))] S 0 S 0 0 := by
  refine C_of (own := RJ0) (bb := cJ0_coder_7d493) (nL := 1) (ret := (some .byte)) (by decide) rfl rfl (Nat.le_of_ble_eq_true rfl) ?_
  intro p e s m args below meth c hx hb hr hlocks hml hts hown hnm hA hK hro hw ls hl
  generalize va_A (cPs cc S) (nx S) = A at hA hro hw ⊢
  have hl : lv_has ls 1 [(0, .ref (E (10 + w)))] := hl
  refine va_gets hx hb hro.2.2.2.2.1 hw.2.2.2.2 hown (hts (.fieldLink RJ0 38 "java/lang/String" "COMPACT_STRINGS" "Z") (by decide +kernel)) (fun _ h => h) dJ0_coder_7d493_0 ?_
  refine lv_if_eq (tgt := 13) hx hb dJ0_coder_7d493_3 (by decide) (fun c => absurd c (by decide)) (fun _ => ?_)
  refine lv_aload_n hx hb dJ0_coder_7d493_6 rfl (lv_at hl 0 rfl) ?_
  refine vk_getf hx hb (hro.2.2.2.2.2.2.1.1 w h6).2.1 hw.2.2.2.2 hown (hts (.fieldLink RJ0 15 "java/lang/String" "coder" "B") (by decide +kernel)) (fun _ h => h) dJ0_coder_7d493_7 ?_
  refine lv_goto (tgt := 14) hx hb dJ0_coder_7d493_10 (by decide) ?_
  exact C_iret hx hb hr hlocks hw (by rfl) dJ0_coder_7d493_14
set_option maxHeartbeats 8000000 in
set_option maxRecDepth 100000 in
theorem cS_lat (l : Launch) (D : va_G) (cc : Nat → ClassId) (E : Nat → Nat) (S : CS) (w : Nat) (h6 : w < 6) : Ci l yJ0_isLatin1_aae02 wsJ0_isLatin1_aae02 0 0 D cc E [.ref (E (10 + w))] S 1 S 0 0 := by
  refine C_of (own := RJ0) (bb := cJ0_isLatin1_aae02) (nL := 1) (ret := (some .boolean)) (by decide) rfl rfl (Nat.le_of_ble_eq_true rfl) ?_
  intro p e s m args below meth c hx hb hr hlocks hml hts hown hnm hA hK hro hw ls hl
  generalize va_A (cPs cc S) (nx S) = A at hA hro hw ⊢
  have hl : lv_has ls 1 [(0, .ref (E (10 + w)))] := hl
  refine va_gets hx hb hro.2.2.2.2.1 hw.2.2.2.2 hown (hts (.fieldLink RJ0 38 "java/lang/String" "COMPACT_STRINGS" "Z") (by decide +kernel)) (fun _ h => h) dJ0_isLatin1_aae02_0 ?_
  refine lv_if_eq (tgt := 17) hx hb dJ0_isLatin1_aae02_3 (by decide) (fun c => absurd c (by decide)) (fun _ => ?_)
  refine lv_aload_n hx hb dJ0_isLatin1_aae02_6 rfl (lv_at hl 0 rfl) ?_
  refine vk_getf hx hb (hro.2.2.2.2.2.2.1.1 w h6).2.1 hw.2.2.2.2 hown (hts (.fieldLink RJ0 15 "java/lang/String" "coder" "B") (by decide +kernel)) (fun _ h => h) dJ0_isLatin1_aae02_7 ?_
  refine lv_if_ne (tgt := 17) hx hb dJ0_isLatin1_aae02_10 (by decide) (fun c => absurd rfl c) (fun _ => ?_)
  refine lv_iconst (v := 1) hx hb dJ0_isLatin1_aae02_13 (by decide) ?_
  refine lv_goto (tgt := 18) hx hb dJ0_isLatin1_aae02_14 (by decide) ?_
  exact C_iret hx hb hr hlocks hw (by rfl) dJ0_isLatin1_aae02_18
set_option maxHeartbeats 8000000 in
set_option maxRecDepth 100000 in
theorem cS_length_ok (l : Launch) (D : va_G) (cc : Nat → ClassId) (E : Nat → Nat) (n : Nat × Nat) (S : CS) (w : Nat) {x : Int32} (h : fS_length n S w = some x) : Ci l yJ0_length_8abf5 wsJ0_length_8abf5 1 20 D cc E [.ref (E (10 + w))] S x S 0 0 := by
  refine C_of (own := RJ0) (bb := cJ0_length_8abf5) (nL := 1) (ret := (some .int)) (by decide) rfl rfl (Nat.le_of_ble_eq_true rfl) ?_
  intro p e s m args below meth c hx hb hr hlocks hml hts hown hnm hA hK hro hw ls hl
  generalize va_A (cPs cc S) (nx S) = A at hA hro hw ⊢
  have hl : lv_has ls 1 [(0, .ref (E (10 + w)))] := hl
  obtain ⟨h6, h⟩ := of_grd h
  obtain rfl := Option.some.inj h
  refine lv_aload_n hx hb dJ0_length_8abf5_0 rfl (lv_at hl 0 rfl) ?_
  refine vk_getf hx hb (hro.2.2.2.2.2.2.1.1 w h6).2.2.1 hw.2.2.2.2 hown (hts (.fieldLink RJ0 9 "java/lang/String" "value" "[B") (by decide +kernel)) (fun _ h => h) dJ0_length_8abf5_1 ?_
  refine va_tlen hx hb (hro.2.2.2.2.2.2.1.1 w h6).2.2.2 hw.2.2.2.2 (v := nI (sLen w)) rfl dJ0_length_8abf5_4 ?_
  refine lv_aload_n hx hb dJ0_length_8abf5_5 rfl (lv_at hl 0 rfl) ?_
  refine C_i hA hw (va_runV (As := []) (rest := [.int (nI (sLen w))]) ⟨hx, hb, hml, hown, hts⟩ (cS_coder l D cc E S w h6) (cwV 0 hts gJ0_length_8abf5_J0_coder_7d493 rfl rfl rfl (by decide +kernel) ⟨Nat.le_of_ble_eq_true rfl, Nat.le_of_ble_eq_true rfl⟩) ⟨cBlind D cc E S _, vk_recv hro.2.2.2.2.2.2.1 h6 hw.2.2.2.2, fun U hU hW => ⟨rfl, C_pre hA hK hro hw U hU hW⟩⟩ rfl rfl hl.1 rfl (lv_room (Nat.le_of_ble_eq_true rfl)) dJ0_length_8abf5_6 ⟨Nat.le_refl _, Nat.le_refl _⟩) (fun H locs hw => ?_)
  refine W.widen (k := 0) (n := 0) (Nat.le_refl _) (Nat.le_refl _) ?_
  refine lv_ishr hx hb dJ0_length_8abf5_9 ?_
  have e0 : nI (sLen w) >>> ((0 : Int32) &&& 31) = nI (sLen w) := by
    have q := pk_shrN (n := sLen w) (by have := sLen_lt w h6; omega) ((0 : Int32) &&& 31) 0 (by decide)
    rw [Nat.pow_zero, Nat.div_one] at q
    exact q
  rw [e0]
  exact C_iret hx hb hr hlocks hw (by rfl) dJ0_length_8abf5_10
set_option maxHeartbeats 8000000 in
set_option maxRecDepth 100000 in
theorem cS_chk (l : Launch) (D : va_G) (cc : Nat → ClassId) (E : Nat → Nat) (S : CS) (i k : Int32) (h0 : ¬ i < 0) (h1 : i < k) : Cv l yJ0_checkIndex_df160 wsJ0_checkIndex_df160 1 22 D cc E [.int i, .int k] S S 0 0 := by
  refine C_of (own := RJ0) (bb := cJ0_checkIndex_df160) (nL := 2) (ret := none) (by decide) rfl rfl (Nat.le_of_ble_eq_true rfl) ?_
  intro p e s m args below meth c hx hb hr hlocks hml hts hown hnm hA hK hro hw ls hl
  generalize va_A (cPs cc S) (nx S) = A at hA hro hw ⊢
  have hl : lv_has ls 2 [(0, .int i), (1, .int k)] := hl
  refine lv_iload_n hx hb dJ0_checkIndex_df160_0 rfl (lv_at hl 0 rfl) ?_
  refine lv_iload_n hx hb dJ0_checkIndex_df160_1 rfl (lv_at hl 1 rfl) ?_
  have go : ∀ o : Option Nat, W p l e (cRm 1 22 0 0) s m args below meth c s.heap [] 0 0 (MQ below (va_Qv (fun u => u = S) (cAft D cc A) A) args s 0 0 A) (F0 m 5 ls [va_rf o, .int k, .int i]) := by
    intro o
    refine C_s (va_runS (As := [.int i, .int k, va_rf o]) (rest := []) ⟨hx, hb, hml, hown, hts⟩ (cJ3_check l i k o h0 h1) (va_cwS 3 hts gJ0_checkIndex_df160_J3_checkIndex_8e157 rfl rfl rfl (by decide +kernel) ⟨Nat.le_of_ble_eq_true rfl, Nat.le_of_ble_eq_true rfl⟩) ⟨fun a U g mk q => ⟨q.1, trivial⟩, fun U hU hW => ⟨rfl, trivial⟩⟩ rfl rfl hl.1 rfl (lv_room (Nat.le_of_ble_eq_true rfl)) dJ0_checkIndex_df160_5 ⟨Nat.le_refl _, Nat.le_refl _⟩) (fun r3 e3 => ?_)
    refine lv_pop hx hb dJ0_checkIndex_df160_8 rfl ?_
    exact C_vret hx hb hr hlocks hw dJ0_checkIndex_df160_9
  rcases hro.2.2.2.2.2.1 with hZ | ⟨t, hZ⟩
  · refine va_gets hx hb hZ hw.2.2.2.2 hown (hts (.fieldLink RJ0 1053 "jdk/internal/util/Preconditions" "SIOOBE_FORMATTER" "Ljava/util/function/BiFunction;") (by decide +kernel)) (fun _ h => h) dJ0_checkIndex_df160_2 ?_
    exact go none
  · refine va_gets hx hb hZ hw.2.2.2.2 hown (hts (.fieldLink RJ0 1053 "jdk/internal/util/Preconditions" "SIOOBE_FORMATTER" "Ljava/util/function/BiFunction;") (by decide +kernel)) (fun _ h => h) dJ0_checkIndex_df160_2 ?_
    exact go (some t)
set_option maxHeartbeats 8000000 in
set_option maxRecDepth 100000 in
theorem cS_chr (l : Launch) (D : va_G) (cc : Nat → ClassId) (E : Nat → Nat) (S : CS) (w j : Nat) (h6 : w < 6) (hj : j < sLen w) : Ci l yJ1_charAt_3b067 wsJ1_charAt_3b067 2 43 D cc E [.ref (E (20 + w)), .int (nI j)] S (sByt w j) S 0 0 := by
  refine C_of (own := RJ1) (bb := cJ1_charAt_3b067) (nL := 2) (ret := (some .char)) (by decide) rfl rfl (Nat.le_of_ble_eq_true rfl) ?_
  intro p e s m args below meth c hx hb hr hlocks hml hts hown hnm hA hK hro hw ls hl
  generalize va_A (cPs cc S) (nx S) = A at hA hro hw ⊢
  have hl : lv_has ls 2 [(0, .ref (E (20 + w))), (1, .int (nI j))] := hl
  have hl9 := sLen_lt w h6
  refine lv_iload_n hx hb dJ1_charAt_3b067_0 rfl (lv_at hl 1 rfl) ?_
  refine lv_aload_n hx hb dJ1_charAt_3b067_1 rfl (lv_at hl 0 rfl) ?_
  refine va_tlen hx hb (hro.2.2.2.2.2.2.1.1 w h6).2.2.2 hw.2.2.2.2 (v := nI (sLen w)) rfl dJ1_charAt_3b067_2 ?_
  refine C_v hA hw (va_runS (As := [.int (nI j), .int (nI (sLen w))]) (rest := []) ⟨hx, hb, hml, hown, hts⟩ (cS_chk l D cc E S (nI j) (nI (sLen w)) (nI_pos (by omega)) (nI_lt hj (by omega))) (va_cwS 2 hts gJ1_charAt_3b067_J0_checkIndex_df160 rfl rfl rfl (by decide +kernel) ⟨Nat.le_of_ble_eq_true rfl, Nat.le_of_ble_eq_true rfl⟩) ⟨cBlind D cc E S _, fun U hU hW => ⟨rfl, C_pre hA hK hro hw U hU hW⟩⟩ rfl rfl hl.1 rfl (lv_room (Nat.le_of_ble_eq_true rfl)) dJ1_charAt_3b067_3 ⟨Nat.le_refl _, Nat.le_refl _⟩) (fun H locs hw => ?_)
  refine W.widen (k := 0) (n := 0) (Nat.le_refl _) (Nat.le_refl _) ?_
  refine lv_aload_n hx hb dJ1_charAt_3b067_6 rfl (lv_at hl 0 rfl) ?_
  refine lv_iload_n hx hb dJ1_charAt_3b067_7 rfl (lv_at hl 1 rfl) ?_
  refine va_tb hx hb (hro.2.2.2.2.2.2.1.1 w h6).2.2.2 hw.2.2.2.2 (vp_in_nI hj (by have := sLen_lt w h6; unfold sLen at this; omega)) (v := .int (sByt w j)) (by rw [nI_clamp (by omega)]; rfl) dJ1_charAt_3b067_8 ?_
  refine lv_sipush (v := 255) hx hb dJ1_charAt_3b067_9 (by decide) ?_
  refine lv_iand hx hb dJ1_charAt_3b067_12 ?_
  refine lv_i2c hx hb dJ1_charAt_3b067_13 (sByt_ok w h6 j hj).1 ?_
  exact C_iret hx hb hr hlocks hw (sByt_ok w h6 j hj).2 dJ1_charAt_3b067_14
set_option maxHeartbeats 8000000 in
set_option maxRecDepth 100000 in
theorem cS_charAt_ok (l : Launch) (D : va_G) (cc : Nat → ClassId) (E : Nat → Nat) (n : Nat × Nat) (S : CS) (w : Nat) (i : Int32) {x : Int32} (h : fS_charAt n S w i = some x) : Ci l yJ0_charAt_5068e wsJ0_charAt_5068e 3 64 D cc E [.ref (E (10 + w)), .int i] S x S 0 0 := by
  refine C_of (own := RJ0) (bb := cJ0_charAt_5068e) (nL := 2) (ret := (some .char)) (by decide) rfl rfl (Nat.le_of_ble_eq_true rfl) ?_
  intro p e s m args below meth c hx hb hr hlocks hml hts hown hnm hA hK hro hw ls hl
  generalize va_A (cPs cc S) (nx S) = A at hA hro hw ⊢
  obtain ⟨h6, h⟩ := of_grd h
  obtain ⟨h0, h⟩ := of_grd h
  obtain ⟨h1, h⟩ := of_grd h
  obtain rfl := Option.some.inj h
  have hl9 := sLen_lt w h6
  obtain ⟨j, hj, ej⟩ : ∃ j : Nat, j < sLen w ∧ i = nI j := by
    obtain ⟨j, hj, ej⟩ := nI_of h0
    exact ⟨j, by rw [ej] at h1; exact (nI_ltI hj (by omega)).mp h1, ej⟩
  subst ej
  rw [nI_clamp (by omega)]
  have hl : lv_has ls 2 [(0, .ref (E (10 + w))), (1, .int (nI j))] := hl
  refine lv_aload_n hx hb dJ0_charAt_5068e_0 rfl (lv_at hl 0 rfl) ?_
  refine C_i hA hw (va_runV (As := []) (rest := []) ⟨hx, hb, hml, hown, hts⟩ (cS_lat l D cc E S w h6) (cwV 0 hts gJ0_charAt_5068e_J0_isLatin1_aae02 rfl rfl rfl (by decide +kernel) ⟨Nat.le_of_ble_eq_true rfl, Nat.le_of_ble_eq_true rfl⟩) ⟨cBlind D cc E S _, vk_recv hro.2.2.2.2.2.2.1 h6 hw.2.2.2.2, fun U hU hW => ⟨rfl, C_pre hA hK hro hw U hU hW⟩⟩ rfl rfl hl.1 rfl (lv_room (Nat.le_of_ble_eq_true rfl)) dJ0_charAt_5068e_1 ⟨Nat.le_refl _, Nat.le_refl _⟩) (fun H locs hw => ?_)
  refine W.widen (k := 0) (n := 0) (Nat.le_refl _) (Nat.le_refl _) ?_
  refine lv_if_eq (tgt := 16) hx hb dJ0_charAt_5068e_4 (by decide) (fun c => absurd c (by decide)) (fun _ => ?_)
  refine lv_aload_n hx hb dJ0_charAt_5068e_7 rfl (lv_at hl 0 rfl) ?_
  refine vk_getf hx hb (hro.2.2.2.2.2.2.1.1 w h6).2.2.1 hw.2.2.2.2 hown (hts (.fieldLink RJ0 9 "java/lang/String" "value" "[B") (by decide +kernel)) (fun _ h => h) dJ0_charAt_5068e_8 ?_
  refine lv_iload_n hx hb dJ0_charAt_5068e_11 rfl (lv_at hl 1 rfl) ?_
  refine C_i hA hw (va_runS (As := [.ref (E (20 + w)), .int (nI j)]) (rest := []) ⟨hx, hb, hml, hown, hts⟩ (cS_chr l D cc E S w j h6 hj) (va_cwS 2 hts gJ0_charAt_5068e_J1_charAt_3b067 rfl rfl rfl (by decide +kernel) ⟨Nat.le_of_ble_eq_true rfl, Nat.le_of_ble_eq_true rfl⟩) ⟨cBlind D cc E S _, fun U hU hW => ⟨rfl, C_pre hA hK hro hw U hU hW⟩⟩ rfl rfl hl.1 rfl (lv_room (Nat.le_of_ble_eq_true rfl)) dJ0_charAt_5068e_12 ⟨Nat.le_refl _, Nat.le_refl _⟩) (fun H locs hw => ?_)
  refine W.widen (k := 0) (n := 0) (Nat.le_refl _) (Nat.le_refl _) ?_
  exact C_iret hx hb hr hlocks hw (sByt_ok w h6 j hj).2 dJ0_charAt_5068e_15
