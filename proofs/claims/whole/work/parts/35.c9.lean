def fX5_isToken_lp20 (n : Nat × Nat) (S : CS) (f0 : Nat) (f1 : Nat) : Nat → Int32 → Option (Nat)
  | 0, _ => none
  | k + 1, l2 =>
    cal (fS_length n S f1) (fun q22 => if q22 ≤ l2 then 
          some 1
          else grd (cD S f0 = 6) (bnd (cI S 122 f0) (fun v30 => cal (fX5_byteAt n S f0 (v30 + l2)) (fun q35 => cal (fS_charAt n S f1 l2) (fun q40 => if q35 = q40 then 
            bnd (l2 + 1) (fun x48 => fX5_isToken_lp20 n S f0 f1 k x48 )
            else some 0)))))
def fX5_isToken (n : Nat × Nat) (S : CS) (a0 : Nat) (a1 : Nat) : Option Int32 :=
  grd (cD S a0 = 6) (bnd (cI S 123 a0) (fun v1 => bnd (cI S 122 a0) (fun v5 => cal (fS_length n S a1) (fun q10 => if (v1 - v5) = q10 then 
    bnd (0 : Int32) (fun x19 => cal (fX5_isToken_lp20 n S a0 a1 n.1 x19 ) (fun e20 => if e20 = 0 then some (0 : Int32) else some (1 : Int32)))
    else some (0 : Int32)))))
set_option maxHeartbeats 8000000 in
set_option maxRecDepth 100000 in
theorem cX5_isToken_ok (l : Launch) (D : va_G) (cc : Nat → ClassId) (E : Nat → Nat) (n : Nat × Nat) (S : CS) (a0 : Nat) (a1 : Nat) {r : Int32} (h : fX5_isToken n S a0 a1 = some r) : Ci l yX5_isToken wsX5_isToken 4 85 D cc E [.ref a0, .ref (E (10 + a1))] S r S 0 0 := by
  refine C_of (own := RX5) (bb := cX5_isToken) (nL := 3) (ret := (some .boolean)) (by decide) rfl rfl (Nat.le_of_ble_eq_true rfl) ?_
  intro p e s m args below meth c hx hb hr hlocks hml hts hown hnm hA hK hro hw ls hl
  generalize va_A (cPs cc S) (nx S) = A at hA hro hw ⊢
  unfold fX5_isToken at h
  have hinX5 : ∀ w ∈ wsX50, w ∈ wsX5_isToken := by decide +kernel
  have hl : lv_has ls 3 [(0, .ref a0), (1, .ref (E (10 + a1)))] := hl
  refine lv_aload_n hx hb dX5_isToken_0 rfl (lv_at hl 0 rfl) ?_
  obtain ⟨hf1, h⟩ := of_grd h
  refine C_get hx hb hts hinX5 hown hK hw (cell_6 hf1) (by omega) rfl 3 (by decide) (index := 26) (by decide +kernel) rfl rfl dX5_isToken_1 ?_
  refine lv_topi (fun v1 ev1 => ?_)
  have h := of_bnd h ev1
  refine lv_aload_n hx hb dX5_isToken_4 rfl (lv_at hl 0 rfl) ?_
  refine C_get hx hb hts hinX5 hown hK hw (cell_6 hf1) (by omega) rfl 2 (by decide) (index := 22) (by decide +kernel) rfl rfl dX5_isToken_5 ?_
  refine lv_topi (fun v5 ev5 => ?_)
  have h := of_bnd h ev5
  refine lv_isub hx hb dX5_isToken_8 ?_
  refine lv_aload_n hx hb dX5_isToken_9 rfl (lv_at hl 1 rfl) ?_
  obtain ⟨q10, hq10, h⟩ := of_cal h
  refine C_i hA hw (va_runV (As := []) (rest := [.int (v1 - v5)]) ⟨hx, hb, hml, hown, hts⟩ (cS_length_ok l D cc E n S a1 hq10) (cwV 0 hts gX5_isToken_J0_length_8abf5 rfl rfl rfl (by decide +kernel) ⟨Nat.le_of_ble_eq_true rfl, Nat.le_of_ble_eq_true rfl⟩) ⟨cBlind D cc E S _, vk_recv hro.2.2.2.2.2.2.1 (fS_length_lt hq10) hw.2.2.2.2, fun U hU hW => ⟨rfl, C_pre hA hK hro hw U hU hW⟩⟩ rfl rfl hl.1 rfl (lv_room (Nat.le_of_ble_eq_true rfl)) dX5_isToken_10 ⟨Nat.le_refl _, Nat.le_refl _⟩) (fun H locs hw => ?_)
  refine W.widen (k := 0) (n := 0) (Nat.le_refl _) (Nat.le_refl _) ?_
  refine lv_icmp_eq (tgt := 18) hx hb dX5_isToken_13 (by decide) (fun c13 => ?_) (fun c13 => ?_)
  · have h := of_it h c13
    refine lv_iconst (v := 0) hx hb dX5_isToken_18 (by decide) ?_
    refine lv_topi (fun x19 ex19 => ?_)
    have h := of_bnd h ex19
    refine lv_istore_n (lv' := [(2, .int x19), (0, .ref a0), (1, .ref (E (10 + a1)))]) hx hb dX5_isToken_19 rfl hl (by decide) rfl (fun ls hl => ?_)
    have lp20 : ∀ (f0 : Nat) (f1 : Nat) (S : CS) (k : Nat) (l2 : Int32) (q : Nat) , fX5_isToken_lp20 n S f0 f1 k l2  = some q → ∀ (H : Heap) (locs : List Loc), cWd D cc A s.heap S H locs → ∀ ls : Array Slot, lv_has ls 3 [(0, .ref f0), (1, .ref (E (10 + f1))), (2, .int l2)] → (0 = q → ∀ (H : Heap) (locs : List Loc), cWd D cc A s.heap S H locs → ∀ ls : Array Slot, lv_has ls 3 [] → W p l e (cRm 4 85 0 0) s m args below meth c H locs (0) (0) (MQ below (va_Qi (fun x u => x = r ∧ u = S) (cAft D cc A) A) args s 0 0 A) (F0 m 46 ls [])) → (1 = q → ∀ (H : Heap) (locs : List Loc), cWd D cc A s.heap S H locs → ∀ ls : Array Slot, lv_has ls 3 [] → W p l e (cRm 4 85 0 0) s m args below meth c H locs (0) (0) (MQ below (va_Qi (fun x u => x = r ∧ u = S) (cAft D cc A) A) args s 0 0 A) (F0 m 54 ls [])) → W p l e (cRm 4 85 0 0) s m args below meth c H locs (0) (0) (MQ below (va_Qi (fun x u => x = r ∧ u = S) (cAft D cc A) A) args s 0 0 A) (F0 m 20 ls []) := by
      intro f0 f1 S k
      induction k with
      | zero => intro l2 q h; rw [fX5_isToken_lp20] at h; cases h
      | succ k ih20 =>
        intro l2 q h H locs hw ls hl kx20_0 kx20_1
        rw [fX5_isToken_lp20] at h
        refine lv_iload_n hx hb dX5_isToken_20 rfl (lv_at hl 2 rfl) ?_
        refine lv_aload_n hx hb dX5_isToken_21 rfl (lv_at hl 1 rfl) ?_
        obtain ⟨q22, hq22, h⟩ := of_cal h
        refine C_i hA hw (va_runV (As := []) (rest := [.int l2]) ⟨hx, hb, hml, hown, hts⟩ (cS_length_ok l D cc E n S f1 hq22) (cwV 0 hts gX5_isToken_J0_length_8abf5 rfl rfl rfl (by decide +kernel) ⟨Nat.le_of_ble_eq_true rfl, Nat.le_of_ble_eq_true rfl⟩) ⟨cBlind D cc E S _, vk_recv hro.2.2.2.2.2.2.1 (fS_length_lt hq22) hw.2.2.2.2, fun U hU hW => ⟨rfl, C_pre hA hK hro hw U hU hW⟩⟩ rfl rfl hl.1 rfl (lv_room (Nat.le_of_ble_eq_true rfl)) dX5_isToken_22 ⟨Nat.le_refl _, Nat.le_refl _⟩) (fun H locs hw => ?_)
        refine W.widen (k := 0) (n := 0) (Nat.le_refl _) (Nat.le_refl _) ?_
        refine lv_icmp_ge (tgt := 54) hx hb dX5_isToken_25 (by decide) (fun c25 => ?_) (fun c25 => ?_)
        · have h := of_it h c25
          exact kx20_1 (Option.some.inj h) _ _ hw ls (lv_sub hl [] rfl)
        · have h := of_if h c25
          refine lv_aload_n hx hb dX5_isToken_28 rfl (lv_at hl 0 rfl) ?_
          refine lv_aload_n hx hb dX5_isToken_29 rfl (lv_at hl 0 rfl) ?_
          obtain ⟨hf2, h⟩ := of_grd h
          refine C_get hx hb hts hinX5 hown hK hw (cell_6 hf2) (by omega) rfl 2 (by decide) (index := 22) (by decide +kernel) rfl rfl dX5_isToken_30 ?_
          refine lv_topi (fun v30 ev30 => ?_)
          have h := of_bnd h ev30
          refine lv_iload_n hx hb dX5_isToken_33 rfl (lv_at hl 2 rfl) ?_
          refine lv_iadd hx hb dX5_isToken_34 ?_
          obtain ⟨q35, hq35, h⟩ := of_cal h
          refine C_i hA hw (va_runV (As := [.int (v30 + l2)]) (rest := []) ⟨hx, hb, hml, hown, hts⟩ (cX5_byteAt_ok l D cc E n S f0 (v30 + l2) hq35) (cwV 1 hts gX5_isToken_X5_byteAt rfl rfl rfl (by decide +kernel) ⟨Nat.le_of_ble_eq_true rfl, Nat.le_of_ble_eq_true rfl⟩) ⟨cBlind D cc E S _, C_recv hK hw (by omega) (cell_6 hf2) (r := (RX5, TX5, 6)) rfl, fun U hU hW => ⟨rfl, C_pre hA hK hro hw U hU hW⟩⟩ rfl rfl hl.1 rfl (lv_room (Nat.le_of_ble_eq_true rfl)) dX5_isToken_35 ⟨Nat.le_refl _, Nat.le_refl _⟩) (fun H locs hw => ?_)
          refine W.widen (k := 0) (n := 0) (Nat.le_refl _) (Nat.le_refl _) ?_
          refine lv_aload_n hx hb dX5_isToken_38 rfl (lv_at hl 1 rfl) ?_
          refine lv_iload_n hx hb dX5_isToken_39 rfl (lv_at hl 2 rfl) ?_
          obtain ⟨q40, hq40, h⟩ := of_cal h
          refine C_i hA hw (va_runV (As := [.int l2]) (rest := [.int q35]) ⟨hx, hb, hml, hown, hts⟩ (cS_charAt_ok l D cc E n S f1 l2 hq40) (cwV 1 hts gX5_isToken_J0_charAt_5068e rfl rfl rfl (by decide +kernel) ⟨Nat.le_of_ble_eq_true rfl, Nat.le_of_ble_eq_true rfl⟩) ⟨cBlind D cc E S _, vk_recv hro.2.2.2.2.2.2.1 (fS_charAt_lt hq40) hw.2.2.2.2, fun U hU hW => ⟨rfl, C_pre hA hK hro hw U hU hW⟩⟩ rfl rfl hl.1 rfl (lv_room (Nat.le_of_ble_eq_true rfl)) dX5_isToken_40 ⟨Nat.le_refl _, Nat.le_refl _⟩) (fun H locs hw => ?_)
          refine W.widen (k := 0) (n := 0) (Nat.le_refl _) (Nat.le_refl _) ?_
          refine lv_icmp_eq (tgt := 48) hx hb dX5_isToken_43 (by decide) (fun c43 => ?_) (fun c43 => ?_)
          · have h := of_it h c43
            obtain ⟨x48, ex48⟩ : ∃ y : Int32, y = l2 + 1 := ⟨_, rfl⟩
            have h := of_bnd h ex48
            refine lv_iinc (v := x48) (lv' := [(2, .int x48), (0, .ref f0), (1, .ref (E (10 + f1)))]) hx hb dX5_isToken_48 hl (k := 2) rfl (by rw [ex48]; rfl) (by decide) rfl (fun ls hl => ?_)
            refine lv_goto (tgt := 20) hx hb dX5_isToken_51 (by decide) ?_
            exact ih20 x48 _ h _ _ hw ls (lv_sub hl [1, 2, 0] rfl) kx20_0 kx20_1
          · have h := of_if h c43
            exact kx20_0 (Option.some.inj h) _ _ hw ls (lv_sub hl [] rfl)
    obtain ⟨q20, hq20, h⟩ := of_cal h
    refine lp20 a0 a1 S n.1 x19 q20  hq20 _ _ hw ls (lv_sub hl [1, 2, 0] rfl) ?_ ?_
    · intro  eq H locs hw ls hl
      subst eq
      have h := of_it h rfl
      refine lv_iconst (v := 0) hx hb dX5_isToken_46 (by decide) ?_
      obtain rfl := Option.some.inj h
      exact C_iret hx hb hr hlocks hw (by first | rfl | decide) dX5_isToken_47
    · intro  eq H locs hw ls hl
      subst eq
      have h := of_if h (by decide)
      refine lv_iconst (v := 1) hx hb dX5_isToken_54 (by decide) ?_
      obtain rfl := Option.some.inj h
      exact C_iret hx hb hr hlocks hw (by first | rfl | decide) dX5_isToken_55
  · have h := of_if h c13
    refine lv_iconst (v := 0) hx hb dX5_isToken_16 (by decide) ?_
    obtain rfl := Option.some.inj h
    exact C_iret hx hb hr hlocks hw (by first | rfl | decide) dX5_isToken_17

def fX5_readNeed (n : Nat × Nat) (S : CS) (a0 : Nat) : Option (Int32 × CS) :=
  grd (cD S a0 = 6) (cal (fX5_nextNumber n S a0 (9 : Int32)) (un2 fun r3 S3 => if r3 = (-1 : Int32) then 
    some ((0 : Int32), S3)
    else grd (cD S3 a0 = 6) (cal (fX5_nextNumber n S3 a0 (100000 : Int32)) (un2 fun r17 S17 => if r17 = (-1 : Int32) then 
      some ((0 : Int32), S17)
      else bnd (0 : Int32) (fun x29 => grd (cD S17 a0 = 6) (cal (fX5_nextToken n S17 a0) (fun S31 => grd (cD S31 a0 = 6) (cal (fX5_isToken n S31 a0 3) (fun q37 => if q37 = 0 then 
        onn (cR S31 121 a0) (fun b62 => grd (cD S31 b62 = 7) (cal (fX6_addNeed n S31 b62 r3 r17 x29) (fun S68 => some ((1 : Int32), S68))))
        else cal (fX5_nextNumber n S31 a0 (12 : Int32)) (un2 fun r46 S46 => if r46 = (-1 : Int32) then 
          some ((0 : Int32), S46)
          else grd (cD S46 a0 = 6) (cal (fX5_nextToken n S46 a0) (fun S58 => grd (cD S58 a0 = 6) (onn (cR S58 121 a0) (fun b62 => grd (cD S58 b62 = 7) (cal (fX6_addNeed n S58 b62 r3 r17 r46) (fun S68 => some ((1 : Int32), S68)))))))))))))))))
set_option maxHeartbeats 8000000 in
set_option maxRecDepth 100000 in
theorem cX5_readNeed_ok (l : Launch) (D : va_G) (cc : Nat → ClassId) (E : Nat → Nat) (n : Nat × Nat) (S : CS) (a0 : Nat) {r : Int32} {T : CS} (h : fX5_readNeed n S a0 = some (r, T)) : Ci l yX5_readNeed wsX5_readNeed 5 107 D cc E [.ref a0] S r T 0 0 := by
  refine C_of (own := RX5) (bb := cX5_readNeed) (nL := 4) (ret := (some .boolean)) (by decide) rfl rfl (Nat.le_of_ble_eq_true rfl) ?_
  intro p e s m args below meth c hx hb hr hlocks hml hts hown hnm hA hK hro hw ls hl
  generalize va_A (cPs cc S) (nx S) = A at hA hro hw ⊢
  unfold fX5_readNeed at h
  have hinX5 : ∀ w ∈ wsX50, w ∈ wsX5_readNeed := by decide +kernel
  have hl : lv_has ls 4 [(0, .ref a0)] := hl
  refine lv_aload_n hx hb dX5_readNeed_0 rfl (lv_at hl 0 rfl) ?_
  refine lv_bipush (v := 9) hx hb dX5_readNeed_1 (by decide) ?_
  obtain ⟨hf1, h⟩ := of_grd h
  obtain ⟨q3, hq3, h⟩ := of_cal h
  obtain ⟨r3, S3⟩ := q3
  have h := of_un2 h
  refine C_i hA hw (va_runV (As := [.int (9 : Int32)]) (rest := []) ⟨hx, hb, hml, hown, hts⟩ (cX5_nextNumber_ok l D cc E n S a0 (9 : Int32) hq3) (cwV 1 hts gX5_readNeed_X5_nextNumber rfl rfl rfl (by decide +kernel) ⟨Nat.le_of_ble_eq_true rfl, Nat.le_of_ble_eq_true rfl⟩) ⟨cBlind D cc E S _, C_recv hK hw (by omega) (cell_6 hf1) (r := (RX5, TX5, 6)) rfl, fun U hU hW => ⟨rfl, C_pre hA hK hro hw U hU hW⟩⟩ rfl rfl hl.1 rfl (lv_room (Nat.le_of_ble_eq_true rfl)) dX5_readNeed_3 ⟨Nat.le_refl _, Nat.le_refl _⟩) (fun H locs hw => ?_)
  refine W.widen (k := 0) (n := 0) (Nat.le_refl _) (Nat.le_refl _) ?_
  refine lv_istore_n (lv' := [(1, .int r3), (0, .ref a0)]) hx hb dX5_readNeed_6 rfl hl (by decide) rfl (fun ls hl => ?_)
  refine lv_iload_n hx hb dX5_readNeed_7 rfl (lv_at hl 0 rfl) ?_
  refine lv_iconst (v := -1) hx hb dX5_readNeed_8 (by decide) ?_
  refine lv_icmp_ne (tgt := 14) hx hb dX5_readNeed_9 (by decide) (fun c9 => ?_) (fun c9 => ?_)
  · have h := of_if h c9
    refine lv_aload_n hx hb dX5_readNeed_14 rfl (lv_at hl 1 rfl) ?_
    refine lv_ldc (v := 100000) hx hb hown (hts (.constant RX5 73 (100000)) (by decide +kernel)) dX5_readNeed_15 ?_
    obtain ⟨hf2, h⟩ := of_grd h
    obtain ⟨q17, hq17, h⟩ := of_cal h
    obtain ⟨r17, S17⟩ := q17
    have h := of_un2 h
    refine C_i hA hw (va_runV (As := [.int (100000 : Int32)]) (rest := []) ⟨hx, hb, hml, hown, hts⟩ (cX5_nextNumber_ok l D cc E n S3 a0 (100000 : Int32) hq17) (cwV 1 hts gX5_readNeed_X5_nextNumber rfl rfl rfl (by decide +kernel) ⟨Nat.le_of_ble_eq_true rfl, Nat.le_of_ble_eq_true rfl⟩) ⟨cBlind D cc E S3 _, C_recv hK hw (by omega) (cell_6 hf2) (r := (RX5, TX5, 6)) rfl, fun U hU hW => ⟨rfl, C_pre hA hK hro hw U hU hW⟩⟩ rfl rfl hl.1 rfl (lv_room (Nat.le_of_ble_eq_true rfl)) dX5_readNeed_17 ⟨Nat.le_refl _, Nat.le_refl _⟩) (fun H locs hw => ?_)
    refine W.widen (k := 0) (n := 0) (Nat.le_refl _) (Nat.le_refl _) ?_
    refine lv_istore_n (lv' := [(2, .int r17), (1, .int r3), (0, .ref a0)]) hx hb dX5_readNeed_20 rfl hl (by decide) rfl (fun ls hl => ?_)
    refine lv_iload_n hx hb dX5_readNeed_21 rfl (lv_at hl 0 rfl) ?_
    refine lv_iconst (v := -1) hx hb dX5_readNeed_22 (by decide) ?_
    refine lv_icmp_ne (tgt := 28) hx hb dX5_readNeed_23 (by decide) (fun c23 => ?_) (fun c23 => ?_)
    · have h := of_if h c23
      refine lv_iconst (v := 0) hx hb dX5_readNeed_28 (by decide) ?_
      refine lv_topi (fun x29 ex29 => ?_)
      have h := of_bnd h ex29
      refine lv_istore_n (lv' := [(3, .int x29), (2, .int r17), (1, .int r3), (0, .ref a0)]) hx hb dX5_readNeed_29 rfl hl (by decide) rfl (fun ls hl => ?_)
      refine lv_aload_n hx hb dX5_readNeed_30 rfl (lv_at hl 3 rfl) ?_
      obtain ⟨hf3, h⟩ := of_grd h
      obtain ⟨q31, hq31, h⟩ := of_cal h
      obtain ⟨S31, eS31⟩ : ∃ x, x = q31 := ⟨_, rfl⟩
      subst eS31
      refine C_v hA hw (va_runV (As := []) (rest := []) ⟨hx, hb, hml, hown, hts⟩ (cX5_nextToken_ok l D cc E n S17 a0 hq31) (cwV 0 hts gX5_readNeed_X5_nextToken rfl rfl rfl (by decide +kernel) ⟨Nat.le_of_ble_eq_true rfl, Nat.le_of_ble_eq_true rfl⟩) ⟨cBlind D cc E S17 _, C_recv hK hw (by omega) (cell_6 hf3) (r := (RX5, TX5, 6)) rfl, fun U hU hW => ⟨rfl, C_pre hA hK hro hw U hU hW⟩⟩ rfl rfl hl.1 rfl (lv_room (Nat.le_of_ble_eq_true rfl)) dX5_readNeed_31 ⟨Nat.le_refl _, Nat.le_refl _⟩) (fun H locs hw => ?_)
      refine W.widen (k := 0) (n := 0) (Nat.le_refl _) (Nat.le_refl _) ?_
      refine lv_aload_n hx hb dX5_readNeed_34 rfl (lv_at hl 3 rfl) ?_
      refine va_ldcS hx hb hown (hro.2.2.2.2.2.2.2.1 3 _ rfl) dX5_readNeed_35 ?_
      obtain ⟨hf4, h⟩ := of_grd h
      obtain ⟨q37, hq37, h⟩ := of_cal h
      refine C_i hA hw (va_runV (As := [.ref (E (10 + 3))]) (rest := []) ⟨hx, hb, hml, hown, hts⟩ (cX5_isToken_ok l D cc E n S31 a0 3 hq37) (cwV 1 hts gX5_readNeed_X5_isToken rfl rfl rfl (by decide +kernel) ⟨Nat.le_of_ble_eq_true rfl, Nat.le_of_ble_eq_true rfl⟩) ⟨cBlind D cc E S31 _, C_recv hK hw (by omega) (cell_6 hf4) (r := (RX5, TX5, 6)) rfl, fun U hU hW => ⟨rfl, C_pre hA hK hro hw U hU hW⟩⟩ rfl rfl hl.1 rfl (lv_room (Nat.le_of_ble_eq_true rfl)) dX5_readNeed_37 ⟨Nat.le_refl _, Nat.le_refl _⟩) (fun H locs hw => ?_)
      refine W.widen (k := 0) (n := 0) (Nat.le_refl _) (Nat.le_refl _) ?_
      refine lv_if_eq (tgt := 61) hx hb dX5_readNeed_40 (by decide) (fun c40 => ?_) (fun c40 => ?_)
      · have h := of_it h c40
        refine lv_aload_n hx hb dX5_readNeed_61 rfl (lv_at hl 3 rfl) ?_
        obtain ⟨b62, eb62, h⟩ := of_onn h
        refine C_get hx hb hts hinX5 hown hK hw (cell_6 hf4) (by omega) rfl 1 (by decide) (index := 18) (by decide +kernel) rfl (v := .ref b62) (congrArg (fun o => some (va_rf o)) eb62) dX5_readNeed_62 ?_
        refine lv_iload_n hx hb dX5_readNeed_65 rfl (lv_at hl 2 rfl) ?_
        refine lv_iload_n hx hb dX5_readNeed_66 rfl (lv_at hl 1 rfl) ?_
        refine lv_iload_n hx hb dX5_readNeed_67 rfl (lv_at hl 0 rfl) ?_
        obtain ⟨hf5, h⟩ := of_grd h
        obtain ⟨q68, hq68, h⟩ := of_cal h
        obtain ⟨S68, eS68⟩ : ∃ x, x = q68 := ⟨_, rfl⟩
        subst eS68
        refine C_v hA hw (va_runV (As := [.int r3, .int r17, .int x29]) (rest := []) ⟨hx, hb, hml, hown, hts⟩ (cX6_addNeed_ok l D cc E n S31 b62 r3 r17 x29 hq68) (cwV 3 hts gX5_readNeed_X6_addNeed rfl rfl rfl (by decide +kernel) ⟨Nat.le_of_ble_eq_true rfl, Nat.le_of_ble_eq_true rfl⟩) ⟨cBlind D cc E S31 _, C_recv hK hw (by omega) (cell_7 hf5) (r := (RX6, TX6, 5)) rfl, fun U hU hW => ⟨rfl, C_pre hA hK hro hw U hU hW⟩⟩ rfl rfl hl.1 rfl (lv_room (Nat.le_of_ble_eq_true rfl)) dX5_readNeed_68 ⟨Nat.le_refl _, Nat.le_refl _⟩) (fun H locs hw => ?_)
        refine W.widen (k := 0) (n := 0) (Nat.le_refl _) (Nat.le_refl _) ?_
        refine lv_iconst (v := 1) hx hb dX5_readNeed_71 (by decide) ?_
        obtain ⟨rfl, rfl⟩ := of_ret2 h
        exact C_iret hx hb hr hlocks hw (by first | rfl | decide) dX5_readNeed_72
      · have h := of_if h c40
        refine lv_aload_n hx hb dX5_readNeed_43 rfl (lv_at hl 3 rfl) ?_
        refine lv_bipush (v := 12) hx hb dX5_readNeed_44 (by decide) ?_
        obtain ⟨q46, hq46, h⟩ := of_cal h
        obtain ⟨r46, S46⟩ := q46
        have h := of_un2 h
        refine C_i hA hw (va_runV (As := [.int (12 : Int32)]) (rest := []) ⟨hx, hb, hml, hown, hts⟩ (cX5_nextNumber_ok l D cc E n S31 a0 (12 : Int32) hq46) (cwV 1 hts gX5_readNeed_X5_nextNumber rfl rfl rfl (by decide +kernel) ⟨Nat.le_of_ble_eq_true rfl, Nat.le_of_ble_eq_true rfl⟩) ⟨cBlind D cc E S31 _, C_recv hK hw (by omega) (cell_6 hf4) (r := (RX5, TX5, 6)) rfl, fun U hU hW => ⟨rfl, C_pre hA hK hro hw U hU hW⟩⟩ rfl rfl hl.1 rfl (lv_room (Nat.le_of_ble_eq_true rfl)) dX5_readNeed_46 ⟨Nat.le_refl _, Nat.le_refl _⟩) (fun H locs hw => ?_)
        refine W.widen (k := 0) (n := 0) (Nat.le_refl _) (Nat.le_refl _) ?_
        refine lv_istore_n (lv' := [(3, .int r46), (2, .int r17), (1, .int r3), (0, .ref a0)]) hx hb dX5_readNeed_49 rfl hl (by decide) rfl (fun ls hl => ?_)
        refine lv_iload_n hx hb dX5_readNeed_50 rfl (lv_at hl 0 rfl) ?_
        refine lv_iconst (v := -1) hx hb dX5_readNeed_51 (by decide) ?_
        refine lv_icmp_ne (tgt := 57) hx hb dX5_readNeed_52 (by decide) (fun c52 => ?_) (fun c52 => ?_)
        · have h := of_if h c52
          refine lv_aload_n hx hb dX5_readNeed_57 rfl (lv_at hl 3 rfl) ?_
          obtain ⟨hf6, h⟩ := of_grd h
          obtain ⟨q58, hq58, h⟩ := of_cal h
          obtain ⟨S58, eS58⟩ : ∃ x, x = q58 := ⟨_, rfl⟩
          subst eS58
          refine C_v hA hw (va_runV (As := []) (rest := []) ⟨hx, hb, hml, hown, hts⟩ (cX5_nextToken_ok l D cc E n S46 a0 hq58) (cwV 0 hts gX5_readNeed_X5_nextToken rfl rfl rfl (by decide +kernel) ⟨Nat.le_of_ble_eq_true rfl, Nat.le_of_ble_eq_true rfl⟩) ⟨cBlind D cc E S46 _, C_recv hK hw (by omega) (cell_6 hf6) (r := (RX5, TX5, 6)) rfl, fun U hU hW => ⟨rfl, C_pre hA hK hro hw U hU hW⟩⟩ rfl rfl hl.1 rfl (lv_room (Nat.le_of_ble_eq_true rfl)) dX5_readNeed_58 ⟨Nat.le_refl _, Nat.le_refl _⟩) (fun H locs hw => ?_)
          refine W.widen (k := 0) (n := 0) (Nat.le_refl _) (Nat.le_refl _) ?_
          refine lv_aload_n hx hb dX5_readNeed_61 rfl (lv_at hl 3 rfl) ?_
          obtain ⟨hf7, h⟩ := of_grd h
          obtain ⟨b62, eb62, h⟩ := of_onn h
          refine C_get hx hb hts hinX5 hown hK hw (cell_6 hf7) (by omega) rfl 1 (by decide) (index := 18) (by decide +kernel) rfl (v := .ref b62) (congrArg (fun o => some (va_rf o)) eb62) dX5_readNeed_62 ?_
          refine lv_iload_n hx hb dX5_readNeed_65 rfl (lv_at hl 2 rfl) ?_
          refine lv_iload_n hx hb dX5_readNeed_66 rfl (lv_at hl 1 rfl) ?_
          refine lv_iload_n hx hb dX5_readNeed_67 rfl (lv_at hl 0 rfl) ?_
          obtain ⟨hf8, h⟩ := of_grd h
          obtain ⟨q68, hq68, h⟩ := of_cal h
          obtain ⟨S68, eS68⟩ : ∃ x, x = q68 := ⟨_, rfl⟩
          subst eS68
          refine C_v hA hw (va_runV (As := [.int r3, .int r17, .int r46]) (rest := []) ⟨hx, hb, hml, hown, hts⟩ (cX6_addNeed_ok l D cc E n S58 b62 r3 r17 r46 hq68) (cwV 3 hts gX5_readNeed_X6_addNeed rfl rfl rfl (by decide +kernel) ⟨Nat.le_of_ble_eq_true rfl, Nat.le_of_ble_eq_true rfl⟩) ⟨cBlind D cc E S58 _, C_recv hK hw (by omega) (cell_7 hf8) (r := (RX6, TX6, 5)) rfl, fun U hU hW => ⟨rfl, C_pre hA hK hro hw U hU hW⟩⟩ rfl rfl hl.1 rfl (lv_room (Nat.le_of_ble_eq_true rfl)) dX5_readNeed_68 ⟨Nat.le_refl _, Nat.le_refl _⟩) (fun H locs hw => ?_)
          refine W.widen (k := 0) (n := 0) (Nat.le_refl _) (Nat.le_refl _) ?_
          refine lv_iconst (v := 1) hx hb dX5_readNeed_71 (by decide) ?_
          obtain ⟨rfl, rfl⟩ := of_ret2 h
          exact C_iret hx hb hr hlocks hw (by first | rfl | decide) dX5_readNeed_72
        · have h := of_it h c52
          refine lv_iconst (v := 0) hx hb dX5_readNeed_55 (by decide) ?_
          obtain ⟨rfl, rfl⟩ := of_ret2 h
          exact C_iret hx hb hr hlocks hw (by first | rfl | decide) dX5_readNeed_56
    · have h := of_it h c23
      refine lv_iconst (v := 0) hx hb dX5_readNeed_26 (by decide) ?_
      obtain ⟨rfl, rfl⟩ := of_ret2 h
      exact C_iret hx hb hr hlocks hw (by first | rfl | decide) dX5_readNeed_27
  · have h := of_it h c9
    refine lv_iconst (v := 0) hx hb dX5_readNeed_12 (by decide) ?_
    obtain ⟨rfl, rfl⟩ := of_ret2 h
    exact C_iret hx hb hr hlocks hw (by first | rfl | decide) dX5_readNeed_13

def fX5_readSpare (n : Nat × Nat) (S : CS) (a0 : Nat) : Option (Int32 × CS) :=
  grd (cD S a0 = 6) (cal (fX5_nextNumber n S a0 (9 : Int32)) (un2 fun r3 S3 => if r3 = (-1 : Int32) then 
    some ((0 : Int32), S3)
    else grd (cD S3 a0 = 6) (cal (fX5_nextNumber n S3 a0 (1000 : Int32)) (un2 fun r18 S18 => if r18 = (-1 : Int32) then 
      some ((0 : Int32), S18)
      else grd (cD S18 a0 = 6) (cal (fX5_nextToken n S18 a0) (fun S30 => grd (cD S30 a0 = 6) (onn (cR S30 121 a0) (fun b34 => grd (cD S30 b34 = 7) (cal (fX6_addSpare n S30 b34 r3 r18) (fun S39 => some ((1 : Int32), S39)))))))))))
set_option maxHeartbeats 8000000 in
set_option maxRecDepth 100000 in
theorem cX5_readSpare_ok (l : Launch) (D : va_G) (cc : Nat → ClassId) (E : Nat → Nat) (n : Nat × Nat) (S : CS) (a0 : Nat) {r : Int32} {T : CS} (h : fX5_readSpare n S a0 = some (r, T)) : Ci l yX5_readSpare wsX5_readSpare 3 65 D cc E [.ref a0] S r T 0 0 := by
  refine C_of (own := RX5) (bb := cX5_readSpare) (nL := 3) (ret := (some .boolean)) (by decide) rfl rfl (Nat.le_of_ble_eq_true rfl) ?_
  intro p e s m args below meth c hx hb hr hlocks hml hts hown hnm hA hK hro hw ls hl
  generalize va_A (cPs cc S) (nx S) = A at hA hro hw ⊢
  unfold fX5_readSpare at h
  have hinX5 : ∀ w ∈ wsX50, w ∈ wsX5_readSpare := by decide +kernel
  have hl : lv_has ls 3 [(0, .ref a0)] := hl
  refine lv_aload_n hx hb dX5_readSpare_0 rfl (lv_at hl 0 rfl) ?_
  refine lv_bipush (v := 9) hx hb dX5_readSpare_1 (by decide) ?_
  obtain ⟨hf1, h⟩ := of_grd h
  obtain ⟨q3, hq3, h⟩ := of_cal h
  obtain ⟨r3, S3⟩ := q3
  have h := of_un2 h
  refine C_i hA hw (va_runV (As := [.int (9 : Int32)]) (rest := []) ⟨hx, hb, hml, hown, hts⟩ (cX5_nextNumber_ok l D cc E n S a0 (9 : Int32) hq3) (cwV 1 hts gX5_readSpare_X5_nextNumber rfl rfl rfl (by decide +kernel) ⟨Nat.le_of_ble_eq_true rfl, Nat.le_of_ble_eq_true rfl⟩) ⟨cBlind D cc E S _, C_recv hK hw (by omega) (cell_6 hf1) (r := (RX5, TX5, 6)) rfl, fun U hU hW => ⟨rfl, C_pre hA hK hro hw U hU hW⟩⟩ rfl rfl hl.1 rfl (lv_room (Nat.le_of_ble_eq_true rfl)) dX5_readSpare_3 ⟨Nat.le_refl _, Nat.le_refl _⟩) (fun H locs hw => ?_)
  refine W.widen (k := 0) (n := 0) (Nat.le_refl _) (Nat.le_refl _) ?_
  refine lv_istore_n (lv' := [(1, .int r3), (0, .ref a0)]) hx hb dX5_readSpare_6 rfl hl (by decide) rfl (fun ls hl => ?_)
  refine lv_iload_n hx hb dX5_readSpare_7 rfl (lv_at hl 0 rfl) ?_
  refine lv_iconst (v := -1) hx hb dX5_readSpare_8 (by decide) ?_
  refine lv_icmp_ne (tgt := 14) hx hb dX5_readSpare_9 (by decide) (fun c9 => ?_) (fun c9 => ?_)
  · have h := of_if h c9
    refine lv_aload_n hx hb dX5_readSpare_14 rfl (lv_at hl 1 rfl) ?_
    refine lv_sipush (v := 1000) hx hb dX5_readSpare_15 (by decide) ?_
    obtain ⟨hf2, h⟩ := of_grd h
    obtain ⟨q18, hq18, h⟩ := of_cal h
    obtain ⟨r18, S18⟩ := q18
    have h := of_un2 h
    refine C_i hA hw (va_runV (As := [.int (1000 : Int32)]) (rest := []) ⟨hx, hb, hml, hown, hts⟩ (cX5_nextNumber_ok l D cc E n S3 a0 (1000 : Int32) hq18) (cwV 1 hts gX5_readSpare_X5_nextNumber rfl rfl rfl (by decide +kernel) ⟨Nat.le_of_ble_eq_true rfl, Nat.le_of_ble_eq_true rfl⟩) ⟨cBlind D cc E S3 _, C_recv hK hw (by omega) (cell_6 hf2) (r := (RX5, TX5, 6)) rfl, fun U hU hW => ⟨rfl, C_pre hA hK hro hw U hU hW⟩⟩ rfl rfl hl.1 rfl (lv_room (Nat.le_of_ble_eq_true rfl)) dX5_readSpare_18 ⟨Nat.le_refl _, Nat.le_refl _⟩) (fun H locs hw => ?_)
    refine W.widen (k := 0) (n := 0) (Nat.le_refl _) (Nat.le_refl _) ?_
    refine lv_istore_n (lv' := [(2, .int r18), (1, .int r3), (0, .ref a0)]) hx hb dX5_readSpare_21 rfl hl (by decide) rfl (fun ls hl => ?_)
    refine lv_iload_n hx hb dX5_readSpare_22 rfl (lv_at hl 0 rfl) ?_
    refine lv_iconst (v := -1) hx hb dX5_readSpare_23 (by decide) ?_
    refine lv_icmp_ne (tgt := 29) hx hb dX5_readSpare_24 (by decide) (fun c24 => ?_) (fun c24 => ?_)
    · have h := of_if h c24
      refine lv_aload_n hx hb dX5_readSpare_29 rfl (lv_at hl 2 rfl) ?_
      obtain ⟨hf3, h⟩ := of_grd h
      obtain ⟨q30, hq30, h⟩ := of_cal h
      obtain ⟨S30, eS30⟩ : ∃ x, x = q30 := ⟨_, rfl⟩
      subst eS30
      refine C_v hA hw (va_runV (As := []) (rest := []) ⟨hx, hb, hml, hown, hts⟩ (cX5_nextToken_ok l D cc E n S18 a0 hq30) (cwV 0 hts gX5_readSpare_X5_nextToken rfl rfl rfl (by decide +kernel) ⟨Nat.le_of_ble_eq_true rfl, Nat.le_of_ble_eq_true rfl⟩) ⟨cBlind D cc E S18 _, C_recv hK hw (by omega) (cell_6 hf3) (r := (RX5, TX5, 6)) rfl, fun U hU hW => ⟨rfl, C_pre hA hK hro hw U hU hW⟩⟩ rfl rfl hl.1 rfl (lv_room (Nat.le_of_ble_eq_true rfl)) dX5_readSpare_30 ⟨Nat.le_refl _, Nat.le_refl _⟩) (fun H locs hw => ?_)
      refine W.widen (k := 0) (n := 0) (Nat.le_refl _) (Nat.le_refl _) ?_
      refine lv_aload_n hx hb dX5_readSpare_33 rfl (lv_at hl 2 rfl) ?_
      obtain ⟨hf4, h⟩ := of_grd h
      obtain ⟨b34, eb34, h⟩ := of_onn h
      refine C_get hx hb hts hinX5 hown hK hw (cell_6 hf4) (by omega) rfl 1 (by decide) (index := 18) (by decide +kernel) rfl (v := .ref b34) (congrArg (fun o => some (va_rf o)) eb34) dX5_readSpare_34 ?_
      refine lv_iload_n hx hb dX5_readSpare_37 rfl (lv_at hl 1 rfl) ?_
      refine lv_iload_n hx hb dX5_readSpare_38 rfl (lv_at hl 0 rfl) ?_
      obtain ⟨hf5, h⟩ := of_grd h
      obtain ⟨q39, hq39, h⟩ := of_cal h
      obtain ⟨S39, eS39⟩ : ∃ x, x = q39 := ⟨_, rfl⟩
      subst eS39
      refine C_v hA hw (va_runV (As := [.int r3, .int r18]) (rest := []) ⟨hx, hb, hml, hown, hts⟩ (cX6_addSpare_ok l D cc E n S30 b34 r3 r18 hq39) (cwV 2 hts gX5_readSpare_X6_addSpare rfl rfl rfl (by decide +kernel) ⟨Nat.le_of_ble_eq_true rfl, Nat.le_of_ble_eq_true rfl⟩) ⟨cBlind D cc E S30 _, C_recv hK hw (by omega) (cell_7 hf5) (r := (RX6, TX6, 5)) rfl, fun U hU hW => ⟨rfl, C_pre hA hK hro hw U hU hW⟩⟩ rfl rfl hl.1 rfl (lv_room (Nat.le_of_ble_eq_true rfl)) dX5_readSpare_39 ⟨Nat.le_refl _, Nat.le_refl _⟩) (fun H locs hw => ?_)
      refine W.widen (k := 0) (n := 0) (Nat.le_refl _) (Nat.le_refl _) ?_
      refine lv_iconst (v := 1) hx hb dX5_readSpare_42 (by decide) ?_
      obtain ⟨rfl, rfl⟩ := of_ret2 h
      exact C_iret hx hb hr hlocks hw (by first | rfl | decide) dX5_readSpare_43
    · have h := of_it h c24
      refine lv_iconst (v := 0) hx hb dX5_readSpare_27 (by decide) ?_
      obtain ⟨rfl, rfl⟩ := of_ret2 h
      exact C_iret hx hb hr hlocks hw (by first | rfl | decide) dX5_readSpare_28
  · have h := of_it h c9
    refine lv_iconst (v := 0) hx hb dX5_readSpare_12 (by decide) ?_
    obtain ⟨rfl, rfl⟩ := of_ret2 h
    exact C_iret hx hb hr hlocks hw (by first | rfl | decide) dX5_readSpare_13

def fX5_readSwap (n : Nat × Nat) (S : CS) (a0 : Nat) : Option (Int32 × CS) :=
  grd (cD S a0 = 6) (cal (fX5_nextNumber n S a0 (9 : Int32)) (un2 fun r3 S3 => if r3 = (-1 : Int32) then 
    some ((0 : Int32), S3)
    else grd (cD S3 a0 = 6) (cal (fX5_nextToken n S3 a0) (fun S15 => grd (cD S15 a0 = 6) (cal (fX5_isToken n S15 a0 4) (fun q21 => if q21 = 0 then 
      some ((0 : Int32), S15)
      else cal (fX5_nextNumber n S15 a0 (9 : Int32)) (un2 fun r32 S32 => if r32 = (-1 : Int32) then 
        some ((0 : Int32), S32)
        else if r32 = r3 then 
          some ((0 : Int32), S32)
          else grd (cD S32 a0 = 6) (cal (fX5_nextToken n S32 a0) (fun S49 => grd (cD S49 a0 = 6) (onn (cR S49 121 a0) (fun b53 => grd (cD S49 b53 = 7) (cal (fX6_addSwap n S49 b53 r3 r32) (fun S58 => some ((1 : Int32), S58))))))))))))))
set_option maxHeartbeats 8000000 in
set_option maxRecDepth 100000 in
theorem cX5_readSwap_ok (l : Launch) (D : va_G) (cc : Nat → ClassId) (E : Nat → Nat) (n : Nat × Nat) (S : CS) (a0 : Nat) {r : Int32} {T : CS} (h : fX5_readSwap n S a0 = some (r, T)) : Ci l yX5_readSwap wsX5_readSwap 5 107 D cc E [.ref a0] S r T 0 0 := by
  refine C_of (own := RX5) (bb := cX5_readSwap) (nL := 3) (ret := (some .boolean)) (by decide) rfl rfl (Nat.le_of_ble_eq_true rfl) ?_
  intro p e s m args below meth c hx hb hr hlocks hml hts hown hnm hA hK hro hw ls hl
  generalize va_A (cPs cc S) (nx S) = A at hA hro hw ⊢
  unfold fX5_readSwap at h
  have hinX5 : ∀ w ∈ wsX50, w ∈ wsX5_readSwap := by decide +kernel
  have hl : lv_has ls 3 [(0, .ref a0)] := hl
  refine lv_aload_n hx hb dX5_readSwap_0 rfl (lv_at hl 0 rfl) ?_
  refine lv_bipush (v := 9) hx hb dX5_readSwap_1 (by decide) ?_
  obtain ⟨hf1, h⟩ := of_grd h
  obtain ⟨q3, hq3, h⟩ := of_cal h
  obtain ⟨r3, S3⟩ := q3
  have h := of_un2 h
  refine C_i hA hw (va_runV (As := [.int (9 : Int32)]) (rest := []) ⟨hx, hb, hml, hown, hts⟩ (cX5_nextNumber_ok l D cc E n S a0 (9 : Int32) hq3) (cwV 1 hts gX5_readSwap_X5_nextNumber rfl rfl rfl (by decide +kernel) ⟨Nat.le_of_ble_eq_true rfl, Nat.le_of_ble_eq_true rfl⟩) ⟨cBlind D cc E S _, C_recv hK hw (by omega) (cell_6 hf1) (r := (RX5, TX5, 6)) rfl, fun U hU hW => ⟨rfl, C_pre hA hK hro hw U hU hW⟩⟩ rfl rfl hl.1 rfl (lv_room (Nat.le_of_ble_eq_true rfl)) dX5_readSwap_3 ⟨Nat.le_refl _, Nat.le_refl _⟩) (fun H locs hw => ?_)
  refine W.widen (k := 0) (n := 0) (Nat.le_refl _) (Nat.le_refl _) ?_
  refine lv_istore_n (lv' := [(1, .int r3), (0, .ref a0)]) hx hb dX5_readSwap_6 rfl hl (by decide) rfl (fun ls hl => ?_)
  refine lv_iload_n hx hb dX5_readSwap_7 rfl (lv_at hl 0 rfl) ?_
  refine lv_iconst (v := -1) hx hb dX5_readSwap_8 (by decide) ?_
  refine lv_icmp_ne (tgt := 14) hx hb dX5_readSwap_9 (by decide) (fun c9 => ?_) (fun c9 => ?_)
  · have h := of_if h c9
    refine lv_aload_n hx hb dX5_readSwap_14 rfl (lv_at hl 1 rfl) ?_
    obtain ⟨hf2, h⟩ := of_grd h
    obtain ⟨q15, hq15, h⟩ := of_cal h
    obtain ⟨S15, eS15⟩ : ∃ x, x = q15 := ⟨_, rfl⟩
    subst eS15
    refine C_v hA hw (va_runV (As := []) (rest := []) ⟨hx, hb, hml, hown, hts⟩ (cX5_nextToken_ok l D cc E n S3 a0 hq15) (cwV 0 hts gX5_readSwap_X5_nextToken rfl rfl rfl (by decide +kernel) ⟨Nat.le_of_ble_eq_true rfl, Nat.le_of_ble_eq_true rfl⟩) ⟨cBlind D cc E S3 _, C_recv hK hw (by omega) (cell_6 hf2) (r := (RX5, TX5, 6)) rfl, fun U hU hW => ⟨rfl, C_pre hA hK hro hw U hU hW⟩⟩ rfl rfl hl.1 rfl (lv_room (Nat.le_of_ble_eq_true rfl)) dX5_readSwap_15 ⟨Nat.le_refl _, Nat.le_refl _⟩) (fun H locs hw => ?_)
    refine W.widen (k := 0) (n := 0) (Nat.le_refl _) (Nat.le_refl _) ?_
    refine lv_aload_n hx hb dX5_readSwap_18 rfl (lv_at hl 1 rfl) ?_
    refine va_ldcS hx hb hown (hro.2.2.2.2.2.2.2.1 4 _ rfl) dX5_readSwap_19 ?_
    obtain ⟨hf3, h⟩ := of_grd h
    obtain ⟨q21, hq21, h⟩ := of_cal h
    refine C_i hA hw (va_runV (As := [.ref (E (10 + 4))]) (rest := []) ⟨hx, hb, hml, hown, hts⟩ (cX5_isToken_ok l D cc E n S15 a0 4 hq21) (cwV 1 hts gX5_readSwap_X5_isToken rfl rfl rfl (by decide +kernel) ⟨Nat.le_of_ble_eq_true rfl, Nat.le_of_ble_eq_true rfl⟩) ⟨cBlind D cc E S15 _, C_recv hK hw (by omega) (cell_6 hf3) (r := (RX5, TX5, 6)) rfl, fun U hU hW => ⟨rfl, C_pre hA hK hro hw U hU hW⟩⟩ rfl rfl hl.1 rfl (lv_room (Nat.le_of_ble_eq_true rfl)) dX5_readSwap_21 ⟨Nat.le_refl _, Nat.le_refl _⟩) (fun H locs hw => ?_)
    refine W.widen (k := 0) (n := 0) (Nat.le_refl _) (Nat.le_refl _) ?_
    refine lv_if_ne (tgt := 29) hx hb dX5_readSwap_24 (by decide) (fun c24 => ?_) (fun c24 => ?_)
    · have h := of_if h c24
      refine lv_aload_n hx hb dX5_readSwap_29 rfl (lv_at hl 1 rfl) ?_
      refine lv_bipush (v := 9) hx hb dX5_readSwap_30 (by decide) ?_
      obtain ⟨q32, hq32, h⟩ := of_cal h
      obtain ⟨r32, S32⟩ := q32
      have h := of_un2 h
      refine C_i hA hw (va_runV (As := [.int (9 : Int32)]) (rest := []) ⟨hx, hb, hml, hown, hts⟩ (cX5_nextNumber_ok l D cc E n S15 a0 (9 : Int32) hq32) (cwV 1 hts gX5_readSwap_X5_nextNumber rfl rfl rfl (by decide +kernel) ⟨Nat.le_of_ble_eq_true rfl, Nat.le_of_ble_eq_true rfl⟩) ⟨cBlind D cc E S15 _, C_recv hK hw (by omega) (cell_6 hf3) (r := (RX5, TX5, 6)) rfl, fun U hU hW => ⟨rfl, C_pre hA hK hro hw U hU hW⟩⟩ rfl rfl hl.1 rfl (lv_room (Nat.le_of_ble_eq_true rfl)) dX5_readSwap_32 ⟨Nat.le_refl _, Nat.le_refl _⟩) (fun H locs hw => ?_)
      refine W.widen (k := 0) (n := 0) (Nat.le_refl _) (Nat.le_refl _) ?_
      refine lv_istore_n (lv' := [(2, .int r32), (1, .int r3), (0, .ref a0)]) hx hb dX5_readSwap_35 rfl hl (by decide) rfl (fun ls hl => ?_)
      refine lv_iload_n hx hb dX5_readSwap_36 rfl (lv_at hl 0 rfl) ?_
      refine lv_iconst (v := -1) hx hb dX5_readSwap_37 (by decide) ?_
      refine lv_icmp_eq (tgt := 46) hx hb dX5_readSwap_38 (by decide) (fun c38 => ?_) (fun c38 => ?_)
      · have h := of_it h c38
        refine lv_iconst (v := 0) hx hb dX5_readSwap_46 (by decide) ?_
        obtain ⟨rfl, rfl⟩ := of_ret2 h
        exact C_iret hx hb hr hlocks hw (by first | rfl | decide) dX5_readSwap_47
      · have h := of_if h c38
        refine lv_iload_n hx hb dX5_readSwap_41 rfl (lv_at hl 0 rfl) ?_
        refine lv_iload_n hx hb dX5_readSwap_42 rfl (lv_at hl 1 rfl) ?_
        refine lv_icmp_ne (tgt := 48) hx hb dX5_readSwap_43 (by decide) (fun c43 => ?_) (fun c43 => ?_)
        · have h := of_if h c43
          refine lv_aload_n hx hb dX5_readSwap_48 rfl (lv_at hl 2 rfl) ?_
          obtain ⟨hf4, h⟩ := of_grd h
          obtain ⟨q49, hq49, h⟩ := of_cal h
          obtain ⟨S49, eS49⟩ : ∃ x, x = q49 := ⟨_, rfl⟩
          subst eS49
          refine C_v hA hw (va_runV (As := []) (rest := []) ⟨hx, hb, hml, hown, hts⟩ (cX5_nextToken_ok l D cc E n S32 a0 hq49) (cwV 0 hts gX5_readSwap_X5_nextToken rfl rfl rfl (by decide +kernel) ⟨Nat.le_of_ble_eq_true rfl, Nat.le_of_ble_eq_true rfl⟩) ⟨cBlind D cc E S32 _, C_recv hK hw (by omega) (cell_6 hf4) (r := (RX5, TX5, 6)) rfl, fun U hU hW => ⟨rfl, C_pre hA hK hro hw U hU hW⟩⟩ rfl rfl hl.1 rfl (lv_room (Nat.le_of_ble_eq_true rfl)) dX5_readSwap_49 ⟨Nat.le_refl _, Nat.le_refl _⟩) (fun H locs hw => ?_)
          refine W.widen (k := 0) (n := 0) (Nat.le_refl _) (Nat.le_refl _) ?_
          refine lv_aload_n hx hb dX5_readSwap_52 rfl (lv_at hl 2 rfl) ?_
          obtain ⟨hf5, h⟩ := of_grd h
          obtain ⟨b53, eb53, h⟩ := of_onn h
          refine C_get hx hb hts hinX5 hown hK hw (cell_6 hf5) (by omega) rfl 1 (by decide) (index := 18) (by decide +kernel) rfl (v := .ref b53) (congrArg (fun o => some (va_rf o)) eb53) dX5_readSwap_53 ?_
          refine lv_iload_n hx hb dX5_readSwap_56 rfl (lv_at hl 1 rfl) ?_
          refine lv_iload_n hx hb dX5_readSwap_57 rfl (lv_at hl 0 rfl) ?_
          obtain ⟨hf6, h⟩ := of_grd h
          obtain ⟨q58, hq58, h⟩ := of_cal h
          obtain ⟨S58, eS58⟩ : ∃ x, x = q58 := ⟨_, rfl⟩
          subst eS58
          refine C_v hA hw (va_runV (As := [.int r3, .int r32]) (rest := []) ⟨hx, hb, hml, hown, hts⟩ (cX6_addSwap_ok l D cc E n S49 b53 r3 r32 hq58) (cwV 2 hts gX5_readSwap_X6_addSwap rfl rfl rfl (by decide +kernel) ⟨Nat.le_of_ble_eq_true rfl, Nat.le_of_ble_eq_true rfl⟩) ⟨cBlind D cc E S49 _, C_recv hK hw (by omega) (cell_7 hf6) (r := (RX6, TX6, 5)) rfl, fun U hU hW => ⟨rfl, C_pre hA hK hro hw U hU hW⟩⟩ rfl rfl hl.1 rfl (lv_room (Nat.le_of_ble_eq_true rfl)) dX5_readSwap_58 ⟨Nat.le_refl _, Nat.le_refl _⟩) (fun H locs hw => ?_)
          refine W.widen (k := 0) (n := 0) (Nat.le_refl _) (Nat.le_refl _) ?_
          refine lv_iconst (v := 1) hx hb dX5_readSwap_61 (by decide) ?_
          obtain ⟨rfl, rfl⟩ := of_ret2 h
          exact C_iret hx hb hr hlocks hw (by first | rfl | decide) dX5_readSwap_62
        · have h := of_it h c43
          refine lv_iconst (v := 0) hx hb dX5_readSwap_46 (by decide) ?_
          obtain ⟨rfl, rfl⟩ := of_ret2 h
          exact C_iret hx hb hr hlocks hw (by first | rfl | decide) dX5_readSwap_47
    · have h := of_it h c24
      refine lv_iconst (v := 0) hx hb dX5_readSwap_27 (by decide) ?_
      obtain ⟨rfl, rfl⟩ := of_ret2 h
      exact C_iret hx hb hr hlocks hw (by first | rfl | decide) dX5_readSwap_28
  · have h := of_it h c9
    refine lv_iconst (v := 0) hx hb dX5_readSwap_12 (by decide) ?_
    obtain ⟨rfl, rfl⟩ := of_ret2 h
    exact C_iret hx hb hr hlocks hw (by first | rfl | decide) dX5_readSwap_13

def fX5_readRule (n : Nat × Nat) (S : CS) (a0 : Nat) : Option (Int32 × CS) :=
  grd (cD S a0 = 6) (cal (fX5_isToken n S a0 0) (fun q3 => if q3 = 0 then 
    cal (fX5_isToken n S a0 1) (fun q17 => if q17 = 0 then 
      cal (fX5_isToken n S a0 2) (fun q31 => if q31 = 0 then 
        some ((0 : Int32), S)
        else cal (fX5_readSwap n S a0) (un2 fun r38 S38 => if r38 = 0 then 
          some ((0 : Int32), S38)
          else some ((1 : Int32), S38)))
      else cal (fX5_readSpare n S a0) (un2 fun r24 S24 => grd (r24 = 0 ∨ r24 = 1) (some (r24, S24))))
    else cal (fX5_readNeed n S a0) (un2 fun r10 S10 => grd (r10 = 0 ∨ r10 = 1) (some (r10, S10)))))
set_option maxHeartbeats 8000000 in
set_option maxRecDepth 100000 in
theorem cX5_readRule_ok (l : Launch) (D : va_G) (cc : Nat → ClassId) (E : Nat → Nat) (n : Nat × Nat) (S : CS) (a0 : Nat) {r : Int32} {T : CS} (h : fX5_readRule n S a0 = some (r, T)) : Ci l yX5_readRule wsX5_readRule 6 130 D cc E [.ref a0] S r T 0 0 := by
  refine C_of (own := RX5) (bb := cX5_readRule) (nL := 1) (ret := (some .boolean)) (by decide) rfl rfl (Nat.le_of_ble_eq_true rfl) ?_
  intro p e s m args below meth c hx hb hr hlocks hml hts hown hnm hA hK hro hw ls hl
  generalize va_A (cPs cc S) (nx S) = A at hA hro hw ⊢
  unfold fX5_readRule at h
  have hl : lv_has ls 1 [(0, .ref a0)] := hl
  refine lv_aload_n hx hb dX5_readRule_0 rfl (lv_at hl 0 rfl) ?_
  refine va_ldcS hx hb hown (hro.2.2.2.2.2.2.2.1 0 _ rfl) dX5_readRule_1 ?_
  obtain ⟨hf1, h⟩ := of_grd h
  obtain ⟨q3, hq3, h⟩ := of_cal h
  refine C_i hA hw (va_runV (As := [.ref (E (10 + 0))]) (rest := []) ⟨hx, hb, hml, hown, hts⟩ (cX5_isToken_ok l D cc E n S a0 0 hq3) (cwV 1 hts gX5_readRule_X5_isToken rfl rfl rfl (by decide +kernel) ⟨Nat.le_of_ble_eq_true rfl, Nat.le_of_ble_eq_true rfl⟩) ⟨cBlind D cc E S _, C_recv hK hw (by omega) (cell_6 hf1) (r := (RX5, TX5, 6)) rfl, fun U hU hW => ⟨rfl, C_pre hA hK hro hw U hU hW⟩⟩ rfl rfl hl.1 rfl (lv_room (Nat.le_of_ble_eq_true rfl)) dX5_readRule_3 ⟨Nat.le_refl _, Nat.le_refl _⟩) (fun H locs hw => ?_)
  refine W.widen (k := 0) (n := 0) (Nat.le_refl _) (Nat.le_refl _) ?_
  refine lv_if_eq (tgt := 14) hx hb dX5_readRule_6 (by decide) (fun c6 => ?_) (fun c6 => ?_)
  · have h := of_it h c6
    refine lv_aload_n hx hb dX5_readRule_14 rfl (lv_at hl 0 rfl) ?_
    refine va_ldcS hx hb hown (hro.2.2.2.2.2.2.2.1 1 _ rfl) dX5_readRule_15 ?_
    obtain ⟨q17, hq17, h⟩ := of_cal h
    refine C_i hA hw (va_runV (As := [.ref (E (10 + 1))]) (rest := []) ⟨hx, hb, hml, hown, hts⟩ (cX5_isToken_ok l D cc E n S a0 1 hq17) (cwV 1 hts gX5_readRule_X5_isToken rfl rfl rfl (by decide +kernel) ⟨Nat.le_of_ble_eq_true rfl, Nat.le_of_ble_eq_true rfl⟩) ⟨cBlind D cc E S _, C_recv hK hw (by omega) (cell_6 hf1) (r := (RX5, TX5, 6)) rfl, fun U hU hW => ⟨rfl, C_pre hA hK hro hw U hU hW⟩⟩ rfl rfl hl.1 rfl (lv_room (Nat.le_of_ble_eq_true rfl)) dX5_readRule_17 ⟨Nat.le_refl _, Nat.le_refl _⟩) (fun H locs hw => ?_)
    refine W.widen (k := 0) (n := 0) (Nat.le_refl _) (Nat.le_refl _) ?_
    refine lv_if_eq (tgt := 28) hx hb dX5_readRule_20 (by decide) (fun c20 => ?_) (fun c20 => ?_)
    · have h := of_it h c20
      refine lv_aload_n hx hb dX5_readRule_28 rfl (lv_at hl 0 rfl) ?_
      refine va_ldcS hx hb hown (hro.2.2.2.2.2.2.2.1 2 _ rfl) dX5_readRule_29 ?_
      obtain ⟨q31, hq31, h⟩ := of_cal h
      refine C_i hA hw (va_runV (As := [.ref (E (10 + 2))]) (rest := []) ⟨hx, hb, hml, hown, hts⟩ (cX5_isToken_ok l D cc E n S a0 2 hq31) (cwV 1 hts gX5_readRule_X5_isToken rfl rfl rfl (by decide +kernel) ⟨Nat.le_of_ble_eq_true rfl, Nat.le_of_ble_eq_true rfl⟩) ⟨cBlind D cc E S _, C_recv hK hw (by omega) (cell_6 hf1) (r := (RX5, TX5, 6)) rfl, fun U hU hW => ⟨rfl, C_pre hA hK hro hw U hU hW⟩⟩ rfl rfl hl.1 rfl (lv_room (Nat.le_of_ble_eq_true rfl)) dX5_readRule_31 ⟨Nat.le_refl _, Nat.le_refl _⟩) (fun H locs hw => ?_)
      refine W.widen (k := 0) (n := 0) (Nat.le_refl _) (Nat.le_refl _) ?_
      refine lv_if_eq (tgt := 48) hx hb dX5_readRule_34 (by decide) (fun c34 => ?_) (fun c34 => ?_)
      · have h := of_it h c34
        refine lv_iconst (v := 0) hx hb dX5_readRule_48 (by decide) ?_
        obtain ⟨rfl, rfl⟩ := of_ret2 h
        exact C_iret hx hb hr hlocks hw (by first | rfl | decide) dX5_readRule_49
      · have h := of_if h c34
        refine lv_aload_n hx hb dX5_readRule_37 rfl (lv_at hl 0 rfl) ?_
        obtain ⟨q38, hq38, h⟩ := of_cal h
        obtain ⟨r38, S38⟩ := q38
        have h := of_un2 h
        refine C_i hA hw (va_runV (As := []) (rest := []) ⟨hx, hb, hml, hown, hts⟩ (cX5_readSwap_ok l D cc E n S a0 hq38) (cwV 0 hts gX5_readRule_X5_readSwap rfl rfl rfl (by decide +kernel) ⟨Nat.le_of_ble_eq_true rfl, Nat.le_of_ble_eq_true rfl⟩) ⟨cBlind D cc E S _, C_recv hK hw (by omega) (cell_6 hf1) (r := (RX5, TX5, 6)) rfl, fun U hU hW => ⟨rfl, C_pre hA hK hro hw U hU hW⟩⟩ rfl rfl hl.1 rfl (lv_room (Nat.le_of_ble_eq_true rfl)) dX5_readRule_38 ⟨Nat.le_refl _, Nat.le_refl _⟩) (fun H locs hw => ?_)
        refine W.widen (k := 0) (n := 0) (Nat.le_refl _) (Nat.le_refl _) ?_
        refine lv_if_eq (tgt := 48) hx hb dX5_readRule_41 (by decide) (fun c41 => ?_) (fun c41 => ?_)
        · have h := of_it h c41
          refine lv_iconst (v := 0) hx hb dX5_readRule_48 (by decide) ?_
          obtain ⟨rfl, rfl⟩ := of_ret2 h
          exact C_iret hx hb hr hlocks hw (by first | rfl | decide) dX5_readRule_49
        · have h := of_if h c41
          refine lv_iconst (v := 1) hx hb dX5_readRule_44 (by decide) ?_
          refine lv_goto (tgt := 49) hx hb dX5_readRule_45 (by decide) ?_
          obtain ⟨rfl, rfl⟩ := of_ret2 h
          exact C_iret hx hb hr hlocks hw (by first | rfl | decide) dX5_readRule_49
    · have h := of_if h c20
      refine lv_aload_n hx hb dX5_readRule_23 rfl (lv_at hl 0 rfl) ?_
      obtain ⟨q24, hq24, h⟩ := of_cal h
      obtain ⟨r24, S24⟩ := q24
      have h := of_un2 h
      refine C_i hA hw (va_runV (As := []) (rest := []) ⟨hx, hb, hml, hown, hts⟩ (cX5_readSpare_ok l D cc E n S a0 hq24) (cwV 0 hts gX5_readRule_X5_readSpare rfl rfl rfl (by decide +kernel) ⟨Nat.le_of_ble_eq_true rfl, Nat.le_of_ble_eq_true rfl⟩) ⟨cBlind D cc E S _, C_recv hK hw (by omega) (cell_6 hf1) (r := (RX5, TX5, 6)) rfl, fun U hU hW => ⟨rfl, C_pre hA hK hro hw U hU hW⟩⟩ rfl rfl hl.1 rfl (lv_room (Nat.le_of_ble_eq_true rfl)) dX5_readRule_24 ⟨Nat.le_refl _, Nat.le_refl _⟩) (fun H locs hw => ?_)
      refine W.widen (k := 0) (n := 0) (Nat.le_refl _) (Nat.le_refl _) ?_
      obtain ⟨hz9, h⟩ := of_grd h
      obtain ⟨rfl, rfl⟩ := of_ret2 h
      exact C_iret hx hb hr hlocks hw (by rcases hz9 with hz9 | hz9 <;> rw [hz9] <;> rfl) dX5_readRule_27
  · have h := of_if h c6
    refine lv_aload_n hx hb dX5_readRule_9 rfl (lv_at hl 0 rfl) ?_
    obtain ⟨q10, hq10, h⟩ := of_cal h
    obtain ⟨r10, S10⟩ := q10
    have h := of_un2 h
    refine C_i hA hw (va_runV (As := []) (rest := []) ⟨hx, hb, hml, hown, hts⟩ (cX5_readNeed_ok l D cc E n S a0 hq10) (cwV 0 hts gX5_readRule_X5_readNeed rfl rfl rfl (by decide +kernel) ⟨Nat.le_of_ble_eq_true rfl, Nat.le_of_ble_eq_true rfl⟩) ⟨cBlind D cc E S _, C_recv hK hw (by omega) (cell_6 hf1) (r := (RX5, TX5, 6)) rfl, fun U hU hW => ⟨rfl, C_pre hA hK hro hw U hU hW⟩⟩ rfl rfl hl.1 rfl (lv_room (Nat.le_of_ble_eq_true rfl)) dX5_readRule_10 ⟨Nat.le_refl _, Nat.le_refl _⟩) (fun H locs hw => ?_)
    refine W.widen (k := 0) (n := 0) (Nat.le_refl _) (Nat.le_refl _) ?_
    obtain ⟨hz9, h⟩ := of_grd h
    obtain ⟨rfl, rfl⟩ := of_ret2 h
    exact C_iret hx hb hr hlocks hw (by rcases hz9 with hz9 | hz9 <;> rw [hz9] <;> rfl) dX5_readRule_13

def fX5_readText_lp28 (n : Nat × Nat) (f0 : Nat) : Nat → Int32 → CS → Option (Nat × CS)
  | 0, _, _ => none
  | k + 1, l1, S =>
    if (30 : Int32) ≤ l1 then 
          some (3, S)
          else grd (cD S f0 = 6) (cal (fX5_readRule n S f0) (un2 fun r35 S35 => if r35 = 0 then 
            some (0, S35)
            else grd (cD S35 f0 = 6) (cal (fX5_isBehindText n S35 f0) (fun q44 => if q44 = 0 then 
              cal (fX5_isToken n S35 f0 5) (fun q55 => if q55 = 0 then 
                some (2, S35)
                else cal (fX5_nextToken n S35 f0) (fun S64 => bnd (l1 + 1) (fun x67 => fX5_readText_lp28 n f0 k x67 S64)))
              else some (1, S35)))))
def fX5_readText (n : Nat × Nat) (S : CS) (a0 : Nat) : Option (Int32 × CS) :=
  grd (cD S a0 = 6) (onn (cR S 121 a0) (fun b1 => grd (cD S b1 = 7) (bnd (uI S 144 b1 (0 : Int32)) (fun S5 => bnd (uI S5 123 a0 (0 : Int32)) (fun S10 => cal (fX5_nextToken n S10 a0) (fun S14 => grd (cD S14 a0 = 6) (cal (fX5_isBehindText n S14 a0) (fun q18 => if q18 = 0 then 
    bnd (0 : Int32) (fun x27 => cal (fX5_readText_lp28 n a0 n.1 x27 S14) (un2 fun e28 S28 => if e28 = 0 then some ((0 : Int32), S28) else if e28 = 1 then some ((1 : Int32), S28) else if e28 = 2 then some ((0 : Int32), S28) else some ((0 : Int32), S28)))
    else some ((1 : Int32), S14)))))))))
set_option maxHeartbeats 8000000 in
set_option maxRecDepth 100000 in
theorem cX5_readText_ok (l : Launch) (D : va_G) (cc : Nat → ClassId) (E : Nat → Nat) (n : Nat × Nat) (S : CS) (a0 : Nat) {r : Int32} {T : CS} (h : fX5_readText n S a0 = some (r, T)) : Ci l yX5_readText wsX5_readText 7 150 D cc E [.ref a0] S r T 0 0 := by
  refine C_of (own := RX5) (bb := cX5_readText) (nL := 2) (ret := (some .boolean)) (by decide) rfl rfl (Nat.le_of_ble_eq_true rfl) ?_
  intro p e s m args below meth c hx hb hr hlocks hml hts hown hnm hA hK hro hw ls hl
  generalize va_A (cPs cc S) (nx S) = A at hA hro hw ⊢
  unfold fX5_readText at h
  have hinX5 : ∀ w ∈ wsX50, w ∈ wsX5_readText := by decide +kernel
  have hinX6 : ∀ w ∈ wsX60, w ∈ wsX5_readText := by decide +kernel
  have hl : lv_has ls 2 [(0, .ref a0)] := hl
  refine lv_aload_n hx hb dX5_readText_0 rfl (lv_at hl 0 rfl) ?_
  obtain ⟨hf1, h⟩ := of_grd h
  obtain ⟨b1, eb1, h⟩ := of_onn h
  refine C_get hx hb hts hinX5 hown hK hw (cell_6 hf1) (by omega) rfl 1 (by decide) (index := 18) (by decide +kernel) rfl (v := .ref b1) (congrArg (fun o => some (va_rf o)) eb1) dX5_readText_1 ?_
  refine lv_iconst (v := 0) hx hb dX5_readText_4 (by decide) ?_
  obtain ⟨hf2, h⟩ := of_grd h
  refine C_put hx hb hts hinX6 tyX6 tyX6_ok nmX6 hown hK hw (cell_7 hf2) (by omega) rfl 4 (by decide) (index := 35) (by decide +kernel) rfl rfl (ty := .int) (by decide +kernel) rfl rfl (Nat.le_of_ble_eq_true rfl) (S' := uI S 144 b1 (0 : Int32)) rfl rfl rfl (pu_144 hf2 (0 : Int32)) (fun b hb => off_uI hb) dX5_readText_5 (fun S5 H locs eS5 hw => ?_)
  have h := of_bnd h eS5
  refine lv_aload_n hx hb dX5_readText_8 rfl (lv_at hl 0 rfl) ?_
  refine lv_iconst (v := 0) hx hb dX5_readText_9 (by decide) ?_
  have hf3 : cD S5 a0 = 6 := by rw [eS5]; exact hf1
  refine C_put hx hb hts hinX5 tyX5 tyX5_ok nmX5 hown hK hw (cell_6 hf3) (by omega) rfl 3 (by decide) (index := 26) (by decide +kernel) rfl rfl (ty := .int) (by decide +kernel) rfl rfl (Nat.le_of_ble_eq_true rfl) (S' := uI S5 123 a0 (0 : Int32)) rfl rfl rfl (pu_123 hf3 (0 : Int32)) (fun b hb => off_uI hb) dX5_readText_10 (fun S10 H locs eS10 hw => ?_)
  have h := of_bnd h eS10
  refine lv_aload_n hx hb dX5_readText_13 rfl (lv_at hl 0 rfl) ?_
  have hf4 : cD S10 a0 = 6 := by rw [eS10]; exact hf3
  obtain ⟨q14, hq14, h⟩ := of_cal h
  obtain ⟨S14, eS14⟩ : ∃ x, x = q14 := ⟨_, rfl⟩
  subst eS14
  refine C_v hA hw (va_runV (As := []) (rest := []) ⟨hx, hb, hml, hown, hts⟩ (cX5_nextToken_ok l D cc E n S10 a0 hq14) (cwV 0 hts gX5_readText_X5_nextToken rfl rfl rfl (by decide +kernel) ⟨Nat.le_of_ble_eq_true rfl, Nat.le_of_ble_eq_true rfl⟩) ⟨cBlind D cc E S10 _, C_recv hK hw (by omega) (cell_6 hf4) (r := (RX5, TX5, 6)) rfl, fun U hU hW => ⟨rfl, C_pre hA hK hro hw U hU hW⟩⟩ rfl rfl hl.1 rfl (lv_room (Nat.le_of_ble_eq_true rfl)) dX5_readText_14 ⟨Nat.le_refl _, Nat.le_refl _⟩) (fun H locs hw => ?_)
  refine W.widen (k := 0) (n := 0) (Nat.le_refl _) (Nat.le_refl _) ?_
  refine lv_aload_n hx hb dX5_readText_17 rfl (lv_at hl 0 rfl) ?_
  obtain ⟨hf5, h⟩ := of_grd h
  obtain ⟨q18, hq18, h⟩ := of_cal h
  refine C_i hA hw (va_runV (As := []) (rest := []) ⟨hx, hb, hml, hown, hts⟩ (cX5_isBehindText_ok l D cc E n S14 a0 hq18) (cwV 0 hts gX5_readText_X5_isBehindText rfl rfl rfl (by decide +kernel) ⟨Nat.le_of_ble_eq_true rfl, Nat.le_of_ble_eq_true rfl⟩) ⟨cBlind D cc E S14 _, C_recv hK hw (by omega) (cell_6 hf5) (r := (RX5, TX5, 6)) rfl, fun U hU hW => ⟨rfl, C_pre hA hK hro hw U hU hW⟩⟩ rfl rfl hl.1 rfl (lv_room (Nat.le_of_ble_eq_true rfl)) dX5_readText_18 ⟨Nat.le_refl _, Nat.le_refl _⟩) (fun H locs hw => ?_)
  refine W.widen (k := 0) (n := 0) (Nat.le_refl _) (Nat.le_refl _) ?_
  refine lv_if_eq (tgt := 26) hx hb dX5_readText_21 (by decide) (fun c21 => ?_) (fun c21 => ?_)
  · have h := of_it h c21
    refine lv_iconst (v := 0) hx hb dX5_readText_26 (by decide) ?_
    refine lv_topi (fun x27 ex27 => ?_)
    have h := of_bnd h ex27
    refine lv_istore_n (lv' := [(1, .int x27), (0, .ref a0)]) hx hb dX5_readText_27 rfl hl (by decide) rfl (fun ls hl => ?_)
    have lp28 : ∀ (f0 : Nat) (k : Nat) (l1 : Int32) (S : CS) (q : Nat × CS) , fX5_readText_lp28 n f0 k l1 S = some q → ∀ (H : Heap) (locs : List Loc), cWd D cc A s.heap S H locs → ∀ ls : Array Slot, lv_has ls 2 [(0, .ref f0), (1, .int l1)] → (∀  (S1 : CS), (0, S1) = q → ∀ (H : Heap) (locs : List Loc), cWd D cc A s.heap S1 H locs → ∀ ls : Array Slot, lv_has ls 2 [] → W p l e (cRm 7 150 0 0) s m args below meth c H locs (0) (0) (MQ below (va_Qi (fun x u => x = r ∧ u = T) (cAft D cc A) A) args s 0 0 A) (F0 m 41 ls [])) → (∀  (S1 : CS), (1, S1) = q → ∀ (H : Heap) (locs : List Loc), cWd D cc A s.heap S1 H locs → ∀ ls : Array Slot, lv_has ls 2 [] → W p l e (cRm 7 150 0 0) s m args below meth c H locs (0) (0) (MQ below (va_Qi (fun x u => x = r ∧ u = T) (cAft D cc A) A) args s 0 0 A) (F0 m 50 ls [])) → (∀  (S1 : CS), (2, S1) = q → ∀ (H : Heap) (locs : List Loc), cWd D cc A s.heap S1 H locs → ∀ ls : Array Slot, lv_has ls 2 [] → W p l e (cRm 7 150 0 0) s m args below meth c H locs (0) (0) (MQ below (va_Qi (fun x u => x = r ∧ u = T) (cAft D cc A) A) args s 0 0 A) (F0 m 61 ls [])) → (∀  (S1 : CS), (3, S1) = q → ∀ (H : Heap) (locs : List Loc), cWd D cc A s.heap S1 H locs → ∀ ls : Array Slot, lv_has ls 2 [] → W p l e (cRm 7 150 0 0) s m args below meth c H locs (0) (0) (MQ below (va_Qi (fun x u => x = r ∧ u = T) (cAft D cc A) A) args s 0 0 A) (F0 m 73 ls [])) → W p l e (cRm 7 150 0 0) s m args below meth c H locs (0) (0) (MQ below (va_Qi (fun x u => x = r ∧ u = T) (cAft D cc A) A) args s 0 0 A) (F0 m 28 ls []) := by
      intro f0 k
      induction k with
      | zero => intro l1 S q h; rw [fX5_readText_lp28] at h; cases h
      | succ k ih28 =>
        intro l1 S q h H locs hw ls hl kx28_0 kx28_1 kx28_2 kx28_3
        rw [fX5_readText_lp28] at h
        refine lv_iload_n hx hb dX5_readText_28 rfl (lv_at hl 1 rfl) ?_
        refine lv_bipush (v := 30) hx hb dX5_readText_29 (by decide) ?_
        refine lv_icmp_ge (tgt := 73) hx hb dX5_readText_31 (by decide) (fun c31 => ?_) (fun c31 => ?_)
        · have h := of_it h c31
          exact kx28_3 S (Option.some.inj h) _ _ hw ls (lv_sub hl [] rfl)
        · have h := of_if h c31
          refine lv_aload_n hx hb dX5_readText_34 rfl (lv_at hl 0 rfl) ?_
          obtain ⟨hf6, h⟩ := of_grd h
          obtain ⟨q35, hq35, h⟩ := of_cal h
          obtain ⟨r35, S35⟩ := q35
          have h := of_un2 h
          refine C_i hA hw (va_runV (As := []) (rest := []) ⟨hx, hb, hml, hown, hts⟩ (cX5_readRule_ok l D cc E n S f0 hq35) (cwV 0 hts gX5_readText_X5_readRule rfl rfl rfl (by decide +kernel) ⟨Nat.le_of_ble_eq_true rfl, Nat.le_of_ble_eq_true rfl⟩) ⟨cBlind D cc E S _, C_recv hK hw (by omega) (cell_6 hf6) (r := (RX5, TX5, 6)) rfl, fun U hU hW => ⟨rfl, C_pre hA hK hro hw U hU hW⟩⟩ rfl rfl hl.1 rfl (lv_room (Nat.le_of_ble_eq_true rfl)) dX5_readText_35 ⟨Nat.le_refl _, Nat.le_refl _⟩) (fun H locs hw => ?_)
          refine W.widen (k := 0) (n := 0) (Nat.le_refl _) (Nat.le_refl _) ?_
          refine lv_if_ne (tgt := 43) hx hb dX5_readText_38 (by decide) (fun c38 => ?_) (fun c38 => ?_)
          · have h := of_if h c38
            refine lv_aload_n hx hb dX5_readText_43 rfl (lv_at hl 0 rfl) ?_
            obtain ⟨hf7, h⟩ := of_grd h
            obtain ⟨q44, hq44, h⟩ := of_cal h
            refine C_i hA hw (va_runV (As := []) (rest := []) ⟨hx, hb, hml, hown, hts⟩ (cX5_isBehindText_ok l D cc E n S35 f0 hq44) (cwV 0 hts gX5_readText_X5_isBehindText rfl rfl rfl (by decide +kernel) ⟨Nat.le_of_ble_eq_true rfl, Nat.le_of_ble_eq_true rfl⟩) ⟨cBlind D cc E S35 _, C_recv hK hw (by omega) (cell_6 hf7) (r := (RX5, TX5, 6)) rfl, fun U hU hW => ⟨rfl, C_pre hA hK hro hw U hU hW⟩⟩ rfl rfl hl.1 rfl (lv_room (Nat.le_of_ble_eq_true rfl)) dX5_readText_44 ⟨Nat.le_refl _, Nat.le_refl _⟩) (fun H locs hw => ?_)
            refine W.widen (k := 0) (n := 0) (Nat.le_refl _) (Nat.le_refl _) ?_
            refine lv_if_eq (tgt := 52) hx hb dX5_readText_47 (by decide) (fun c47 => ?_) (fun c47 => ?_)
            · have h := of_it h c47
              refine lv_aload_n hx hb dX5_readText_52 rfl (lv_at hl 0 rfl) ?_
              refine va_ldcS hx hb hown (hro.2.2.2.2.2.2.2.1 5 _ rfl) dX5_readText_53 ?_
              obtain ⟨q55, hq55, h⟩ := of_cal h
              refine C_i hA hw (va_runV (As := [.ref (E (10 + 5))]) (rest := []) ⟨hx, hb, hml, hown, hts⟩ (cX5_isToken_ok l D cc E n S35 f0 5 hq55) (cwV 1 hts gX5_readText_X5_isToken rfl rfl rfl (by decide +kernel) ⟨Nat.le_of_ble_eq_true rfl, Nat.le_of_ble_eq_true rfl⟩) ⟨cBlind D cc E S35 _, C_recv hK hw (by omega) (cell_6 hf7) (r := (RX5, TX5, 6)) rfl, fun U hU hW => ⟨rfl, C_pre hA hK hro hw U hU hW⟩⟩ rfl rfl hl.1 rfl (lv_room (Nat.le_of_ble_eq_true rfl)) dX5_readText_55 ⟨Nat.le_refl _, Nat.le_refl _⟩) (fun H locs hw => ?_)
              refine W.widen (k := 0) (n := 0) (Nat.le_refl _) (Nat.le_refl _) ?_
              refine lv_if_ne (tgt := 63) hx hb dX5_readText_58 (by decide) (fun c58 => ?_) (fun c58 => ?_)
              · have h := of_if h c58
                refine lv_aload_n hx hb dX5_readText_63 rfl (lv_at hl 0 rfl) ?_
                obtain ⟨q64, hq64, h⟩ := of_cal h
                obtain ⟨S64, eS64⟩ : ∃ x, x = q64 := ⟨_, rfl⟩
                subst eS64
                refine C_v hA hw (va_runV (As := []) (rest := []) ⟨hx, hb, hml, hown, hts⟩ (cX5_nextToken_ok l D cc E n S35 f0 hq64) (cwV 0 hts gX5_readText_X5_nextToken rfl rfl rfl (by decide +kernel) ⟨Nat.le_of_ble_eq_true rfl, Nat.le_of_ble_eq_true rfl⟩) ⟨cBlind D cc E S35 _, C_recv hK hw (by omega) (cell_6 hf7) (r := (RX5, TX5, 6)) rfl, fun U hU hW => ⟨rfl, C_pre hA hK hro hw U hU hW⟩⟩ rfl rfl hl.1 rfl (lv_room (Nat.le_of_ble_eq_true rfl)) dX5_readText_64 ⟨Nat.le_refl _, Nat.le_refl _⟩) (fun H locs hw => ?_)
                refine W.widen (k := 0) (n := 0) (Nat.le_refl _) (Nat.le_refl _) ?_
                obtain ⟨x67, ex67⟩ : ∃ y : Int32, y = l1 + 1 := ⟨_, rfl⟩
                have h := of_bnd h ex67
                refine lv_iinc (v := x67) (lv' := [(1, .int x67), (0, .ref f0)]) hx hb dX5_readText_67 hl (k := 1) rfl (by rw [ex67]; rfl) (by decide) rfl (fun ls hl => ?_)
                refine lv_goto (tgt := 28) hx hb dX5_readText_70 (by decide) ?_
                exact ih28 x67 S64 _ h _ _ hw ls (lv_sub hl [1, 0] rfl) kx28_0 kx28_1 kx28_2 kx28_3
              · have h := of_it h c58
                exact kx28_2 S35 (Option.some.inj h) _ _ hw ls (lv_sub hl [] rfl)
            · have h := of_if h c47
              exact kx28_1 S35 (Option.some.inj h) _ _ hw ls (lv_sub hl [] rfl)
          · have h := of_it h c38
            exact kx28_0 S35 (Option.some.inj h) _ _ hw ls (lv_sub hl [] rfl)
    obtain ⟨q28, hq28, h⟩ := of_cal h
    refine lp28 a0 n.1 x27 S14 q28  hq28 _ _ hw ls (lv_sub hl [1, 0] rfl) ?_ ?_ ?_ ?_
    · intro S28 eq H locs hw ls hl
      subst eq
      have h := of_un2 h
      have h := of_it h rfl
      refine lv_iconst (v := 0) hx hb dX5_readText_41 (by decide) ?_
      obtain ⟨rfl, rfl⟩ := of_ret2 h
      exact C_iret hx hb hr hlocks hw (by first | rfl | decide) dX5_readText_42
    · intro S28 eq H locs hw ls hl
      subst eq
      have h := of_un2 h
      have h := of_if h (by decide)
      have h := of_it h rfl
      refine lv_iconst (v := 1) hx hb dX5_readText_50 (by decide) ?_
      obtain ⟨rfl, rfl⟩ := of_ret2 h
      exact C_iret hx hb hr hlocks hw (by first | rfl | decide) dX5_readText_51
    · intro S28 eq H locs hw ls hl
      subst eq
      have h := of_un2 h
      have h := of_if h (by decide)
      have h := of_if h (by decide)
      have h := of_it h rfl
      refine lv_iconst (v := 0) hx hb dX5_readText_61 (by decide) ?_
      obtain ⟨rfl, rfl⟩ := of_ret2 h
      exact C_iret hx hb hr hlocks hw (by first | rfl | decide) dX5_readText_62
    · intro S28 eq H locs hw ls hl
      subst eq
      have h := of_un2 h
      have h := of_if h (by decide)
      have h := of_if h (by decide)
      have h := of_if h (by decide)
      refine lv_iconst (v := 0) hx hb dX5_readText_73 (by decide) ?_
      obtain ⟨rfl, rfl⟩ := of_ret2 h
      exact C_iret hx hb hr hlocks hw (by first | rfl | decide) dX5_readText_74
  · have h := of_if h c21
    refine lv_iconst (v := 1) hx hb dX5_readText_24 (by decide) ?_
    obtain ⟨rfl, rfl⟩ := of_ret2 h
    exact C_iret hx hb hr hlocks hw (by first | rfl | decide) dX5_readText_25

def fX11_rules (n : Nat × Nat) (S : CS) (a0 : Nat) : Option (Int32 × CS) :=
  grd (cD S a0 = 12) (onn (cR S 245 a0) (fun b1 => grd (cD S b1 = 6) (cal (fX5_readText n S b1) (un2 fun r4 S4 => grd (cD S4 a0 = 12) (onn (cR S4 245 a0) (fun b9 => grd (cD S4 b9 = 6) (cal (fX5_emptyTape n S4 b9 r4) (fun S13 => if r4 = 0 then 
    grd (cD S13 a0 = 12) (cal (fX11_refuse n S13 a0 (-6 : Int32)) (un2 fun r23 S23 => some (r23, S23)))
    else grd (cD S13 a0 = 12) (onn (cR S13 245 a0) (fun b29 => onn (cR S13 247 a0) (fun b33 => grd (cD S13 b29 = 6) (cal (fX5_exchangeDraft n S13 b29 b33) (un2 fun r36 S36 => grd (cD S36 a0 = 12) (bnd (uR S36 247 a0 r36) (fun S39 => onn (cR S39 247 a0) (fun b44 => grd (cD S39 b44 = 7) (bnd (cI S39 144 b44) (fun v47 => cal (fX11_accept n S39 a0 v47) (un2 fun r50 S50 => some (r50, S50))))))))))))))))))))
set_option maxHeartbeats 8000000 in
set_option maxRecDepth 100000 in
theorem cX11_rules_ok (l : Launch) (D : va_G) (cc : Nat → ClassId) (E : Nat → Nat) (n : Nat × Nat) (S : CS) (a0 : Nat) {r : Int32} {T : CS} (h : fX11_rules n S a0 = some (r, T)) : Ci l yX11_rules wsX11_rules 8 171 D cc E [.ref a0] S r T 0 0 := by
  refine C_of (own := RX11) (bb := cX11_rules) (nL := 2) (ret := (some .int)) (by decide) rfl rfl (Nat.le_of_ble_eq_true rfl) ?_
  intro p e s m args below meth c hx hb hr hlocks hml hts hown hnm hA hK hro hw ls hl
  generalize va_A (cPs cc S) (nx S) = A at hA hro hw ⊢
  unfold fX11_rules at h
  have hinX11 : ∀ w ∈ wsX110, w ∈ wsX11_rules := by decide +kernel
  have hinX6 : ∀ w ∈ wsX60, w ∈ wsX11_rules := by decide +kernel
  have hl : lv_has ls 2 [(0, .ref a0)] := hl
  refine lv_aload_n hx hb dX11_rules_0 rfl (lv_at hl 0 rfl) ?_
  obtain ⟨hf1, h⟩ := of_grd h
  obtain ⟨b1, eb1, h⟩ := of_onn h
  refine C_get hx hb hts hinX11 hown hK hw (cell_12 hf1) (by omega) rfl 5 (by decide) (index := 36) (by decide +kernel) rfl (v := .ref b1) (congrArg (fun o => some (va_rf o)) eb1) dX11_rules_1 ?_
  obtain ⟨hf2, h⟩ := of_grd h
  obtain ⟨q4, hq4, h⟩ := of_cal h
  obtain ⟨r4, S4⟩ := q4
  have h := of_un2 h
  refine C_i hA hw (va_runV (As := []) (rest := []) ⟨hx, hb, hml, hown, hts⟩ (cX5_readText_ok l D cc E n S b1 hq4) (cwV 0 hts gX11_rules_X5_readText rfl rfl rfl (by decide +kernel) ⟨Nat.le_of_ble_eq_true rfl, Nat.le_of_ble_eq_true rfl⟩) ⟨cBlind D cc E S _, C_recv hK hw (by omega) (cell_6 hf2) (r := (RX5, TX5, 6)) rfl, fun U hU hW => ⟨rfl, C_pre hA hK hro hw U hU hW⟩⟩ rfl rfl hl.1 rfl (lv_room (Nat.le_of_ble_eq_true rfl)) dX11_rules_4 ⟨Nat.le_refl _, Nat.le_refl _⟩) (fun H locs hw => ?_)
  refine W.widen (k := 0) (n := 0) (Nat.le_refl _) (Nat.le_refl _) ?_
  refine lv_istore_n (lv' := [(1, .int r4), (0, .ref a0)]) hx hb dX11_rules_7 rfl hl (by decide) rfl (fun ls hl => ?_)
  refine lv_aload_n hx hb dX11_rules_8 rfl (lv_at hl 1 rfl) ?_
  obtain ⟨hf3, h⟩ := of_grd h
  obtain ⟨b9, eb9, h⟩ := of_onn h
  refine C_get hx hb hts hinX11 hown hK hw (cell_12 hf3) (by omega) rfl 5 (by decide) (index := 36) (by decide +kernel) rfl (v := .ref b9) (congrArg (fun o => some (va_rf o)) eb9) dX11_rules_9 ?_
  refine lv_iload_n hx hb dX11_rules_12 rfl (lv_at hl 0 rfl) ?_
  obtain ⟨hf4, h⟩ := of_grd h
  obtain ⟨q13, hq13, h⟩ := of_cal h
  obtain ⟨S13, eS13⟩ : ∃ x, x = q13 := ⟨_, rfl⟩
  subst eS13
  refine C_v hA hw (va_runV (As := [.int r4]) (rest := []) ⟨hx, hb, hml, hown, hts⟩ (cX5_emptyTape_ok l D cc E n S4 b9 r4 hq13) (cwV 1 hts gX11_rules_X5_emptyTape rfl rfl rfl (by decide +kernel) ⟨Nat.le_of_ble_eq_true rfl, Nat.le_of_ble_eq_true rfl⟩) ⟨cBlind D cc E S4 _, C_recv hK hw (by omega) (cell_6 hf4) (r := (RX5, TX5, 6)) rfl, fun U hU hW => ⟨rfl, C_pre hA hK hro hw U hU hW⟩⟩ rfl rfl hl.1 rfl (lv_room (Nat.le_of_ble_eq_true rfl)) dX11_rules_13 ⟨Nat.le_refl _, Nat.le_refl _⟩) (fun H locs hw => ?_)
  refine W.widen (k := 0) (n := 0) (Nat.le_refl _) (Nat.le_refl _) ?_
  refine lv_iload_n hx hb dX11_rules_16 rfl (lv_at hl 0 rfl) ?_
  refine lv_if_ne (tgt := 27) hx hb dX11_rules_17 (by decide) (fun c17 => ?_) (fun c17 => ?_)
  · have h := of_if h c17
    refine lv_aload_n hx hb dX11_rules_27 rfl (lv_at hl 1 rfl) ?_
    refine lv_aload_n hx hb dX11_rules_28 rfl (lv_at hl 1 rfl) ?_
    obtain ⟨hf5, h⟩ := of_grd h
    obtain ⟨b29, eb29, h⟩ := of_onn h
    refine C_get hx hb hts hinX11 hown hK hw (cell_12 hf5) (by omega) rfl 5 (by decide) (index := 36) (by decide +kernel) rfl (v := .ref b29) (congrArg (fun o => some (va_rf o)) eb29) dX11_rules_29 ?_
    refine lv_aload_n hx hb dX11_rules_32 rfl (lv_at hl 1 rfl) ?_
    obtain ⟨b33, eb33, h⟩ := of_onn h
    refine C_get hx hb hts hinX11 hown hK hw (cell_12 hf5) (by omega) rfl 7 (by decide) (index := 50) (by decide +kernel) rfl (v := .ref b33) (congrArg (fun o => some (va_rf o)) eb33) dX11_rules_33 ?_
    obtain ⟨hf6, h⟩ := of_grd h
    obtain ⟨q36, hq36, h⟩ := of_cal h
    obtain ⟨r36, S36⟩ := q36
    have h := of_un2 h
    refine C_q hA hw (va_runV (As := [.ref b33]) (rest := [.ref a0]) ⟨hx, hb, hml, hown, hts⟩ (cX5_exchangeDraft_ok l D cc E n S13 b29 b33 hq36) (cwV 1 hts gX11_rules_X5_exchangeDraft rfl rfl rfl (by decide +kernel) ⟨Nat.le_of_ble_eq_true rfl, Nat.le_of_ble_eq_true rfl⟩) ⟨cBlind D cc E S13 _, C_recv hK hw (by omega) (cell_6 hf6) (r := (RX5, TX5, 6)) rfl, fun U hU hW => ⟨rfl, C_pre hA hK hro hw U hU hW⟩⟩ rfl rfl hl.1 rfl (lv_room (Nat.le_of_ble_eq_true rfl)) dX11_rules_36 ⟨Nat.le_refl _, Nat.le_refl _⟩) (fun H locs hw => ?_)
    refine W.widen (k := 0) (n := 0) (Nat.le_refl _) (Nat.le_refl _) ?_
    obtain ⟨hf7, h⟩ := of_grd h
    refine C_put hx hb hts hinX11 tyX11 tyX11_ok nmX11 hown hK hw (cell_12 hf7) (by omega) rfl 7 (by decide) (index := 50) (by decide +kernel) rfl rfl (ty := (.object "FoodShares$RuleSet")) (by decide +kernel) (nar_rf _ _) (fit_rf _ _) (Nat.le_of_ble_eq_true rfl) (S' := uR S36 247 a0 r36) rfl rfl rfl (pu_247 hf7 r36) (fun b hb => off_uR hb) dX11_rules_39 (fun S39 H locs eS39 hw => ?_)
    have h := of_bnd h eS39
    refine lv_aload_n hx hb dX11_rules_42 rfl (lv_at hl 1 rfl) ?_
    refine lv_aload_n hx hb dX11_rules_43 rfl (lv_at hl 1 rfl) ?_
    have hf8 : cD S39 a0 = 12 := by rw [eS39]; exact hf7
    obtain ⟨b44, eb44, h⟩ := of_onn h
    refine C_get hx hb hts hinX11 hown hK hw (cell_12 hf8) (by omega) rfl 7 (by decide) (index := 50) (by decide +kernel) rfl (v := .ref b44) (congrArg (fun o => some (va_rf o)) eb44) dX11_rules_44 ?_
    obtain ⟨hf9, h⟩ := of_grd h
    refine C_get hx hb hts hinX6 hown hK hw (cell_7 hf9) (by omega) rfl 4 (by decide) (index := 236) (by decide +kernel) rfl rfl dX11_rules_47 ?_
    refine lv_topi (fun v47 ev47 => ?_)
    have h := of_bnd h ev47
    obtain ⟨q50, hq50, h⟩ := of_cal h
    obtain ⟨r50, S50⟩ := q50
    have h := of_un2 h
    refine C_i hA hw (va_runV (As := [.int v47]) (rest := []) ⟨hx, hb, hml, hown, hts⟩ (cX11_accept_ok l D cc E n S39 a0 v47 hq50) (cwV 1 hts gX11_rules_X11_accept rfl rfl rfl (by decide +kernel) ⟨Nat.le_of_ble_eq_true rfl, Nat.le_of_ble_eq_true rfl⟩) ⟨cBlind D cc E S39 _, C_recv hK hw (by omega) (cell_12 hf8) (r := (RX11, TX11, 12)) rfl, fun U hU hW => ⟨rfl, C_pre hA hK hro hw U hU hW⟩⟩ rfl rfl hl.1 rfl (lv_room (Nat.le_of_ble_eq_true rfl)) dX11_rules_50 ⟨Nat.le_refl _, Nat.le_refl _⟩) (fun H locs hw => ?_)
    refine W.widen (k := 0) (n := 0) (Nat.le_refl _) (Nat.le_refl _) ?_
    obtain ⟨rfl, rfl⟩ := of_ret2 h
    exact C_iret hx hb hr hlocks hw (by rfl) dX11_rules_53
  · have h := of_it h c17
    refine lv_aload_n hx hb dX11_rules_20 rfl (lv_at hl 1 rfl) ?_
    refine lv_bipush (v := -6) hx hb dX11_rules_21 (by decide) ?_
    obtain ⟨hf10, h⟩ := of_grd h
    obtain ⟨q23, hq23, h⟩ := of_cal h
    obtain ⟨r23, S23⟩ := q23
    have h := of_un2 h
    refine C_i hA hw (va_runV (As := [.int (-6 : Int32)]) (rest := []) ⟨hx, hb, hml, hown, hts⟩ (cX11_refuse_ok l D cc E n S13 a0 (-6 : Int32) hq23) (cwV 1 hts gX11_rules_X11_refuse rfl rfl rfl (by decide +kernel) ⟨Nat.le_of_ble_eq_true rfl, Nat.le_of_ble_eq_true rfl⟩) ⟨cBlind D cc E S13 _, C_recv hK hw (by omega) (cell_12 hf10) (r := (RX11, TX11, 12)) rfl, fun U hU hW => ⟨rfl, C_pre hA hK hro hw U hU hW⟩⟩ rfl rfl hl.1 rfl (lv_room (Nat.le_of_ble_eq_true rfl)) dX11_rules_23 ⟨Nat.le_refl _, Nat.le_refl _⟩) (fun H locs hw => ?_)
    refine W.widen (k := 0) (n := 0) (Nat.le_refl _) (Nat.le_refl _) ?_
    obtain ⟨rfl, rfl⟩ := of_ret2 h
    exact C_iret hx hb hr hlocks hw (by rfl) dX11_rules_26
