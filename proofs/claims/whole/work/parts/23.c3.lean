def fX5_init (n : Nat × Nat) (S : CS) (a0 : Nat) : Option (CS × Nat × Nat) :=
  adc 1 400 (bnd (nx S) (fun q8 => bnd (nw S 60 400) (fun S8 => grd (cD S8 a0 = 6) (bnd (uR S8 120 a0 (some q8)) (fun S10 => adc 1 5 (bnd (nx S10) (fun q14 => bnd (nw S10 7 0) (fun S14 => cal (fX6_init n S14 q14) (un2 fun S18 u18 => un2 (fun c1_18 c2_18 => adc c1_18 c2_18 (grd (cD S18 a0 = 6) (bnd (uR S18 121 a0 (some q14)) (fun S21 => bnd (uI S21 122 a0 (0 : Int32)) (fun S26 => bnd (uI S26 123 a0 (0 : Int32)) (fun S31 => bnd (uI S31 124 a0 (0 : Int32)) (fun S36 => bnd (uI S36 125 a0 (-1 : Int32)) (fun S41 => some (S41, 0, 0))))))))) u18)))))))))
set_option maxHeartbeats 8000000 in
set_option maxRecDepth 100000 in
theorem cX5_init_ok (l : Launch) (D : va_G) (cc : Nat → ClassId) (E : Nat → Nat) (n : Nat × Nat) (S : CS) (a0 : Nat) {T : CS} {mc ms : Nat} (h : fX5_init n S a0 = some (T, mc, ms)) : Cv l yX5_init wsX5_init 2 40 D cc E [.ref a0] S T mc ms := by
  refine C_of (own := RX5) (bb := cX5_init) (nL := 1) (ret := none) (by decide) rfl rfl (Nat.le_of_ble_eq_true rfl) ?_
  intro p e s m args below meth c hx hb hr hlocks hml hts hown hnm hA hK hro hw ls hl
  generalize va_A (cPs cc S) (nx S) = A at hA hro hw ⊢
  unfold fX5_init at h
  have hinX5 : ∀ w ∈ wsX50, w ∈ wsX5_init := by decide +kernel
  have hinX6 : ∀ w ∈ wsX60, w ∈ wsX5_init := by decide +kernel
  have hl : lv_has ls 1 [(0, .ref a0)] := hl
  refine W.widen (k := mc - mc) (n := ms - ms) (by omega) (by omega) ?_
  have hk1 : mc ≤ mc := Nat.le_refl _
  have hk2 : ms ≤ ms := Nat.le_refl _
  refine lv_aload_n hx hb dX5_init_0 rfl (lv_at hl 0 rfl) ?_
  refine W.objInit hx hb hown (hts (.methodLink RX5 3 objectInit) (by decide +kernel)) (hts (.instanceMethod objectInit) (by decide +kernel)) (hts (.code objectInit ⟨#[0xb1]⟩ 1 none) (by decide +kernel)) rfl (by rw [hml]; exact hl.1) rfl dX5_init_1 (Nat.le_of_ble_eq_true rfl) (Nat.le_of_ble_eq_true rfl) ?_
  refine W.eq (g2 := F0 m 4 ls []) rfl ?_
  refine lv_aload_n hx hb dX5_init_4 rfl (lv_at hl 0 rfl) ?_
  refine lv_sipush (v := 400) hx hb dX5_init_5 (by decide) ?_
  obtain ⟨kc1, ks1, h, ek1, ek2⟩ := of_adc h
  refine C_newa (d := 60) hx hb hts (by decide +kernel) (ty := .byte) rfl hK hA hw 1 rfl (fun _ _ => rfl) (N' := 400) (fun _ => rfl) (cnew_B S) (by decide) (by decide) (by decide) (by decide) (by show _ ≤ mc; omega) (by show _ ≤ ms; omega) dX5_init_8 (fun q8 S8 H eq8 eS8 hw => ?_)
  have h := of_bnd h eq8
  have h := of_bnd h eS8
  refine W.widen (k := mc - kc1) (n := ms - ks1) (by omega) (by omega) ?_
  have hk1 : kc1 ≤ mc := by omega
  have hk2 : ks1 ≤ ms := by omega
  have hf2 : cD S8 q8 = 60 := by rw [eS8, eq8]; exact cD_new _ _ _
  obtain ⟨hf3, h⟩ := of_grd h
  refine C_putF hx hb hts hinX5 tyX5 tyX5_ok nmX5 hown hK hw (cell_6 hf3) (by omega) rfl 0 (by decide) (index := 9) (by decide +kernel) rfl rfl hnm rfl (ty := (.array .byte)) (by decide +kernel) rfl rfl (Nat.le_of_ble_eq_true rfl) (S' := uR S8 120 a0 (some q8)) rfl rfl rfl (pu_120 hf3 (some q8)) (fun b hb => off_uR hb) dX5_init_10 (fun S10 H locs eS10 hw => ?_)
  have h := of_bnd h eS10
  refine lv_aload_n hx hb dX5_init_13 rfl (lv_at hl 0 rfl) ?_
  obtain ⟨kc4, ks4, h, ek1, ek2⟩ := of_adc h
  refine C_new (d := 7) hx hb hts hinX6 tyX6 tyX6_ok hown (index := 15) (by decide +kernel) (by decide +kernel) (by decide +kernel) hK hA hw rfl (fun j hj => dfX6 j hj) (cnew_7 S10) (by show _ ≤ mc; omega) (by show _ ≤ ms; omega) dX5_init_14 (fun q14 S14 H eq14 eS14 hw => ?_)
  have h := of_bnd h eq14
  have h := of_bnd h eS14
  refine W.widen (k := mc - kc4) (n := ms - ks4) (by omega) (by omega) ?_
  have hk1 : kc4 ≤ mc := by omega
  have hk2 : ks4 ≤ ms := by omega
  have hf5 : cD S14 q14 = 7 := by rw [eS14, eq14]; exact cD_new _ _ _
  refine lv_dup hx hb dX5_init_17 rfl ?_
  obtain ⟨q18, hq18, h⟩ := of_cal h
  obtain ⟨S18, c1_18, c2_18⟩ := q18
  have h := of_un2 h
  have h := of_un2 h
  obtain ⟨kc6, ks6, h, ek1, ek2⟩ := of_adc h
  refine C_v hA hw (va_runIN (As := []) (rest := [.ref q14, .ref a0]) ⟨hx, hb, hml, hown, hts⟩ (cX6_init_ok l D cc E n S14 q14 hq18) ⟨va_cnB 0 hts gX5_init_X6_init_n17 rfl rfl rfl (hro.1 (RX5, 17, yX6_init) (by decide +kernel)) (hts (.initialized RX6) (by decide +kernel)) (by decide +kernel) ⟨Nat.le_of_ble_eq_true rfl, Nat.le_of_ble_eq_true rfl⟩, rfl, (hts (.instanceMethod yX6_init) (by decide +kernel))⟩ ⟨cBlind D cc E S14 _, fun U hU hW => ⟨rfl, C_pre hA hK hro hw U hU hW⟩⟩ rfl rfl hl.1 rfl (lv_room (Nat.le_of_ble_eq_true rfl)) dX5_init_18 ⟨by show _ ≤ mc; omega, by show _ ≤ ms; omega⟩) (fun H locs hw => ?_)
  refine W.widen (k := mc - kc6) (n := ms - ks6) (by omega) (by omega) ?_
  have hk1 : kc6 ≤ mc := by omega
  have hk2 : ks6 ≤ ms := by omega
  obtain ⟨hf7, h⟩ := of_grd h
  refine C_put hx hb hts hinX5 tyX5 tyX5_ok nmX5 hown hK hw (cell_6 hf7) (by omega) rfl 1 (by decide) (index := 18) (by decide +kernel) rfl rfl (ty := (.object "FoodShares$RuleSet")) (by decide +kernel) rfl rfl (Nat.le_of_ble_eq_true rfl) (S' := uR S18 121 a0 (some q14)) rfl rfl rfl (pu_121 hf7 (some q14)) (fun b hb => off_uR hb) dX5_init_21 (fun S21 H locs eS21 hw => ?_)
  have h := of_bnd h eS21
  refine lv_aload_n hx hb dX5_init_24 rfl (lv_at hl 0 rfl) ?_
  refine lv_iconst (v := 0) hx hb dX5_init_25 (by decide) ?_
  have hf8 : cD S21 a0 = 6 := by rw [eS21]; exact hf7
  refine C_put hx hb hts hinX5 tyX5 tyX5_ok nmX5 hown hK hw (cell_6 hf8) (by omega) rfl 2 (by decide) (index := 22) (by decide +kernel) rfl rfl (ty := .int) (by decide +kernel) rfl rfl (Nat.le_of_ble_eq_true rfl) (S' := uI S21 122 a0 (0 : Int32)) rfl rfl rfl (pu_122 hf8 (0 : Int32)) (fun b hb => off_uI hb) dX5_init_26 (fun S26 H locs eS26 hw => ?_)
  have h := of_bnd h eS26
  refine lv_aload_n hx hb dX5_init_29 rfl (lv_at hl 0 rfl) ?_
  refine lv_iconst (v := 0) hx hb dX5_init_30 (by decide) ?_
  have hf9 : cD S26 a0 = 6 := by rw [eS26]; exact hf8
  refine C_put hx hb hts hinX5 tyX5 tyX5_ok nmX5 hown hK hw (cell_6 hf9) (by omega) rfl 3 (by decide) (index := 26) (by decide +kernel) rfl rfl (ty := .int) (by decide +kernel) rfl rfl (Nat.le_of_ble_eq_true rfl) (S' := uI S26 123 a0 (0 : Int32)) rfl rfl rfl (pu_123 hf9 (0 : Int32)) (fun b hb => off_uI hb) dX5_init_31 (fun S31 H locs eS31 hw => ?_)
  have h := of_bnd h eS31
  refine lv_aload_n hx hb dX5_init_34 rfl (lv_at hl 0 rfl) ?_
  refine lv_iconst (v := 0) hx hb dX5_init_35 (by decide) ?_
  have hf10 : cD S31 a0 = 6 := by rw [eS31]; exact hf9
  refine C_put hx hb hts hinX5 tyX5 tyX5_ok nmX5 hown hK hw (cell_6 hf10) (by omega) rfl 4 (by decide) (index := 29) (by decide +kernel) rfl rfl (ty := .int) (by decide +kernel) rfl rfl (Nat.le_of_ble_eq_true rfl) (S' := uI S31 124 a0 (0 : Int32)) rfl rfl rfl (pu_124 hf10 (0 : Int32)) (fun b hb => off_uI hb) dX5_init_36 (fun S36 H locs eS36 hw => ?_)
  have h := of_bnd h eS36
  refine lv_aload_n hx hb dX5_init_39 rfl (lv_at hl 0 rfl) ?_
  refine lv_iconst (v := -1) hx hb dX5_init_40 (by decide) ?_
  have hf11 : cD S36 a0 = 6 := by rw [eS36]; exact hf10
  refine C_put hx hb hts hinX5 tyX5 tyX5_ok nmX5 hown hK hw (cell_6 hf11) (by omega) rfl 5 (by decide) (index := 32) (by decide +kernel) rfl rfl (ty := .int) (by decide +kernel) rfl rfl (Nat.le_of_ble_eq_true rfl) (S' := uI S36 125 a0 (-1 : Int32)) rfl rfl rfl (pu_125 hf11 (-1 : Int32)) (fun b hb => off_uI hb) dX5_init_41 (fun S41 H locs eS41 hw => ?_)
  have h := of_bnd h eS41
  obtain ⟨rfl, ek1, ek2⟩ := of_retV h
  refine W.widen (k := mc) (n := ms) (by omega) (by omega) ?_
  exact C_vret hx hb hr hlocks hw dX5_init_44

def fX5_append_lp3 (n : Nat × Nat) (f0 : Nat) (f1 : Int32) : Nat → Int32 → CS → Option (CS)
  | 0, _, _ => none
  | k + 1, l2, S =>
    if l2 < 0 then 
        some S
        else grd (cD S f0 = 6) (bnd (cI S 124 f0) (fun v8 => if (400 : Int32) ≤ v8 then 
          bnd (l2 + -8) (fun x40 => fX5_append_lp3 n f0 f1 k x40 S)
          else onn (cR S 120 f0) (fun b18 => bnd (cI S 124 f0) (fun v22 => grd (cD S b18 = 60) (grd (¬ (v22 < 0 ∨ cN S b18 ≤ v22.toNatClampNeg)) (bnd (uA S 60 b18 v22.toNatClampNeg (vp_nar .byte ((f1 >>> (l2 &&& 31)).toInt8.toInt32))) (fun S29 => bnd (cI S29 124 f0) (fun v32 => bnd (uI S29 124 f0 (v32 + (1 : Int32))) (fun S37 => bnd (l2 + -8) (fun x40 => fX5_append_lp3 n f0 f1 k x40 S37))))))))))
def fX5_append (n : Nat × Nat) (S : CS) (a0 : Nat) (a1 : Int32) : Option (CS) :=
  bnd (24 : Int32) (fun x2 => cal (fX5_append_lp3 n a0 a1 n.1 x2 S) (fun S3 => some S3))
set_option maxHeartbeats 8000000 in
set_option maxRecDepth 100000 in
theorem cX5_append_ok (l : Launch) (D : va_G) (cc : Nat → ClassId) (E : Nat → Nat) (n : Nat × Nat) (S : CS) (a0 : Nat) (a1 : Int32) {T : CS} (h : fX5_append n S a0 a1 = some T) : Cv l yX5_append wsX5_append 0 0 D cc E [.ref a0, .int a1] S T 0 0 := by
  refine C_of (own := RX5) (bb := cX5_append) (nL := 3) (ret := none) (by decide) rfl rfl (Nat.le_of_ble_eq_true rfl) ?_
  intro p e s m args below meth c hx hb hr hlocks hml hts hown hnm hA hK hro hw ls hl
  generalize va_A (cPs cc S) (nx S) = A at hA hro hw ⊢
  unfold fX5_append at h
  have hinX5 : ∀ w ∈ wsX50, w ∈ wsX5_append := by decide +kernel
  have hl : lv_has ls 3 [(0, .ref a0), (1, .int a1)] := hl
  refine lv_bipush (v := 24) hx hb dX5_append_0 (by decide) ?_
  refine lv_topi (fun x2 ex2 => ?_)
  have h := of_bnd h ex2
  refine lv_istore_n (lv' := [(2, .int x2), (0, .ref a0), (1, .int a1)]) hx hb dX5_append_2 rfl hl (by decide) rfl (fun ls hl => ?_)
  have lp3 : ∀ (f0 : Nat) (f1 : Int32) (k : Nat) (l2 : Int32) (S : CS) (q : CS) , fX5_append_lp3 n f0 f1 k l2 S = some q → ∀ (H : Heap) (locs : List Loc), cWd D cc A s.heap S H locs → ∀ ls : Array Slot, lv_has ls 3 [(0, .ref f0), (1, .int f1), (2, .int l2)] → (∀  (S1 : CS), S1 = q → ∀ (H : Heap) (locs : List Loc), cWd D cc A s.heap S1 H locs → ∀ ls : Array Slot, lv_has ls 3 [] → W p l e (cRm 0 0 0 0) s m args below meth c H locs (0) (0) (MQ below (va_Qv (fun u => u = T) (cAft D cc A) A) args s 0 0 A) (F0 m 46 ls [])) → W p l e (cRm 0 0 0 0) s m args below meth c H locs (0) (0) (MQ below (va_Qv (fun u => u = T) (cAft D cc A) A) args s 0 0 A) (F0 m 3 ls []) := by
    intro f0 f1 k
    induction k with
    | zero => intro l2 S q h; rw [fX5_append_lp3] at h; cases h
    | succ k ih3 =>
      intro l2 S q h H locs hw ls hl kx3_0
      rw [fX5_append_lp3] at h
      refine lv_iload_n hx hb dX5_append_3 rfl (lv_at hl 2 rfl) ?_
      refine lv_if_lt (tgt := 46) hx hb dX5_append_4 (by decide) (fun c4 => ?_) (fun c4 => ?_)
      · have h := of_it h c4
        exact kx3_0 S (Option.some.inj h) _ _ hw ls (lv_sub hl [] rfl)
      · have h := of_if h c4
        refine lv_aload_n hx hb dX5_append_7 rfl (lv_at hl 0 rfl) ?_
        obtain ⟨hf1, h⟩ := of_grd h
        refine C_get hx hb hts hinX5 hown hK hw (cell_6 hf1) (by omega) rfl 4 (by decide) (index := 29) (by decide +kernel) rfl rfl dX5_append_8 ?_
        refine lv_topi (fun v8 ev8 => ?_)
        have h := of_bnd h ev8
        refine lv_sipush (v := 400) hx hb dX5_append_11 (by decide) ?_
        refine lv_icmp_ge (tgt := 40) hx hb dX5_append_14 (by decide) (fun c14 => ?_) (fun c14 => ?_)
        · have h := of_it h c14
          obtain ⟨x40, ex40⟩ : ∃ y : Int32, y = l2 + -8 := ⟨_, rfl⟩
          have h := of_bnd h ex40
          refine lv_iinc (v := x40) (lv' := [(2, .int x40), (0, .ref f0), (1, .int f1)]) hx hb dX5_append_40 hl (k := 2) rfl (by rw [ex40]; rfl) (by decide) rfl (fun ls hl => ?_)
          refine lv_goto (tgt := 3) hx hb dX5_append_43 (by decide) ?_
          exact ih3 x40 S _ h _ _ hw ls (lv_sub hl [1, 2, 0] rfl) kx3_0
        · have h := of_if h c14
          refine lv_aload_n hx hb dX5_append_17 rfl (lv_at hl 0 rfl) ?_
          obtain ⟨b18, eb18, h⟩ := of_onn h
          refine C_get hx hb hts hinX5 hown hK hw (cell_6 hf1) (by omega) rfl 0 (by decide) (index := 9) (by decide +kernel) rfl (v := .ref b18) (congrArg (fun o => some (va_rf o)) eb18) dX5_append_18 ?_
          refine lv_aload_n hx hb dX5_append_21 rfl (lv_at hl 0 rfl) ?_
          refine C_get hx hb hts hinX5 hown hK hw (cell_6 hf1) (by omega) rfl 4 (by decide) (index := 29) (by decide +kernel) rfl rfl dX5_append_22 ?_
          refine lv_topi (fun v22 ev22 => ?_)
          have h := of_bnd h ev22
          refine lv_iload_n hx hb dX5_append_25 rfl (lv_at hl 1 rfl) ?_
          refine lv_iload_n hx hb dX5_append_26 rfl (lv_at hl 2 rfl) ?_
          refine lv_ishr hx hb dX5_append_27 ?_
          refine lv_i2b hx hb dX5_append_28 rfl ?_
          obtain ⟨hf2, h⟩ := of_grd h
          obtain ⟨hi29, h⟩ := of_grd h
          refine C_bast hx hb hK hw hf2 hi29 dX5_append_29 (fun S29 H locs eS29 hw => ?_)
          have h := of_bnd h eS29
          refine lv_aload_n hx hb dX5_append_30 rfl (lv_at hl 0 rfl) ?_
          refine lv_dup hx hb dX5_append_31 rfl ?_
          have hf3 : cD S29 f0 = 6 := by rw [eS29]; exact hf1
          refine C_get hx hb hts hinX5 hown hK hw (cell_6 hf3) (by omega) rfl 4 (by decide) (index := 29) (by decide +kernel) rfl rfl dX5_append_32 ?_
          refine lv_topi (fun v32 ev32 => ?_)
          have h := of_bnd h ev32
          refine lv_iconst (v := 1) hx hb dX5_append_35 (by decide) ?_
          refine lv_iadd hx hb dX5_append_36 ?_
          refine C_put hx hb hts hinX5 tyX5 tyX5_ok nmX5 hown hK hw (cell_6 hf3) (by omega) rfl 4 (by decide) (index := 29) (by decide +kernel) rfl rfl (ty := .int) (by decide +kernel) rfl rfl (Nat.le_of_ble_eq_true rfl) (S' := uI S29 124 f0 (v32 + (1 : Int32))) rfl rfl rfl (pu_124 hf3 (v32 + (1 : Int32))) (fun b hb => off_uI hb) dX5_append_37 (fun S37 H locs eS37 hw => ?_)
          have h := of_bnd h eS37
          obtain ⟨x40, ex40⟩ : ∃ y : Int32, y = l2 + -8 := ⟨_, rfl⟩
          have h := of_bnd h ex40
          refine lv_iinc (v := x40) (lv' := [(2, .int x40), (0, .ref f0), (1, .int f1)]) hx hb dX5_append_40 hl (k := 2) rfl (by rw [ex40]; rfl) (by decide) rfl (fun ls hl => ?_)
          refine lv_goto (tgt := 3) hx hb dX5_append_43 (by decide) ?_
          exact ih3 x40 S37 _ h _ _ hw ls (lv_sub hl [1, 2, 0] rfl) kx3_0
  obtain ⟨q3, hq3, h⟩ := of_cal h
  refine lp3 a0 a1 n.1 x2 S q3  hq3 _ _ hw ls (lv_sub hl [1, 2, 0] rfl) ?_
  · intro S3 eq H locs hw ls hl
    subst eq
    obtain rfl := Option.some.inj h
    exact C_vret hx hb hr hlocks hw dX5_append_46

def fX5_exchangeDraft (n : Nat × Nat) (S : CS) (a0 : Nat) (a1 : Nat) : Option (Option Nat × CS) :=
  grd (cD S a0 = 6) (onn (cR S 121 a0) (fun b1 => bnd (uR S 121 a0 (some a1)) (fun S7 => some ((some b1), S7))))
set_option maxHeartbeats 8000000 in
set_option maxRecDepth 100000 in
theorem cX5_exchangeDraft_ok (l : Launch) (D : va_G) (cc : Nat → ClassId) (E : Nat → Nat) (n : Nat × Nat) (S : CS) (a0 : Nat) (a1 : Nat) {r : Option Nat} {T : CS} (h : fX5_exchangeDraft n S a0 a1 = some (r, T)) : Cq l yX5_exchangeDraft wsX5_exchangeDraft 0 0 D cc E [.ref a0, .ref a1] S r T 0 0 := by
  refine C_of (own := RX5) (bb := cX5_exchangeDraft) (nL := 3) (ret := (some (.object "FoodShares$RuleSet"))) (by decide) rfl rfl (Nat.le_of_ble_eq_true rfl) ?_
  intro p e s m args below meth c hx hb hr hlocks hml hts hown hnm hA hK hro hw ls hl
  generalize va_A (cPs cc S) (nx S) = A at hA hro hw ⊢
  unfold fX5_exchangeDraft at h
  have hinX5 : ∀ w ∈ wsX50, w ∈ wsX5_exchangeDraft := by decide +kernel
  have hl : lv_has ls 3 [(0, .ref a0), (1, .ref a1)] := hl
  refine lv_aload_n hx hb dX5_exchangeDraft_0 rfl (lv_at hl 0 rfl) ?_
  obtain ⟨hf1, h⟩ := of_grd h
  obtain ⟨b1, eb1, h⟩ := of_onn h
  refine C_get hx hb hts hinX5 hown hK hw (cell_6 hf1) (by omega) rfl 1 (by decide) (index := 18) (by decide +kernel) rfl (v := .ref b1) (congrArg (fun o => some (va_rf o)) eb1) dX5_exchangeDraft_1 ?_
  refine lv_astore_n (lv' := [(2, .ref b1), (0, .ref a0), (1, .ref a1)]) hx hb dX5_exchangeDraft_4 rfl hl (by decide) rfl (fun ls hl => ?_)
  refine lv_aload_n hx hb dX5_exchangeDraft_5 rfl (lv_at hl 1 rfl) ?_
  refine lv_aload_n hx hb dX5_exchangeDraft_6 rfl (lv_at hl 2 rfl) ?_
  refine C_put hx hb hts hinX5 tyX5 tyX5_ok nmX5 hown hK hw (cell_6 hf1) (by omega) rfl 1 (by decide) (index := 18) (by decide +kernel) rfl rfl (ty := (.object "FoodShares$RuleSet")) (by decide +kernel) rfl rfl (Nat.le_of_ble_eq_true rfl) (S' := uR S 121 a0 (some a1)) rfl rfl rfl (pu_121 hf1 (some a1)) (fun b hb => off_uR hb) dX5_exchangeDraft_7 (fun S7 H locs eS7 hw => ?_)
  have h := of_bnd h eS7
  refine lv_aload_n hx hb dX5_exchangeDraft_10 rfl (lv_at hl 0 rfl) ?_
  obtain ⟨rfl, rfl⟩ := of_ret2 h
  exact C_aret hx hb hr hlocks (Or.inl ⟨_, rfl⟩) hw dX5_exchangeDraft_11

def fX5_emptyTape (n : Nat × Nat) (S : CS) (a0 : Nat) (a1 : Int32) : Option (CS) :=
  if a1 = 0 then 
    grd (cD S a0 = 6) (bnd (cI S 122 a0) (fun v10 => bnd (uI S 125 a0 v10) (fun S13 => bnd (uI S13 124 a0 (0 : Int32)) (fun S18 => some S18))))
    else grd (cD S a0 = 6) (bnd (uI S 125 a0 (-1 : Int32)) (fun S13 => bnd (uI S13 124 a0 (0 : Int32)) (fun S18 => some S18)))
set_option maxHeartbeats 8000000 in
set_option maxRecDepth 100000 in
theorem cX5_emptyTape_ok (l : Launch) (D : va_G) (cc : Nat → ClassId) (E : Nat → Nat) (n : Nat × Nat) (S : CS) (a0 : Nat) (a1 : Int32) {T : CS} (h : fX5_emptyTape n S a0 a1 = some T) : Cv l yX5_emptyTape wsX5_emptyTape 0 0 D cc E [.ref a0, .int a1] S T 0 0 := by
  refine C_of (own := RX5) (bb := cX5_emptyTape) (nL := 2) (ret := none) (by decide) rfl rfl (Nat.le_of_ble_eq_true rfl) ?_
  intro p e s m args below meth c hx hb hr hlocks hml hts hown hnm hA hK hro hw ls hl
  generalize va_A (cPs cc S) (nx S) = A at hA hro hw ⊢
  unfold fX5_emptyTape at h
  have hinX5 : ∀ w ∈ wsX50, w ∈ wsX5_emptyTape := by decide +kernel
  have hl : lv_has ls 2 [(0, .ref a0), (1, .int a1)] := hl
  refine lv_aload_n hx hb dX5_emptyTape_0 rfl (lv_at hl 0 rfl) ?_
  refine lv_iload_n hx hb dX5_emptyTape_1 rfl (lv_at hl 1 rfl) ?_
  refine lv_if_eq (tgt := 9) hx hb dX5_emptyTape_2 (by decide) (fun c2 => ?_) (fun c2 => ?_)
  · have h := of_it h c2
    refine lv_aload_n hx hb dX5_emptyTape_9 rfl (lv_at hl 0 rfl) ?_
    obtain ⟨hf1, h⟩ := of_grd h
    refine C_get hx hb hts hinX5 hown hK hw (cell_6 hf1) (by omega) rfl 2 (by decide) (index := 22) (by decide +kernel) rfl rfl dX5_emptyTape_10 ?_
    refine lv_topi (fun v10 ev10 => ?_)
    have h := of_bnd h ev10
    refine C_put hx hb hts hinX5 tyX5 tyX5_ok nmX5 hown hK hw (cell_6 hf1) (by omega) rfl 5 (by decide) (index := 32) (by decide +kernel) rfl rfl (ty := .int) (by decide +kernel) rfl rfl (Nat.le_of_ble_eq_true rfl) (S' := uI S 125 a0 v10) rfl rfl rfl (pu_125 hf1 v10) (fun b hb => off_uI hb) dX5_emptyTape_13 (fun S13 H locs eS13 hw => ?_)
    have h := of_bnd h eS13
    refine lv_aload_n hx hb dX5_emptyTape_16 rfl (lv_at hl 0 rfl) ?_
    refine lv_iconst (v := 0) hx hb dX5_emptyTape_17 (by decide) ?_
    have hf2 : cD S13 a0 = 6 := by rw [eS13]; exact hf1
    refine C_put hx hb hts hinX5 tyX5 tyX5_ok nmX5 hown hK hw (cell_6 hf2) (by omega) rfl 4 (by decide) (index := 29) (by decide +kernel) rfl rfl (ty := .int) (by decide +kernel) rfl rfl (Nat.le_of_ble_eq_true rfl) (S' := uI S13 124 a0 (0 : Int32)) rfl rfl rfl (pu_124 hf2 (0 : Int32)) (fun b hb => off_uI hb) dX5_emptyTape_18 (fun S18 H locs eS18 hw => ?_)
    have h := of_bnd h eS18
    obtain rfl := Option.some.inj h
    exact C_vret hx hb hr hlocks hw dX5_emptyTape_21
  · have h := of_if h c2
    refine lv_iconst (v := -1) hx hb dX5_emptyTape_5 (by decide) ?_
    refine lv_goto (tgt := 13) hx hb dX5_emptyTape_6 (by decide) ?_
    obtain ⟨hf3, h⟩ := of_grd h
    refine C_put hx hb hts hinX5 tyX5 tyX5_ok nmX5 hown hK hw (cell_6 hf3) (by omega) rfl 5 (by decide) (index := 32) (by decide +kernel) rfl rfl (ty := .int) (by decide +kernel) rfl rfl (Nat.le_of_ble_eq_true rfl) (S' := uI S 125 a0 (-1 : Int32)) rfl rfl rfl (pu_125 hf3 (-1 : Int32)) (fun b hb => off_uI hb) dX5_emptyTape_13 (fun S13 H locs eS13 hw => ?_)
    have h := of_bnd h eS13
    refine lv_aload_n hx hb dX5_emptyTape_16 rfl (lv_at hl 0 rfl) ?_
    refine lv_iconst (v := 0) hx hb dX5_emptyTape_17 (by decide) ?_
    have hf4 : cD S13 a0 = 6 := by rw [eS13]; exact hf3
    refine C_put hx hb hts hinX5 tyX5 tyX5_ok nmX5 hown hK hw (cell_6 hf4) (by omega) rfl 4 (by decide) (index := 29) (by decide +kernel) rfl rfl (ty := .int) (by decide +kernel) rfl rfl (Nat.le_of_ble_eq_true rfl) (S' := uI S13 124 a0 (0 : Int32)) rfl rfl rfl (pu_124 hf4 (0 : Int32)) (fun b hb => off_uI hb) dX5_emptyTape_18 (fun S18 H locs eS18 hw => ?_)
    have h := of_bnd h eS18
    obtain rfl := Option.some.inj h
    exact C_vret hx hb hr hlocks hw dX5_emptyTape_21

def fX5_isBehindText (n : Nat × Nat) (S : CS) (a0 : Nat) : Option Int32 :=
  grd (cD S a0 = 6) (bnd (cI S 122 a0) (fun v1 => bnd (cI S 124 a0) (fun v5 => if v1 < v5 then 
    some (0 : Int32)
    else some (1 : Int32))))
set_option maxHeartbeats 8000000 in
set_option maxRecDepth 100000 in
theorem cX5_isBehindText_ok (l : Launch) (D : va_G) (cc : Nat → ClassId) (E : Nat → Nat) (n : Nat × Nat) (S : CS) (a0 : Nat) {r : Int32} (h : fX5_isBehindText n S a0 = some r) : Ci l yX5_isBehindText wsX5_isBehindText 0 0 D cc E [.ref a0] S r S 0 0 := by
  refine C_of (own := RX5) (bb := cX5_isBehindText) (nL := 1) (ret := (some .boolean)) (by decide) rfl rfl (Nat.le_of_ble_eq_true rfl) ?_
  intro p e s m args below meth c hx hb hr hlocks hml hts hown hnm hA hK hro hw ls hl
  generalize va_A (cPs cc S) (nx S) = A at hA hro hw ⊢
  unfold fX5_isBehindText at h
  have hinX5 : ∀ w ∈ wsX50, w ∈ wsX5_isBehindText := by decide +kernel
  have hl : lv_has ls 1 [(0, .ref a0)] := hl
  refine lv_aload_n hx hb dX5_isBehindText_0 rfl (lv_at hl 0 rfl) ?_
  obtain ⟨hf1, h⟩ := of_grd h
  refine C_get hx hb hts hinX5 hown hK hw (cell_6 hf1) (by omega) rfl 2 (by decide) (index := 22) (by decide +kernel) rfl rfl dX5_isBehindText_1 ?_
  refine lv_topi (fun v1 ev1 => ?_)
  have h := of_bnd h ev1
  refine lv_aload_n hx hb dX5_isBehindText_4 rfl (lv_at hl 0 rfl) ?_
  refine C_get hx hb hts hinX5 hown hK hw (cell_6 hf1) (by omega) rfl 4 (by decide) (index := 29) (by decide +kernel) rfl rfl dX5_isBehindText_5 ?_
  refine lv_topi (fun v5 ev5 => ?_)
  have h := of_bnd h ev5
  refine lv_icmp_lt (tgt := 15) hx hb dX5_isBehindText_8 (by decide) (fun c8 => ?_) (fun c8 => ?_)
  · have h := of_it h c8
    refine lv_iconst (v := 0) hx hb dX5_isBehindText_15 (by decide) ?_
    obtain rfl := Option.some.inj h
    exact C_iret hx hb hr hlocks hw (by first | rfl | decide) dX5_isBehindText_16
  · have h := of_if h c8
    refine lv_iconst (v := 1) hx hb dX5_isBehindText_11 (by decide) ?_
    refine lv_goto (tgt := 16) hx hb dX5_isBehindText_12 (by decide) ?_
    obtain rfl := Option.some.inj h
    exact C_iret hx hb hr hlocks hw (by first | rfl | decide) dX5_isBehindText_16

def fX5_byteAt (n : Nat × Nat) (S : CS) (a0 : Nat) (a1 : Int32) : Option Int32 :=
  if a1 < 0 then 
    some (-1 : Int32)
    else grd (cD S a0 = 6) (bnd (cI S 124 a0) (fun v6 => if v6 ≤ a1 then 
      some (-1 : Int32)
      else if (400 : Int32) ≤ a1 then 
        some (-1 : Int32)
        else onn (cR S 120 a0) (fun b20 => grd (cD S b20 = 60) (grd (¬ (a1 < 0 ∨ cN S b20 ≤ a1.toNatClampNeg)) (bnd (cA S 60 b20 a1.toNatClampNeg) (fun v24 => some v24))))))
set_option maxHeartbeats 8000000 in
set_option maxRecDepth 100000 in
theorem cX5_byteAt_ok (l : Launch) (D : va_G) (cc : Nat → ClassId) (E : Nat → Nat) (n : Nat × Nat) (S : CS) (a0 : Nat) (a1 : Int32) {r : Int32} (h : fX5_byteAt n S a0 a1 = some r) : Ci l yX5_byteAt wsX5_byteAt 0 0 D cc E [.ref a0, .int a1] S r S 0 0 := by
  refine C_of (own := RX5) (bb := cX5_byteAt) (nL := 2) (ret := (some .int)) (by decide) rfl rfl (Nat.le_of_ble_eq_true rfl) ?_
  intro p e s m args below meth c hx hb hr hlocks hml hts hown hnm hA hK hro hw ls hl
  generalize va_A (cPs cc S) (nx S) = A at hA hro hw ⊢
  unfold fX5_byteAt at h
  have hinX5 : ∀ w ∈ wsX50, w ∈ wsX5_byteAt := by decide +kernel
  have hl : lv_has ls 2 [(0, .ref a0), (1, .int a1)] := hl
  refine lv_iload_n hx hb dX5_byteAt_0 rfl (lv_at hl 1 rfl) ?_
  refine lv_if_lt (tgt := 28) hx hb dX5_byteAt_1 (by decide) (fun c1 => ?_) (fun c1 => ?_)
  · have h := of_it h c1
    refine lv_iconst (v := -1) hx hb dX5_byteAt_28 (by decide) ?_
    obtain rfl := Option.some.inj h
    exact C_iret hx hb hr hlocks hw (by rfl) dX5_byteAt_29
  · have h := of_if h c1
    refine lv_iload_n hx hb dX5_byteAt_4 rfl (lv_at hl 1 rfl) ?_
    refine lv_aload_n hx hb dX5_byteAt_5 rfl (lv_at hl 0 rfl) ?_
    obtain ⟨hf1, h⟩ := of_grd h
    refine C_get hx hb hts hinX5 hown hK hw (cell_6 hf1) (by omega) rfl 4 (by decide) (index := 29) (by decide +kernel) rfl rfl dX5_byteAt_6 ?_
    refine lv_topi (fun v6 ev6 => ?_)
    have h := of_bnd h ev6
    refine lv_icmp_ge (tgt := 28) hx hb dX5_byteAt_9 (by decide) (fun c9 => ?_) (fun c9 => ?_)
    · have h := of_it h c9
      refine lv_iconst (v := -1) hx hb dX5_byteAt_28 (by decide) ?_
      obtain rfl := Option.some.inj h
      exact C_iret hx hb hr hlocks hw (by rfl) dX5_byteAt_29
    · have h := of_if h c9
      refine lv_iload_n hx hb dX5_byteAt_12 rfl (lv_at hl 1 rfl) ?_
      refine lv_sipush (v := 400) hx hb dX5_byteAt_13 (by decide) ?_
      refine lv_icmp_ge (tgt := 28) hx hb dX5_byteAt_16 (by decide) (fun c16 => ?_) (fun c16 => ?_)
      · have h := of_it h c16
        refine lv_iconst (v := -1) hx hb dX5_byteAt_28 (by decide) ?_
        obtain rfl := Option.some.inj h
        exact C_iret hx hb hr hlocks hw (by rfl) dX5_byteAt_29
      · have h := of_if h c16
        refine lv_aload_n hx hb dX5_byteAt_19 rfl (lv_at hl 0 rfl) ?_
        obtain ⟨b20, eb20, h⟩ := of_onn h
        refine C_get hx hb hts hinX5 hown hK hw (cell_6 hf1) (by omega) rfl 0 (by decide) (index := 9) (by decide +kernel) rfl (v := .ref b20) (congrArg (fun o => some (va_rf o)) eb20) dX5_byteAt_20 ?_
        refine lv_iload_n hx hb dX5_byteAt_23 rfl (lv_at hl 1 rfl) ?_
        obtain ⟨hf2, h⟩ := of_grd h
        obtain ⟨hi24, h⟩ := of_grd h
        refine C_bald hx hb hK hw hf2 hi24 dX5_byteAt_24 ?_
        refine lv_topi (fun v24 ev24 => ?_)
        have h := of_bnd h ev24
        refine lv_goto (tgt := 29) hx hb dX5_byteAt_25 (by decide) ?_
        obtain rfl := Option.some.inj h
        exact C_iret hx hb hr hlocks hw (by rfl) dX5_byteAt_29

def fX5_sortOf (a0 : Int32) : Int32 :=
  if a0 < (97 : Int32) then 
    if a0 < (48 : Int32) then 
      (3 : Int32)
      else if (57 : Int32) < a0 then 
        (3 : Int32)
        else (2 : Int32)
    else if (122 : Int32) < a0 then 
      if a0 < (48 : Int32) then 
        (3 : Int32)
        else if (57 : Int32) < a0 then 
          (3 : Int32)
          else (2 : Int32)
      else (1 : Int32)
set_option maxHeartbeats 8000000 in
set_option maxRecDepth 100000 in
theorem cX5_sortOf_ok (l : Launch) (a0 : Int32) : Si l yX5_sortOf wsX5_sortOf { frames := 0, cells := 0, slots := 0, locals := 0 } [.int a0] (fun r => r = fX5_sortOf a0) := by
  obtain ⟨r, h⟩ : ∃ r, fX5_sortOf a0 = r := ⟨_, rfl⟩
  rw [h]
  refine Si_of (own := RX5) (cc := cX5_sortOf) (nL := 1) (ret := (some .int)) (by decide) rfl rfl (Nat.le_of_ble_eq_true rfl) ?_
  intro p e s m args below meth c hx hb hr hlocks hml hts hown ls hl
  unfold fX5_sortOf at h
  have hl : lv_has ls 1 [(0, .int a0)] := hl
  refine lv_iload_n hx hb dX5_sortOf_0 rfl (lv_at hl 0 rfl) ?_
  refine lv_bipush (v := 97) hx hb dX5_sortOf_1 (by decide) ?_
  refine lv_icmp_lt (tgt := 14) hx hb dX5_sortOf_3 (by decide) (fun c3 => ?_) (fun c3 => ?_)
  · have h := of_it h c3
    refine lv_iload_n hx hb dX5_sortOf_14 rfl (lv_at hl 0 rfl) ?_
    refine lv_bipush (v := 48) hx hb dX5_sortOf_15 (by decide) ?_
    refine lv_icmp_lt (tgt := 30) hx hb dX5_sortOf_17 (by decide) (fun c17 => ?_) (fun c17 => ?_)
    · have h := of_it h c17
      refine lv_iconst (v := 3) hx hb dX5_sortOf_30 (by decide) ?_
      exact S_iret (v := (3 : Int32)) hx hb hr hlocks dX5_sortOf_31 (by rfl) h
    · have h := of_if h c17
      refine lv_iload_n hx hb dX5_sortOf_20 rfl (lv_at hl 0 rfl) ?_
      refine lv_bipush (v := 57) hx hb dX5_sortOf_21 (by decide) ?_
      refine lv_icmp_gt (tgt := 30) hx hb dX5_sortOf_23 (by decide) (fun c23 => ?_) (fun c23 => ?_)
      · have h := of_it h c23
        refine lv_iconst (v := 3) hx hb dX5_sortOf_30 (by decide) ?_
        exact S_iret (v := (3 : Int32)) hx hb hr hlocks dX5_sortOf_31 (by rfl) h
      · have h := of_if h c23
        refine lv_iconst (v := 2) hx hb dX5_sortOf_26 (by decide) ?_
        refine lv_goto (tgt := 31) hx hb dX5_sortOf_27 (by decide) ?_
        exact S_iret (v := (2 : Int32)) hx hb hr hlocks dX5_sortOf_31 (by rfl) h
  · have h := of_if h c3
    refine lv_iload_n hx hb dX5_sortOf_6 rfl (lv_at hl 0 rfl) ?_
    refine lv_bipush (v := 122) hx hb dX5_sortOf_7 (by decide) ?_
    refine lv_icmp_gt (tgt := 14) hx hb dX5_sortOf_9 (by decide) (fun c9 => ?_) (fun c9 => ?_)
    · have h := of_it h c9
      refine lv_iload_n hx hb dX5_sortOf_14 rfl (lv_at hl 0 rfl) ?_
      refine lv_bipush (v := 48) hx hb dX5_sortOf_15 (by decide) ?_
      refine lv_icmp_lt (tgt := 30) hx hb dX5_sortOf_17 (by decide) (fun c17 => ?_) (fun c17 => ?_)
      · have h := of_it h c17
        refine lv_iconst (v := 3) hx hb dX5_sortOf_30 (by decide) ?_
        exact S_iret (v := (3 : Int32)) hx hb hr hlocks dX5_sortOf_31 (by rfl) h
      · have h := of_if h c17
        refine lv_iload_n hx hb dX5_sortOf_20 rfl (lv_at hl 0 rfl) ?_
        refine lv_bipush (v := 57) hx hb dX5_sortOf_21 (by decide) ?_
        refine lv_icmp_gt (tgt := 30) hx hb dX5_sortOf_23 (by decide) (fun c23 => ?_) (fun c23 => ?_)
        · have h := of_it h c23
          refine lv_iconst (v := 3) hx hb dX5_sortOf_30 (by decide) ?_
          exact S_iret (v := (3 : Int32)) hx hb hr hlocks dX5_sortOf_31 (by rfl) h
        · have h := of_if h c23
          refine lv_iconst (v := 2) hx hb dX5_sortOf_26 (by decide) ?_
          refine lv_goto (tgt := 31) hx hb dX5_sortOf_27 (by decide) ?_
          exact S_iret (v := (2 : Int32)) hx hb hr hlocks dX5_sortOf_31 (by rfl) h
    · have h := of_if h c9
      refine lv_iconst (v := 1) hx hb dX5_sortOf_12 (by decide) ?_
      exact S_iret (v := (1 : Int32)) hx hb hr hlocks dX5_sortOf_13 (by rfl) h

def fX5_nextToken_lp8 (n : Nat × Nat) (f0 : Nat) : Nat → CS → Option (CS)
  | 0, _ => none
  | k + 1, S =>
    grd (cD S f0 = 6) (bnd (cI S 122 f0) (fun v9 => bnd (cI S 124 f0) (fun v13 => if v13 ≤ v9 then 
        some S
        else bnd (cI S 122 f0) (fun v21 => cal (fX5_byteAt n S f0 v21) (fun q24 => if q24 = (32 : Int32) then 
          bnd (cI S 122 f0) (fun v34 => bnd (uI S 122 f0 (v34 + (1 : Int32))) (fun S39 => fX5_nextToken_lp8 n f0 k S39))
          else some S)))))
def fX5_nextToken_lp87 (n : Nat × Nat) (f0 : Nat) (f1 : Int32) : Nat → CS → Option (CS)
  | 0, _ => none
  | k + 1, S =>
    if f1 = (3 : Int32) then 
            some S
            else grd (cD S f0 = 6) (bnd (cI S 123 f0) (fun v93 => bnd (cI S 124 f0) (fun v97 => if v97 ≤ v93 then 
              some S
              else bnd (cI S 123 f0) (fun v105 => cal (fX5_byteAt n S f0 v105) (fun q108 => bnd (fX5_sortOf q108) (fun r111 => if r111 = f1 then 
                bnd (cI S 123 f0) (fun v120 => bnd (uI S 123 f0 (v120 + (1 : Int32))) (fun S125 => fX5_nextToken_lp87 n f0 f1 k S125))
                else some S))))))
def fX5_nextToken (n : Nat × Nat) (S : CS) (a0 : Nat) : Option (CS) :=
  grd (cD S a0 = 6) (bnd (cI S 123 a0) (fun v2 => bnd (uI S 122 a0 v2) (fun S5 => cal (fX5_nextToken_lp8 n a0 n.1 S5) (fun S8 => grd (cD S8 a0 = 6) (bnd (cI S8 122 a0) (fun v47 => bnd (uI S8 123 a0 v47) (fun S50 => bnd (cI S50 122 a0) (fun v55 => cal (fX5_byteAt n S50 a0 v55) (fun q58 => bnd (fX5_sortOf q58) (fun r61 => if r61 = (3 : Int32) then 
      bnd (cI S50 122 a0) (fun v72 => bnd (cI S50 124 a0) (fun v78 => bnd (if v78 < (v72 + (1 : Int32)) then v78 else (v72 + (1 : Int32))) (fun r81 => bnd (uI S50 123 a0 r81) (fun S84 => cal (fX5_nextToken_lp87 n a0 r61 n.1 S84) (fun S87 => some S87)))))
      else cal (fX5_nextToken_lp87 n a0 r61 n.1 S50) (fun S87 => some S87)))))))))))
set_option maxHeartbeats 8000000 in
set_option maxRecDepth 100000 in
theorem cX5_nextToken_ok (l : Launch) (D : va_G) (cc : Nat → ClassId) (E : Nat → Nat) (n : Nat × Nat) (S : CS) (a0 : Nat) {T : CS} (h : fX5_nextToken n S a0 = some T) : Cv l yX5_nextToken wsX5_nextToken 1 21 D cc E [.ref a0] S T 0 0 := by
  refine C_of (own := RX5) (bb := cX5_nextToken) (nL := 2) (ret := none) (by decide) rfl rfl (Nat.le_of_ble_eq_true rfl) ?_
  intro p e s m args below meth c hx hb hr hlocks hml hts hown hnm hA hK hro hw ls hl
  generalize va_A (cPs cc S) (nx S) = A at hA hro hw ⊢
  unfold fX5_nextToken at h
  have hinX5 : ∀ w ∈ wsX50, w ∈ wsX5_nextToken := by decide +kernel
  have hl : lv_has ls 2 [(0, .ref a0)] := hl
  refine lv_aload_n hx hb dX5_nextToken_0 rfl (lv_at hl 0 rfl) ?_
  refine lv_aload_n hx hb dX5_nextToken_1 rfl (lv_at hl 0 rfl) ?_
  obtain ⟨hf1, h⟩ := of_grd h
  refine C_get hx hb hts hinX5 hown hK hw (cell_6 hf1) (by omega) rfl 3 (by decide) (index := 26) (by decide +kernel) rfl rfl dX5_nextToken_2 ?_
  refine lv_topi (fun v2 ev2 => ?_)
  have h := of_bnd h ev2
  refine C_put hx hb hts hinX5 tyX5 tyX5_ok nmX5 hown hK hw (cell_6 hf1) (by omega) rfl 2 (by decide) (index := 22) (by decide +kernel) rfl rfl (ty := .int) (by decide +kernel) rfl rfl (Nat.le_of_ble_eq_true rfl) (S' := uI S 122 a0 v2) rfl rfl rfl (pu_122 hf1 v2) (fun b hb => off_uI hb) dX5_nextToken_5 (fun S5 H locs eS5 hw => ?_)
  have h := of_bnd h eS5
  have lp8 : ∀ (f0 : Nat) (k : Nat) (S : CS) (q : CS) , fX5_nextToken_lp8 n f0 k S = some q → ∀ (H : Heap) (locs : List Loc), cWd D cc A s.heap S H locs → ∀ ls : Array Slot, lv_has ls 2 [(0, .ref f0)] → (∀  (S1 : CS), S1 = q → ∀ (H : Heap) (locs : List Loc), cWd D cc A s.heap S1 H locs → ∀ ls : Array Slot, lv_has ls 2 [(0, .ref f0)] → W p l e (cRm 1 21 0 0) s m args below meth c H locs (0) (0) (MQ below (va_Qv (fun u => u = T) (cAft D cc A) A) args s 0 0 A) (F0 m 45 ls [])) → W p l e (cRm 1 21 0 0) s m args below meth c H locs (0) (0) (MQ below (va_Qv (fun u => u = T) (cAft D cc A) A) args s 0 0 A) (F0 m 8 ls []) := by
    intro f0 k
    induction k with
    | zero => intro S q h; rw [fX5_nextToken_lp8] at h; cases h
    | succ k ih8 =>
      intro S q h H locs hw ls hl kx8_0
      rw [fX5_nextToken_lp8] at h
      refine lv_aload_n hx hb dX5_nextToken_8 rfl (lv_at hl 0 rfl) ?_
      obtain ⟨hf2, h⟩ := of_grd h
      refine C_get hx hb hts hinX5 hown hK hw (cell_6 hf2) (by omega) rfl 2 (by decide) (index := 22) (by decide +kernel) rfl rfl dX5_nextToken_9 ?_
      refine lv_topi (fun v9 ev9 => ?_)
      have h := of_bnd h ev9
      refine lv_aload_n hx hb dX5_nextToken_12 rfl (lv_at hl 0 rfl) ?_
      refine C_get hx hb hts hinX5 hown hK hw (cell_6 hf2) (by omega) rfl 4 (by decide) (index := 29) (by decide +kernel) rfl rfl dX5_nextToken_13 ?_
      refine lv_topi (fun v13 ev13 => ?_)
      have h := of_bnd h ev13
      refine lv_icmp_ge (tgt := 45) hx hb dX5_nextToken_16 (by decide) (fun c16 => ?_) (fun c16 => ?_)
      · have h := of_it h c16
        exact kx8_0 S (Option.some.inj h) _ _ hw ls (lv_sub hl [0] rfl)
      · have h := of_if h c16
        refine lv_aload_n hx hb dX5_nextToken_19 rfl (lv_at hl 0 rfl) ?_
        refine lv_aload_n hx hb dX5_nextToken_20 rfl (lv_at hl 0 rfl) ?_
        refine C_get hx hb hts hinX5 hown hK hw (cell_6 hf2) (by omega) rfl 2 (by decide) (index := 22) (by decide +kernel) rfl rfl dX5_nextToken_21 ?_
        refine lv_topi (fun v21 ev21 => ?_)
        have h := of_bnd h ev21
        obtain ⟨q24, hq24, h⟩ := of_cal h
        refine C_i hA hw (va_runV (As := [.int v21]) (rest := []) ⟨hx, hb, hml, hown, hts⟩ (cX5_byteAt_ok l D cc E n S f0 v21 hq24) (cwV 1 hts gX5_nextToken_X5_byteAt rfl rfl rfl (by decide +kernel) ⟨Nat.le_of_ble_eq_true rfl, Nat.le_of_ble_eq_true rfl⟩) ⟨cBlind D cc E S _, C_recv hK hw (by omega) (cell_6 hf2) (r := (RX5, TX5, 6)) rfl, fun U hU hW => ⟨rfl, C_pre hA hK hro hw U hU hW⟩⟩ rfl rfl hl.1 rfl (lv_room (Nat.le_of_ble_eq_true rfl)) dX5_nextToken_24 ⟨Nat.le_refl _, Nat.le_refl _⟩) (fun H locs hw => ?_)
        refine W.widen (k := 0) (n := 0) (Nat.le_refl _) (Nat.le_refl _) ?_
        refine lv_bipush (v := 32) hx hb dX5_nextToken_27 (by decide) ?_
        refine lv_icmp_ne (tgt := 45) hx hb dX5_nextToken_29 (by decide) (fun c29 => ?_) (fun c29 => ?_)
        · have h := of_if h c29
          exact kx8_0 S (Option.some.inj h) _ _ hw ls (lv_sub hl [0] rfl)
        · have h := of_it h c29
          refine lv_aload_n hx hb dX5_nextToken_32 rfl (lv_at hl 0 rfl) ?_
          refine lv_dup hx hb dX5_nextToken_33 rfl ?_
          refine C_get hx hb hts hinX5 hown hK hw (cell_6 hf2) (by omega) rfl 2 (by decide) (index := 22) (by decide +kernel) rfl rfl dX5_nextToken_34 ?_
          refine lv_topi (fun v34 ev34 => ?_)
          have h := of_bnd h ev34
          refine lv_iconst (v := 1) hx hb dX5_nextToken_37 (by decide) ?_
          refine lv_iadd hx hb dX5_nextToken_38 ?_
          refine C_put hx hb hts hinX5 tyX5 tyX5_ok nmX5 hown hK hw (cell_6 hf2) (by omega) rfl 2 (by decide) (index := 22) (by decide +kernel) rfl rfl (ty := .int) (by decide +kernel) rfl rfl (Nat.le_of_ble_eq_true rfl) (S' := uI S 122 f0 (v34 + (1 : Int32))) rfl rfl rfl (pu_122 hf2 (v34 + (1 : Int32))) (fun b hb => off_uI hb) dX5_nextToken_39 (fun S39 H locs eS39 hw => ?_)
          have h := of_bnd h eS39
          refine lv_goto (tgt := 8) hx hb dX5_nextToken_42 (by decide) ?_
          exact ih8 S39 _ h _ _ hw ls (lv_sub hl [0] rfl) kx8_0
  obtain ⟨q8, hq8, h⟩ := of_cal h
  refine lp8 a0 n.1 S5 q8  hq8 _ _ hw ls (lv_sub hl [0] rfl) ?_
  · intro S8 eq H locs hw ls hl
    subst eq
    refine lv_aload_n hx hb dX5_nextToken_45 rfl (lv_at hl 0 rfl) ?_
    refine lv_aload_n hx hb dX5_nextToken_46 rfl (lv_at hl 0 rfl) ?_
    obtain ⟨hf3, h⟩ := of_grd h
    refine C_get hx hb hts hinX5 hown hK hw (cell_6 hf3) (by omega) rfl 2 (by decide) (index := 22) (by decide +kernel) rfl rfl dX5_nextToken_47 ?_
    refine lv_topi (fun v47 ev47 => ?_)
    have h := of_bnd h ev47
    refine C_put hx hb hts hinX5 tyX5 tyX5_ok nmX5 hown hK hw (cell_6 hf3) (by omega) rfl 3 (by decide) (index := 26) (by decide +kernel) rfl rfl (ty := .int) (by decide +kernel) rfl rfl (Nat.le_of_ble_eq_true rfl) (S' := uI S8 123 a0 v47) rfl rfl rfl (pu_123 hf3 v47) (fun b hb => off_uI hb) dX5_nextToken_50 (fun S50 H locs eS50 hw => ?_)
    have h := of_bnd h eS50
    refine lv_aload_n hx hb dX5_nextToken_53 rfl (lv_at hl 0 rfl) ?_
    refine lv_aload_n hx hb dX5_nextToken_54 rfl (lv_at hl 0 rfl) ?_
    have hf4 : cD S50 a0 = 6 := by rw [eS50]; exact hf3
    refine C_get hx hb hts hinX5 hown hK hw (cell_6 hf4) (by omega) rfl 2 (by decide) (index := 22) (by decide +kernel) rfl rfl dX5_nextToken_55 ?_
    refine lv_topi (fun v55 ev55 => ?_)
    have h := of_bnd h ev55
    obtain ⟨q58, hq58, h⟩ := of_cal h
    refine C_i hA hw (va_runV (As := [.int v55]) (rest := []) ⟨hx, hb, hml, hown, hts⟩ (cX5_byteAt_ok l D cc E n S50 a0 v55 hq58) (cwV 1 hts gX5_nextToken_X5_byteAt rfl rfl rfl (by decide +kernel) ⟨Nat.le_of_ble_eq_true rfl, Nat.le_of_ble_eq_true rfl⟩) ⟨cBlind D cc E S50 _, C_recv hK hw (by omega) (cell_6 hf4) (r := (RX5, TX5, 6)) rfl, fun U hU hW => ⟨rfl, C_pre hA hK hro hw U hU hW⟩⟩ rfl rfl hl.1 rfl (lv_room (Nat.le_of_ble_eq_true rfl)) dX5_nextToken_58 ⟨Nat.le_refl _, Nat.le_refl _⟩) (fun H locs hw => ?_)
    refine W.widen (k := 0) (n := 0) (Nat.le_refl _) (Nat.le_refl _) ?_
    refine C_s (va_runS (As := [.int q58]) (rest := []) ⟨hx, hb, hml, hown, hts⟩ (cX5_sortOf_ok l q58) (va_cwS 1 hts gX5_nextToken_X5_sortOf rfl rfl rfl (by decide +kernel) ⟨Nat.le_of_ble_eq_true rfl, Nat.le_of_ble_eq_true rfl⟩) ⟨fun a U g mk q => ⟨q.1, trivial⟩, fun U hU hW => ⟨rfl, trivial⟩⟩ rfl rfl hl.1 rfl (lv_room (Nat.le_of_ble_eq_true rfl)) dX5_nextToken_61 ⟨Nat.le_refl _, Nat.le_refl _⟩) (fun r61 er61 => ?_)
    have h := of_bnd h er61
    refine lv_istore_n (lv' := [(1, .int r61), (0, .ref a0)]) hx hb dX5_nextToken_64 rfl hl (by decide) rfl (fun ls hl => ?_)
    refine lv_iload_n hx hb dX5_nextToken_65 rfl (lv_at hl 0 rfl) ?_
    refine lv_iconst (v := 3) hx hb dX5_nextToken_66 (by decide) ?_
    refine lv_icmp_ne (tgt := 87) hx hb dX5_nextToken_67 (by decide) (fun c67 => ?_) (fun c67 => ?_)
    · have h := of_if h c67
      have lp87 : ∀ (f0 : Nat) (f1 : Int32) (k : Nat) (S : CS) (q : CS) , fX5_nextToken_lp87 n f0 f1 k S = some q → ∀ (H : Heap) (locs : List Loc), cWd D cc A s.heap S H locs → ∀ ls : Array Slot, lv_has ls 2 [(0, .ref f0), (1, .int f1)] → (∀  (S1 : CS), S1 = q → ∀ (H : Heap) (locs : List Loc), cWd D cc A s.heap S1 H locs → ∀ ls : Array Slot, lv_has ls 2 [] → W p l e (cRm 1 21 0 0) s m args below meth c H locs (0) (0) (MQ below (va_Qv (fun u => u = T) (cAft D cc A) A) args s 0 0 A) (F0 m 131 ls [])) → W p l e (cRm 1 21 0 0) s m args below meth c H locs (0) (0) (MQ below (va_Qv (fun u => u = T) (cAft D cc A) A) args s 0 0 A) (F0 m 87 ls []) := by
        intro f0 f1 k
        induction k with
        | zero => intro S q h; rw [fX5_nextToken_lp87] at h; cases h
        | succ k ih87 =>
          intro S q h H locs hw ls hl kx87_0
          rw [fX5_nextToken_lp87] at h
          refine lv_iload_n hx hb dX5_nextToken_87 rfl (lv_at hl 1 rfl) ?_
          refine lv_iconst (v := 3) hx hb dX5_nextToken_88 (by decide) ?_
          refine lv_icmp_eq (tgt := 131) hx hb dX5_nextToken_89 (by decide) (fun c89 => ?_) (fun c89 => ?_)
          · have h := of_it h c89
            exact kx87_0 S (Option.some.inj h) _ _ hw ls (lv_sub hl [] rfl)
          · have h := of_if h c89
            refine lv_aload_n hx hb dX5_nextToken_92 rfl (lv_at hl 0 rfl) ?_
            obtain ⟨hf5, h⟩ := of_grd h
            refine C_get hx hb hts hinX5 hown hK hw (cell_6 hf5) (by omega) rfl 3 (by decide) (index := 26) (by decide +kernel) rfl rfl dX5_nextToken_93 ?_
            refine lv_topi (fun v93 ev93 => ?_)
            have h := of_bnd h ev93
            refine lv_aload_n hx hb dX5_nextToken_96 rfl (lv_at hl 0 rfl) ?_
            refine C_get hx hb hts hinX5 hown hK hw (cell_6 hf5) (by omega) rfl 4 (by decide) (index := 29) (by decide +kernel) rfl rfl dX5_nextToken_97 ?_
            refine lv_topi (fun v97 ev97 => ?_)
            have h := of_bnd h ev97
            refine lv_icmp_ge (tgt := 131) hx hb dX5_nextToken_100 (by decide) (fun c100 => ?_) (fun c100 => ?_)
            · have h := of_it h c100
              exact kx87_0 S (Option.some.inj h) _ _ hw ls (lv_sub hl [] rfl)
            · have h := of_if h c100
              refine lv_aload_n hx hb dX5_nextToken_103 rfl (lv_at hl 0 rfl) ?_
              refine lv_aload_n hx hb dX5_nextToken_104 rfl (lv_at hl 0 rfl) ?_
              refine C_get hx hb hts hinX5 hown hK hw (cell_6 hf5) (by omega) rfl 3 (by decide) (index := 26) (by decide +kernel) rfl rfl dX5_nextToken_105 ?_
              refine lv_topi (fun v105 ev105 => ?_)
              have h := of_bnd h ev105
              obtain ⟨q108, hq108, h⟩ := of_cal h
              refine C_i hA hw (va_runV (As := [.int v105]) (rest := []) ⟨hx, hb, hml, hown, hts⟩ (cX5_byteAt_ok l D cc E n S f0 v105 hq108) (cwV 1 hts gX5_nextToken_X5_byteAt rfl rfl rfl (by decide +kernel) ⟨Nat.le_of_ble_eq_true rfl, Nat.le_of_ble_eq_true rfl⟩) ⟨cBlind D cc E S _, C_recv hK hw (by omega) (cell_6 hf5) (r := (RX5, TX5, 6)) rfl, fun U hU hW => ⟨rfl, C_pre hA hK hro hw U hU hW⟩⟩ rfl rfl hl.1 rfl (lv_room (Nat.le_of_ble_eq_true rfl)) dX5_nextToken_108 ⟨Nat.le_refl _, Nat.le_refl _⟩) (fun H locs hw => ?_)
              refine W.widen (k := 0) (n := 0) (Nat.le_refl _) (Nat.le_refl _) ?_
              refine C_s (va_runS (As := [.int q108]) (rest := []) ⟨hx, hb, hml, hown, hts⟩ (cX5_sortOf_ok l q108) (va_cwS 1 hts gX5_nextToken_X5_sortOf rfl rfl rfl (by decide +kernel) ⟨Nat.le_of_ble_eq_true rfl, Nat.le_of_ble_eq_true rfl⟩) ⟨fun a U g mk q => ⟨q.1, trivial⟩, fun U hU hW => ⟨rfl, trivial⟩⟩ rfl rfl hl.1 rfl (lv_room (Nat.le_of_ble_eq_true rfl)) dX5_nextToken_111 ⟨Nat.le_refl _, Nat.le_refl _⟩) (fun r111 er111 => ?_)
              have h := of_bnd h er111
              refine lv_iload_n hx hb dX5_nextToken_114 rfl (lv_at hl 1 rfl) ?_
              refine lv_icmp_ne (tgt := 131) hx hb dX5_nextToken_115 (by decide) (fun c115 => ?_) (fun c115 => ?_)
              · have h := of_if h c115
                exact kx87_0 S (Option.some.inj h) _ _ hw ls (lv_sub hl [] rfl)
              · have h := of_it h c115
                refine lv_aload_n hx hb dX5_nextToken_118 rfl (lv_at hl 0 rfl) ?_
                refine lv_dup hx hb dX5_nextToken_119 rfl ?_
                refine C_get hx hb hts hinX5 hown hK hw (cell_6 hf5) (by omega) rfl 3 (by decide) (index := 26) (by decide +kernel) rfl rfl dX5_nextToken_120 ?_
                refine lv_topi (fun v120 ev120 => ?_)
                have h := of_bnd h ev120
                refine lv_iconst (v := 1) hx hb dX5_nextToken_123 (by decide) ?_
                refine lv_iadd hx hb dX5_nextToken_124 ?_
                refine C_put hx hb hts hinX5 tyX5 tyX5_ok nmX5 hown hK hw (cell_6 hf5) (by omega) rfl 3 (by decide) (index := 26) (by decide +kernel) rfl rfl (ty := .int) (by decide +kernel) rfl rfl (Nat.le_of_ble_eq_true rfl) (S' := uI S 123 f0 (v120 + (1 : Int32))) rfl rfl rfl (pu_123 hf5 (v120 + (1 : Int32))) (fun b hb => off_uI hb) dX5_nextToken_125 (fun S125 H locs eS125 hw => ?_)
                have h := of_bnd h eS125
                refine lv_goto (tgt := 87) hx hb dX5_nextToken_128 (by decide) ?_
                exact ih87 S125 _ h _ _ hw ls (lv_sub hl [0, 1] rfl) kx87_0
      obtain ⟨q87, hq87, h⟩ := of_cal h
      refine lp87 a0 r61 n.1 S50 q87  hq87 _ _ hw ls (lv_sub hl [1, 0] rfl) ?_
      · intro S87 eq H locs hw ls hl
        subst eq
        obtain rfl := Option.some.inj h
        exact C_vret hx hb hr hlocks hw dX5_nextToken_131
    · have h := of_it h c67
      refine lv_aload_n hx hb dX5_nextToken_70 rfl (lv_at hl 1 rfl) ?_
      refine lv_aload_n hx hb dX5_nextToken_71 rfl (lv_at hl 1 rfl) ?_
      refine C_get hx hb hts hinX5 hown hK hw (cell_6 hf4) (by omega) rfl 2 (by decide) (index := 22) (by decide +kernel) rfl rfl dX5_nextToken_72 ?_
      refine lv_topi (fun v72 ev72 => ?_)
      have h := of_bnd h ev72
      refine lv_iconst (v := 1) hx hb dX5_nextToken_75 (by decide) ?_
      refine lv_iadd hx hb dX5_nextToken_76 ?_
      refine lv_aload_n hx hb dX5_nextToken_77 rfl (lv_at hl 1 rfl) ?_
      refine C_get hx hb hts hinX5 hown hK hw (cell_6 hf4) (by omega) rfl 4 (by decide) (index := 29) (by decide +kernel) rfl rfl dX5_nextToken_78 ?_
      refine lv_topi (fun v78 ev78 => ?_)
      have h := of_bnd h ev78
      refine va_mmin (rest := [.ref a0]) hx hb (hml.trans hl.1.symm) hown (hts (.methodLink RX5 95 Lib.Math.min.name) (by decide +kernel)) (hts (.static Lib.Math.min.name) (by decide +kernel)) (hts (.initialized "java/lang/Math") (by decide +kernel)) (hts (.code Lib.Math.min.name Lib.Math.min.code 2 (some .int)) (by decide +kernel)) (Nat.le_of_ble_eq_true rfl) (Nat.le_of_ble_eq_true rfl) (Nat.zero_le _) (Nat.zero_le _) dX5_nextToken_81 ?_
      refine lv_topi (fun r81 er81 => ?_)
      have h := of_bnd h er81
      refine C_put hx hb hts hinX5 tyX5 tyX5_ok nmX5 hown hK hw (cell_6 hf4) (by omega) rfl 3 (by decide) (index := 26) (by decide +kernel) rfl rfl (ty := .int) (by decide +kernel) rfl rfl (Nat.le_of_ble_eq_true rfl) (S' := uI S50 123 a0 r81) rfl rfl rfl (pu_123 hf4 r81) (fun b hb => off_uI hb) dX5_nextToken_84 (fun S84 H locs eS84 hw => ?_)
      have h := of_bnd h eS84
      have lp87 : ∀ (f0 : Nat) (f1 : Int32) (k : Nat) (S : CS) (q : CS) , fX5_nextToken_lp87 n f0 f1 k S = some q → ∀ (H : Heap) (locs : List Loc), cWd D cc A s.heap S H locs → ∀ ls : Array Slot, lv_has ls 2 [(0, .ref f0), (1, .int f1)] → (∀  (S1 : CS), S1 = q → ∀ (H : Heap) (locs : List Loc), cWd D cc A s.heap S1 H locs → ∀ ls : Array Slot, lv_has ls 2 [] → W p l e (cRm 1 21 0 0) s m args below meth c H locs (0) (0) (MQ below (va_Qv (fun u => u = T) (cAft D cc A) A) args s 0 0 A) (F0 m 131 ls [])) → W p l e (cRm 1 21 0 0) s m args below meth c H locs (0) (0) (MQ below (va_Qv (fun u => u = T) (cAft D cc A) A) args s 0 0 A) (F0 m 87 ls []) := by
        intro f0 f1 k
        induction k with
        | zero => intro S q h; rw [fX5_nextToken_lp87] at h; cases h
        | succ k ih87 =>
          intro S q h H locs hw ls hl kx87_0
          rw [fX5_nextToken_lp87] at h
          refine lv_iload_n hx hb dX5_nextToken_87 rfl (lv_at hl 1 rfl) ?_
          refine lv_iconst (v := 3) hx hb dX5_nextToken_88 (by decide) ?_
          refine lv_icmp_eq (tgt := 131) hx hb dX5_nextToken_89 (by decide) (fun c89 => ?_) (fun c89 => ?_)
          · have h := of_it h c89
            exact kx87_0 S (Option.some.inj h) _ _ hw ls (lv_sub hl [] rfl)
          · have h := of_if h c89
            refine lv_aload_n hx hb dX5_nextToken_92 rfl (lv_at hl 0 rfl) ?_
            obtain ⟨hf6, h⟩ := of_grd h
            refine C_get hx hb hts hinX5 hown hK hw (cell_6 hf6) (by omega) rfl 3 (by decide) (index := 26) (by decide +kernel) rfl rfl dX5_nextToken_93 ?_
            refine lv_topi (fun v93 ev93 => ?_)
            have h := of_bnd h ev93
            refine lv_aload_n hx hb dX5_nextToken_96 rfl (lv_at hl 0 rfl) ?_
            refine C_get hx hb hts hinX5 hown hK hw (cell_6 hf6) (by omega) rfl 4 (by decide) (index := 29) (by decide +kernel) rfl rfl dX5_nextToken_97 ?_
            refine lv_topi (fun v97 ev97 => ?_)
            have h := of_bnd h ev97
            refine lv_icmp_ge (tgt := 131) hx hb dX5_nextToken_100 (by decide) (fun c100 => ?_) (fun c100 => ?_)
            · have h := of_it h c100
              exact kx87_0 S (Option.some.inj h) _ _ hw ls (lv_sub hl [] rfl)
            · have h := of_if h c100
              refine lv_aload_n hx hb dX5_nextToken_103 rfl (lv_at hl 0 rfl) ?_
              refine lv_aload_n hx hb dX5_nextToken_104 rfl (lv_at hl 0 rfl) ?_
              refine C_get hx hb hts hinX5 hown hK hw (cell_6 hf6) (by omega) rfl 3 (by decide) (index := 26) (by decide +kernel) rfl rfl dX5_nextToken_105 ?_
              refine lv_topi (fun v105 ev105 => ?_)
              have h := of_bnd h ev105
              obtain ⟨q108, hq108, h⟩ := of_cal h
              refine C_i hA hw (va_runV (As := [.int v105]) (rest := []) ⟨hx, hb, hml, hown, hts⟩ (cX5_byteAt_ok l D cc E n S f0 v105 hq108) (cwV 1 hts gX5_nextToken_X5_byteAt rfl rfl rfl (by decide +kernel) ⟨Nat.le_of_ble_eq_true rfl, Nat.le_of_ble_eq_true rfl⟩) ⟨cBlind D cc E S _, C_recv hK hw (by omega) (cell_6 hf6) (r := (RX5, TX5, 6)) rfl, fun U hU hW => ⟨rfl, C_pre hA hK hro hw U hU hW⟩⟩ rfl rfl hl.1 rfl (lv_room (Nat.le_of_ble_eq_true rfl)) dX5_nextToken_108 ⟨Nat.le_refl _, Nat.le_refl _⟩) (fun H locs hw => ?_)
              refine W.widen (k := 0) (n := 0) (Nat.le_refl _) (Nat.le_refl _) ?_
              refine C_s (va_runS (As := [.int q108]) (rest := []) ⟨hx, hb, hml, hown, hts⟩ (cX5_sortOf_ok l q108) (va_cwS 1 hts gX5_nextToken_X5_sortOf rfl rfl rfl (by decide +kernel) ⟨Nat.le_of_ble_eq_true rfl, Nat.le_of_ble_eq_true rfl⟩) ⟨fun a U g mk q => ⟨q.1, trivial⟩, fun U hU hW => ⟨rfl, trivial⟩⟩ rfl rfl hl.1 rfl (lv_room (Nat.le_of_ble_eq_true rfl)) dX5_nextToken_111 ⟨Nat.le_refl _, Nat.le_refl _⟩) (fun r111 er111 => ?_)
              have h := of_bnd h er111
              refine lv_iload_n hx hb dX5_nextToken_114 rfl (lv_at hl 1 rfl) ?_
              refine lv_icmp_ne (tgt := 131) hx hb dX5_nextToken_115 (by decide) (fun c115 => ?_) (fun c115 => ?_)
              · have h := of_if h c115
                exact kx87_0 S (Option.some.inj h) _ _ hw ls (lv_sub hl [] rfl)
              · have h := of_it h c115
                refine lv_aload_n hx hb dX5_nextToken_118 rfl (lv_at hl 0 rfl) ?_
                refine lv_dup hx hb dX5_nextToken_119 rfl ?_
                refine C_get hx hb hts hinX5 hown hK hw (cell_6 hf6) (by omega) rfl 3 (by decide) (index := 26) (by decide +kernel) rfl rfl dX5_nextToken_120 ?_
                refine lv_topi (fun v120 ev120 => ?_)
                have h := of_bnd h ev120
                refine lv_iconst (v := 1) hx hb dX5_nextToken_123 (by decide) ?_
                refine lv_iadd hx hb dX5_nextToken_124 ?_
                refine C_put hx hb hts hinX5 tyX5 tyX5_ok nmX5 hown hK hw (cell_6 hf6) (by omega) rfl 3 (by decide) (index := 26) (by decide +kernel) rfl rfl (ty := .int) (by decide +kernel) rfl rfl (Nat.le_of_ble_eq_true rfl) (S' := uI S 123 f0 (v120 + (1 : Int32))) rfl rfl rfl (pu_123 hf6 (v120 + (1 : Int32))) (fun b hb => off_uI hb) dX5_nextToken_125 (fun S125 H locs eS125 hw => ?_)
                have h := of_bnd h eS125
                refine lv_goto (tgt := 87) hx hb dX5_nextToken_128 (by decide) ?_
                exact ih87 S125 _ h _ _ hw ls (lv_sub hl [0, 1] rfl) kx87_0
      obtain ⟨q87, hq87, h⟩ := of_cal h
      refine lp87 a0 r61 n.1 S84 q87  hq87 _ _ hw ls (lv_sub hl [1, 0] rfl) ?_
      · intro S87 eq H locs hw ls hl
        subst eq
        obtain rfl := Option.some.inj h
        exact C_vret hx hb hr hlocks hw dX5_nextToken_131

def fX5_nextNumber_lp28 (n : Nat × Nat) (S : CS) (f0 : Nat) (f1 : Int32) : Nat → Int32 → Int32 → Option (Nat × Int32)
  | 0, _, _ => none
  | k + 1, l2, l3 =>
    grd (cD S f0 = 6) (bnd (cI S 123 f0) (fun v30 => if v30 ≤ l3 then 
          some (1, l2)
          else cal (fX5_byteAt n S f0 l3) (fun q42 => bnd (((l2 * (10 : Int32)) + q42) - (48 : Int32)) (fun x49 => if x49 ≤ f1 then 
            bnd (l3 + 1) (fun x57 => fX5_nextNumber_lp28 n S f0 f1 k x49 x57 )
            else some (0, x49)))))
def fX5_nextNumber (n : Nat × Nat) (S : CS) (a0 : Nat) (a1 : Int32) : Option (Int32 × CS) :=
  grd (cD S a0 = 6) (cal (fX5_nextToken n S a0) (fun S1 => grd (cD S1 a0 = 6) (bnd (cI S1 122 a0) (fun v6 => cal (fX5_byteAt n S1 a0 v6) (fun q9 => bnd (fX5_sortOf q9) (fun r12 => if r12 = (2 : Int32) then 
    bnd (0 : Int32) (fun x22 => bnd (cI S1 122 a0) (fun v24 => cal (fX5_nextNumber_lp28 n S1 a0 a1 n.1 x22 v24 ) (un2 fun e28 t2_28 => if e28 = 0 then some ((-1 : Int32), S1) else some (t2_28, S1))))
    else some ((-1 : Int32), S1)))))))
set_option maxHeartbeats 8000000 in
set_option maxRecDepth 100000 in
theorem cX5_nextNumber_ok (l : Launch) (D : va_G) (cc : Nat → ClassId) (E : Nat → Nat) (n : Nat × Nat) (S : CS) (a0 : Nat) (a1 : Int32) {r : Int32} {T : CS} (h : fX5_nextNumber n S a0 a1 = some (r, T)) : Ci l yX5_nextNumber wsX5_nextNumber 2 42 D cc E [.ref a0, .int a1] S r T 0 0 := by
  refine C_of (own := RX5) (bb := cX5_nextNumber) (nL := 4) (ret := (some .int)) (by decide) rfl rfl (Nat.le_of_ble_eq_true rfl) ?_
  intro p e s m args below meth c hx hb hr hlocks hml hts hown hnm hA hK hro hw ls hl
  generalize va_A (cPs cc S) (nx S) = A at hA hro hw ⊢
  unfold fX5_nextNumber at h
  have hinX5 : ∀ w ∈ wsX50, w ∈ wsX5_nextNumber := by decide +kernel
  have hl : lv_has ls 4 [(0, .ref a0), (1, .int a1)] := hl
  refine lv_aload_n hx hb dX5_nextNumber_0 rfl (lv_at hl 0 rfl) ?_
  obtain ⟨hf1, h⟩ := of_grd h
  obtain ⟨q1, hq1, h⟩ := of_cal h
  obtain ⟨S1, eS1⟩ : ∃ x, x = q1 := ⟨_, rfl⟩
  subst eS1
  refine C_v hA hw (va_runV (As := []) (rest := []) ⟨hx, hb, hml, hown, hts⟩ (cX5_nextToken_ok l D cc E n S a0 hq1) (cwV 0 hts gX5_nextNumber_X5_nextToken rfl rfl rfl (by decide +kernel) ⟨Nat.le_of_ble_eq_true rfl, Nat.le_of_ble_eq_true rfl⟩) ⟨cBlind D cc E S _, C_recv hK hw (by omega) (cell_6 hf1) (r := (RX5, TX5, 6)) rfl, fun U hU hW => ⟨rfl, C_pre hA hK hro hw U hU hW⟩⟩ rfl rfl hl.1 rfl (lv_room (Nat.le_of_ble_eq_true rfl)) dX5_nextNumber_1 ⟨Nat.le_refl _, Nat.le_refl _⟩) (fun H locs hw => ?_)
  refine W.widen (k := 0) (n := 0) (Nat.le_refl _) (Nat.le_refl _) ?_
  refine lv_aload_n hx hb dX5_nextNumber_4 rfl (lv_at hl 0 rfl) ?_
  refine lv_aload_n hx hb dX5_nextNumber_5 rfl (lv_at hl 0 rfl) ?_
  obtain ⟨hf2, h⟩ := of_grd h
  refine C_get hx hb hts hinX5 hown hK hw (cell_6 hf2) (by omega) rfl 2 (by decide) (index := 22) (by decide +kernel) rfl rfl dX5_nextNumber_6 ?_
  refine lv_topi (fun v6 ev6 => ?_)
  have h := of_bnd h ev6
  obtain ⟨q9, hq9, h⟩ := of_cal h
  refine C_i hA hw (va_runV (As := [.int v6]) (rest := []) ⟨hx, hb, hml, hown, hts⟩ (cX5_byteAt_ok l D cc E n S1 a0 v6 hq9) (cwV 1 hts gX5_nextNumber_X5_byteAt rfl rfl rfl (by decide +kernel) ⟨Nat.le_of_ble_eq_true rfl, Nat.le_of_ble_eq_true rfl⟩) ⟨cBlind D cc E S1 _, C_recv hK hw (by omega) (cell_6 hf2) (r := (RX5, TX5, 6)) rfl, fun U hU hW => ⟨rfl, C_pre hA hK hro hw U hU hW⟩⟩ rfl rfl hl.1 rfl (lv_room (Nat.le_of_ble_eq_true rfl)) dX5_nextNumber_9 ⟨Nat.le_refl _, Nat.le_refl _⟩) (fun H locs hw => ?_)
  refine W.widen (k := 0) (n := 0) (Nat.le_refl _) (Nat.le_refl _) ?_
  refine C_s (va_runS (As := [.int q9]) (rest := []) ⟨hx, hb, hml, hown, hts⟩ (cX5_sortOf_ok l q9) (va_cwS 1 hts gX5_nextNumber_X5_sortOf rfl rfl rfl (by decide +kernel) ⟨Nat.le_of_ble_eq_true rfl, Nat.le_of_ble_eq_true rfl⟩) ⟨fun a U g mk q => ⟨q.1, trivial⟩, fun U hU hW => ⟨rfl, trivial⟩⟩ rfl rfl hl.1 rfl (lv_room (Nat.le_of_ble_eq_true rfl)) dX5_nextNumber_12 ⟨Nat.le_refl _, Nat.le_refl _⟩) (fun r12 er12 => ?_)
  have h := of_bnd h er12
  refine lv_iconst (v := 2) hx hb dX5_nextNumber_15 (by decide) ?_
  refine lv_icmp_eq (tgt := 21) hx hb dX5_nextNumber_16 (by decide) (fun c16 => ?_) (fun c16 => ?_)
  · have h := of_it h c16
    refine lv_iconst (v := 0) hx hb dX5_nextNumber_21 (by decide) ?_
    refine lv_topi (fun x22 ex22 => ?_)
    have h := of_bnd h ex22
    refine lv_istore_n (lv' := [(2, .int x22), (0, .ref a0), (1, .int a1)]) hx hb dX5_nextNumber_22 rfl hl (by decide) rfl (fun ls hl => ?_)
    refine lv_aload_n hx hb dX5_nextNumber_23 rfl (lv_at hl 1 rfl) ?_
    refine C_get hx hb hts hinX5 hown hK hw (cell_6 hf2) (by omega) rfl 2 (by decide) (index := 22) (by decide +kernel) rfl rfl dX5_nextNumber_24 ?_
    refine lv_topi (fun v24 ev24 => ?_)
    have h := of_bnd h ev24
    refine lv_istore_n (lv' := [(3, .int v24), (2, .int x22), (0, .ref a0), (1, .int a1)]) hx hb dX5_nextNumber_27 rfl hl (by decide) rfl (fun ls hl => ?_)
    have lp28 : ∀ (f0 : Nat) (f1 : Int32) (S : CS) (k : Nat) (l2 : Int32) (l3 : Int32) (q : Nat × Int32) , fX5_nextNumber_lp28 n S f0 f1 k l2 l3  = some q → ∀ (H : Heap) (locs : List Loc), cWd D cc A s.heap S H locs → ∀ ls : Array Slot, lv_has ls 4 [(0, .ref f0), (1, .int f1), (2, .int l2), (3, .int l3)] → (∀ (t2 : Int32), (0, t2) = q → ∀ (H : Heap) (locs : List Loc), cWd D cc A s.heap S H locs → ∀ ls : Array Slot, lv_has ls 4 [] → W p l e (cRm 2 42 0 0) s m args below meth c H locs (0) (0) (MQ below (va_Qi (fun x u => x = r ∧ u = T) (cAft D cc A) A) args s 0 0 A) (F0 m 55 ls [])) → (∀ (t2 : Int32), (1, t2) = q → ∀ (H : Heap) (locs : List Loc), cWd D cc A s.heap S H locs → ∀ ls : Array Slot, lv_has ls 4 [(2, .int t2)] → W p l e (cRm 2 42 0 0) s m args below meth c H locs (0) (0) (MQ below (va_Qi (fun x u => x = r ∧ u = T) (cAft D cc A) A) args s 0 0 A) (F0 m 63 ls [])) → W p l e (cRm 2 42 0 0) s m args below meth c H locs (0) (0) (MQ below (va_Qi (fun x u => x = r ∧ u = T) (cAft D cc A) A) args s 0 0 A) (F0 m 28 ls []) := by
      intro f0 f1 S k
      induction k with
      | zero => intro l2 l3 q h; rw [fX5_nextNumber_lp28] at h; cases h
      | succ k ih28 =>
        intro l2 l3 q h H locs hw ls hl kx28_0 kx28_1
        rw [fX5_nextNumber_lp28] at h
        refine lv_iload_n hx hb dX5_nextNumber_28 rfl (lv_at hl 3 rfl) ?_
        refine lv_aload_n hx hb dX5_nextNumber_29 rfl (lv_at hl 0 rfl) ?_
        obtain ⟨hf3, h⟩ := of_grd h
        refine C_get hx hb hts hinX5 hown hK hw (cell_6 hf3) (by omega) rfl 3 (by decide) (index := 26) (by decide +kernel) rfl rfl dX5_nextNumber_30 ?_
        refine lv_topi (fun v30 ev30 => ?_)
        have h := of_bnd h ev30
        refine lv_icmp_ge (tgt := 63) hx hb dX5_nextNumber_33 (by decide) (fun c33 => ?_) (fun c33 => ?_)
        · have h := of_it h c33
          exact kx28_1 l2 (Option.some.inj h) _ _ hw ls (lv_sub hl [2] rfl)
        · have h := of_if h c33
          refine lv_iload_n hx hb dX5_nextNumber_36 rfl (lv_at hl 2 rfl) ?_
          refine lv_bipush (v := 10) hx hb dX5_nextNumber_37 (by decide) ?_
          refine lv_imul hx hb dX5_nextNumber_39 ?_
          refine lv_aload_n hx hb dX5_nextNumber_40 rfl (lv_at hl 0 rfl) ?_
          refine lv_iload_n hx hb dX5_nextNumber_41 rfl (lv_at hl 3 rfl) ?_
          obtain ⟨q42, hq42, h⟩ := of_cal h
          refine C_i hA hw (va_runV (As := [.int l3]) (rest := [.int (l2 * (10 : Int32))]) ⟨hx, hb, hml, hown, hts⟩ (cX5_byteAt_ok l D cc E n S f0 l3 hq42) (cwV 1 hts gX5_nextNumber_X5_byteAt rfl rfl rfl (by decide +kernel) ⟨Nat.le_of_ble_eq_true rfl, Nat.le_of_ble_eq_true rfl⟩) ⟨cBlind D cc E S _, C_recv hK hw (by omega) (cell_6 hf3) (r := (RX5, TX5, 6)) rfl, fun U hU hW => ⟨rfl, C_pre hA hK hro hw U hU hW⟩⟩ rfl rfl hl.1 rfl (lv_room (Nat.le_of_ble_eq_true rfl)) dX5_nextNumber_42 ⟨Nat.le_refl _, Nat.le_refl _⟩) (fun H locs hw => ?_)
          refine W.widen (k := 0) (n := 0) (Nat.le_refl _) (Nat.le_refl _) ?_
          refine lv_iadd hx hb dX5_nextNumber_45 ?_
          refine lv_bipush (v := 48) hx hb dX5_nextNumber_46 (by decide) ?_
          refine lv_isub hx hb dX5_nextNumber_48 ?_
          refine lv_topi (fun x49 ex49 => ?_)
          have h := of_bnd h ex49
          refine lv_istore_n (lv' := [(2, .int x49), (0, .ref f0), (1, .int f1), (3, .int l3)]) hx hb dX5_nextNumber_49 rfl hl (by decide) rfl (fun ls hl => ?_)
          refine lv_iload_n hx hb dX5_nextNumber_50 rfl (lv_at hl 0 rfl) ?_
          refine lv_iload_n hx hb dX5_nextNumber_51 rfl (lv_at hl 2 rfl) ?_
          refine lv_icmp_le (tgt := 57) hx hb dX5_nextNumber_52 (by decide) (fun c52 => ?_) (fun c52 => ?_)
          · have h := of_it h c52
            obtain ⟨x57, ex57⟩ : ∃ y : Int32, y = l3 + 1 := ⟨_, rfl⟩
            have h := of_bnd h ex57
            refine lv_iinc (v := x57) (lv' := [(3, .int x57), (2, .int x49), (0, .ref f0), (1, .int f1)]) hx hb dX5_nextNumber_57 hl (k := 3) rfl (by rw [ex57]; rfl) (by decide) rfl (fun ls hl => ?_)
            refine lv_goto (tgt := 28) hx hb dX5_nextNumber_60 (by decide) ?_
            exact ih28 x49 x57 _ h _ _ hw ls (lv_sub hl [2, 3, 1, 0] rfl) kx28_0 kx28_1
          · have h := of_if h c52
            exact kx28_0 x49 (Option.some.inj h) _ _ hw ls (lv_sub hl [] rfl)
    obtain ⟨q28, hq28, h⟩ := of_cal h
    refine lp28 a0 a1 S1 n.1 x22 v24 q28  hq28 _ _ hw ls (lv_sub hl [2, 3, 1, 0] rfl) ?_ ?_
    · intro t2_28 eq H locs hw ls hl
      subst eq
      have h := of_un2 h
      have h := of_it h rfl
      refine lv_iconst (v := -1) hx hb dX5_nextNumber_55 (by decide) ?_
      obtain ⟨rfl, rfl⟩ := of_ret2 h
      exact C_iret hx hb hr hlocks hw (by rfl) dX5_nextNumber_56
    · intro t2_28 eq H locs hw ls hl
      subst eq
      have h := of_un2 h
      have h := of_if h (by decide)
      refine lv_iload_n hx hb dX5_nextNumber_63 rfl (lv_at hl 0 rfl) ?_
      obtain ⟨rfl, rfl⟩ := of_ret2 h
      exact C_iret hx hb hr hlocks hw (by rfl) dX5_nextNumber_64
  · have h := of_if h c16
    refine lv_iconst (v := -1) hx hb dX5_nextNumber_19 (by decide) ?_
    obtain ⟨rfl, rfl⟩ := of_ret2 h
    exact C_iret hx hb hr hlocks hw (by rfl) dX5_nextNumber_20
