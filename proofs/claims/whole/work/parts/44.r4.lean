def fX12_isSmall (a0 : Int32) : Int32 :=
  if a0 < (97 : Int32) then 
    (0 : Int32)
    else if (122 : Int32) < a0 then 
      (0 : Int32)
      else (1 : Int32)
theorem fX12_isSmall_nar (a0 : Int32) : narrow .boolean (.int (fX12_isSmall a0)) = .int (fX12_isSmall a0) := by
  unfold fX12_isSmall
  (repeat' split) <;> rfl
set_option maxHeartbeats 8000000 in
set_option maxRecDepth 100000 in
theorem cX12_isSmall_ok (l : Launch) (a0 : Int32) : Si l yX12_isSmall wsX12_isSmall { frames := 0, cells := 0, slots := 0, locals := 0 } [.int a0] (fun r => r = fX12_isSmall a0) := by
  obtain ⟨r, h⟩ : ∃ r, fX12_isSmall a0 = r := ⟨_, rfl⟩
  rw [h]
  refine Si_of (own := RX12) (cc := cX12_isSmall) (nL := 1) (ret := (some .boolean)) (by decide) rfl rfl (Nat.le_of_ble_eq_true rfl) ?_
  intro p e s m args below meth c hx hb hr hlocks hml hts hown ls hl
  unfold fX12_isSmall at h
  have hl : lv_has ls 1 [(0, .int a0)] := hl
  refine lv_iload_n hx hb dX12_isSmall_0 rfl (lv_at hl 0 rfl) ?_
  refine lv_bipush (v := 97) hx hb dX12_isSmall_1 (by decide) ?_
  refine lv_icmp_lt (tgt := 16) hx hb dX12_isSmall_3 (by decide) (fun c3 => ?_) (fun c3 => ?_)
  · have h := of_it h c3
    refine lv_iconst (v := 0) hx hb dX12_isSmall_16 (by decide) ?_
    exact S_iret (v := (0 : Int32)) hx hb hr hlocks dX12_isSmall_17 (by first | rfl | decide) h
  · have h := of_if h c3
    refine lv_iload_n hx hb dX12_isSmall_6 rfl (lv_at hl 0 rfl) ?_
    refine lv_bipush (v := 122) hx hb dX12_isSmall_7 (by decide) ?_
    refine lv_icmp_gt (tgt := 16) hx hb dX12_isSmall_9 (by decide) (fun c9 => ?_) (fun c9 => ?_)
    · have h := of_it h c9
      refine lv_iconst (v := 0) hx hb dX12_isSmall_16 (by decide) ?_
      exact S_iret (v := (0 : Int32)) hx hb hr hlocks dX12_isSmall_17 (by first | rfl | decide) h
    · have h := of_if h c9
      refine lv_iconst (v := 1) hx hb dX12_isSmall_12 (by decide) ?_
      refine lv_goto (tgt := 17) hx hb dX12_isSmall_13 (by decide) ?_
      exact S_iret (v := (1 : Int32)) hx hb hr hlocks dX12_isSmall_17 (by first | rfl | decide) h

def fX12_isDigit (a0 : Int32) : Int32 :=
  if a0 < (48 : Int32) then 
    (0 : Int32)
    else if (57 : Int32) < a0 then 
      (0 : Int32)
      else (1 : Int32)
theorem fX12_isDigit_nar (a0 : Int32) : narrow .boolean (.int (fX12_isDigit a0)) = .int (fX12_isDigit a0) := by
  unfold fX12_isDigit
  (repeat' split) <;> rfl
set_option maxHeartbeats 8000000 in
set_option maxRecDepth 100000 in
theorem cX12_isDigit_ok (l : Launch) (a0 : Int32) : Si l yX12_isDigit wsX12_isDigit { frames := 0, cells := 0, slots := 0, locals := 0 } [.int a0] (fun r => r = fX12_isDigit a0) := by
  obtain ⟨r, h⟩ : ∃ r, fX12_isDigit a0 = r := ⟨_, rfl⟩
  rw [h]
  refine Si_of (own := RX12) (cc := cX12_isDigit) (nL := 1) (ret := (some .boolean)) (by decide) rfl rfl (Nat.le_of_ble_eq_true rfl) ?_
  intro p e s m args below meth c hx hb hr hlocks hml hts hown ls hl
  unfold fX12_isDigit at h
  have hl : lv_has ls 1 [(0, .int a0)] := hl
  refine lv_iload_n hx hb dX12_isDigit_0 rfl (lv_at hl 0 rfl) ?_
  refine lv_bipush (v := 48) hx hb dX12_isDigit_1 (by decide) ?_
  refine lv_icmp_lt (tgt := 16) hx hb dX12_isDigit_3 (by decide) (fun c3 => ?_) (fun c3 => ?_)
  · have h := of_it h c3
    refine lv_iconst (v := 0) hx hb dX12_isDigit_16 (by decide) ?_
    exact S_iret (v := (0 : Int32)) hx hb hr hlocks dX12_isDigit_17 (by first | rfl | decide) h
  · have h := of_if h c3
    refine lv_iload_n hx hb dX12_isDigit_6 rfl (lv_at hl 0 rfl) ?_
    refine lv_bipush (v := 57) hx hb dX12_isDigit_7 (by decide) ?_
    refine lv_icmp_gt (tgt := 16) hx hb dX12_isDigit_9 (by decide) (fun c9 => ?_) (fun c9 => ?_)
    · have h := of_it h c9
      refine lv_iconst (v := 0) hx hb dX12_isDigit_16 (by decide) ?_
      exact S_iret (v := (0 : Int32)) hx hb hr hlocks dX12_isDigit_17 (by first | rfl | decide) h
    · have h := of_if h c9
      refine lv_iconst (v := 1) hx hb dX12_isDigit_12 (by decide) ?_
      refine lv_goto (tgt := 17) hx hb dX12_isDigit_13 (by decide) ?_
      exact S_iret (v := (1 : Int32)) hx hb hr hlocks dX12_isDigit_17 (by first | rfl | decide) h

def fX12_next_lp8 (n : Nat × Nat) : Nat → MS → Option (MS)
  | 0, _ => none
  | k + 1, S =>
    bnd (mI S 59) (fun v9 => bnd (mI S 58) (fun v13 => if v13 ≤ v9 then 
        some S
        else bnd (mI S 59) (fun v24 => grd (¬ (v24 < 0 ∨ 400 ≤ v24.toNatClampNeg)) (bnd (mA S 57 v24.toNatClampNeg) (fun v27 => if v27 = (32 : Int32) then 
          bnd (mI S 59) (fun v35 => bnd (sI S 59 (v35 + (1 : Int32))) (fun S40 => fX12_next_lp8 n k S40))
          else some S)))))
def fX12_next_lp149 (n : Nat × Nat) : Nat → MS → Option (MS)
  | 0, _ => none
  | k + 1, S =>
    bnd (mI S 61) (fun v150 => if v150 = (1 : Int32) then 
              bnd (mI S 60) (fun v158 => bnd (mI S 58) (fun v162 => if v162 ≤ v158 then 
                some S
                else bnd (mI S 60) (fun v173 => grd (¬ (v173 < 0 ∨ 400 ≤ v173.toNatClampNeg)) (bnd (mA S 57 v173.toNatClampNeg) (fun v176 => bnd (fX12_isSmall v176) (fun r177 => if r177 = 0 then 
                  some S
                  else bnd (mI S 60) (fun v185 => bnd (mI S 59) (fun v189 => if (6 : Int32) ≤ (v185 - v189) then 
                    bnd (sL S 62 (-1 : Int64)) (fun S227 => bnd (mI S227 60) (fun v232 => bnd (sI S227 60 (v232 + (1 : Int32))) (fun S237 => fX12_next_lp149 n k S237)))
                    else bnd (mL S 62) (fun v199 => bnd (mI S 60) (fun v211 => grd (¬ (v211 < 0 ∨ 400 ≤ v211.toNatClampNeg)) (bnd (mA S 57 v211.toNatClampNeg) (fun v214 => bnd (sL S 62 (((v199 * (32 : Int64)) + v214.toInt64) - (96 : Int64))) (fun S227 => bnd (mI S227 60) (fun v232 => bnd (sI S227 60 (v232 + (1 : Int32))) (fun S237 => fX12_next_lp149 n k S237)))))))))))))))
              else some S)
def fX12_next_lp243 (n : Nat × Nat) : Nat → MS → Option (MS)
  | 0, _ => none
  | k + 1, S =>
    bnd (mI S 61) (fun v244 => if v244 = (2 : Int32) then 
                bnd (mI S 60) (fun v252 => bnd (mI S 58) (fun v256 => if v256 ≤ v252 then 
                  some S
                  else bnd (mI S 60) (fun v267 => grd (¬ (v267 < 0 ∨ 400 ≤ v267.toNatClampNeg)) (bnd (mA S 57 v267.toNatClampNeg) (fun v270 => bnd (fX12_isDigit v270) (fun r271 => if r271 = 0 then 
                    some S
                    else bnd (mL S 62) (fun v279 => if (lg_cmp v279 (1000000 : Int64)) ≤ 0 then 
                      bnd (mL S 62) (fun v297 => bnd (mI S 60) (fun v309 => grd (¬ (v309 < 0 ∨ 400 ≤ v309.toNatClampNeg)) (bnd (mA S 57 v309.toNatClampNeg) (fun v312 => bnd (sL S 62 (((v297 * (10 : Int64)) + v312.toInt64) - (48 : Int64))) (fun S319 => bnd (mI S319 60) (fun v324 => bnd (sI S319 60 (v324 + (1 : Int32))) (fun S329 => fX12_next_lp243 n k S329)))))))
                      else bnd (mL S 62) (fun v290 => bnd (sL S 62 v290) (fun S319 => bnd (mI S319 60) (fun v324 => bnd (sI S319 60 (v324 + (1 : Int32))) (fun S329 => fX12_next_lp243 n k S329)))))))))))
                else some S)
def fX12_next (n : Nat × Nat) (S : MS)  : Option (MS) :=
  bnd (mI S 60) (fun v2 => bnd (sI S 59 v2) (fun S5 => cal (fX12_next_lp8 n n.1 S5) (fun S8 => bnd (mI S8 59) (fun v48 => bnd (sI S8 60 v48) (fun S51 => bnd (sL S51 62 (0 : Int64)) (fun S56 => bnd (mI S56 59) (fun v61 => bnd (mI S56 58) (fun v65 => bnd (fun (z0_114 : Int32) (S : MS) => bnd (sI S 61 z0_114) (fun S114 => bnd (mI S114 61) (fun v118 => if v118 = (3 : Int32) then 
        bnd (mI S114 59) (fun v131 => grd (¬ (v131 < 0 ∨ 400 ≤ v131.toNatClampNeg)) (bnd (mA S114 57 v131.toNatClampNeg) (fun v134 => bnd (sL S114 62 v134.toInt64) (fun S136 => bnd (mI S136 60) (fun v141 => bnd (sI S136 60 (v141 + (1 : Int32))) (fun S146 => cal (fX12_next_lp149 n n.1 S146) (fun S149 => cal (fX12_next_lp243 n n.1 S149) (fun S243 => some S243))))))))
        else cal (fX12_next_lp149 n n.1 S114) (fun S149 => cal (fX12_next_lp243 n n.1 S149) (fun S243 => some S243))))) (fun j114 => if v61 = v65 then 
      j114 (0 : Int32) S56
      else bnd (mI S56 59) (fun v80 => grd (¬ (v80 < 0 ∨ 400 ≤ v80.toNatClampNeg)) (bnd (mA S56 57 v80.toNatClampNeg) (fun v83 => bnd (fX12_isSmall v83) (fun r84 => if r84 = 0 then 
        bnd (mI S56 59) (fun v99 => grd (¬ (v99 < 0 ∨ 400 ≤ v99.toNatClampNeg)) (bnd (mA S56 57 v99.toNatClampNeg) (fun v102 => bnd (fX12_isDigit v102) (fun r103 => if r103 = 0 then 
          j114 (3 : Int32) S56
          else j114 (2 : Int32) S56))))
        else j114 (1 : Int32) S56)))))))))))))
set_option maxHeartbeats 8000000 in
set_option maxRecDepth 100000 in
theorem cX12_next_ok (l : Launch) (D : va_G) (cI cJ : ClassId) (ad : Nat → Nat) (n : Nat × Nat) (S : MS)  {T : MS} (h : fX12_next n S  = some T) : Mv l yX12_next wsX12_next (cRm 1 20 0 0) D cI cJ ad [] S (fun u => u = T) := by
  refine Mv_of (cc := cX12_next) (nL := 1) (ret := none) (by decide) rfl rfl (Nat.le_of_ble_eq_true rfl) ?_
  intro p e s m args below meth c A hx hb hr hlocks hml hts hown hA hK hP hD hS ls hl
  have hw : mWd D cI cJ ad A s.heap S s.heap [] := ⟨hP, hD, hS⟩
  unfold fX12_next at h
  have hin : ∀ w ∈ wsX120, w ∈ wsX12_next := fun w h => List.mem_cons_of_mem _ (List.mem_append_right _ h)
  have hl : lv_has ls 1 [(0, .ref (ad 0))] := hl
  refine lv_aload_n hx hb dX12_next_0 rfl (lv_at hl 0 rfl) ?_
  refine lv_aload_n hx hb dX12_next_1 rfl (lv_at hl 0 rfl) ?_
  refine N_get hx hb hts hin hown hK hw 60 (by decide) rfl (index := 297) (by decide +kernel) rfl dX12_next_2 ?_
  refine lv_topi (fun v2 ev2 => ?_)
  have h := of_bnd h ev2
  refine N_put hx hb hts hin hown hK hw 59 (by decide) rfl rfl (index := 300) (by decide +kernel) (ty := .int) (by decide +kernel) rfl rfl (pI_59 cI cJ ad S _) dX12_next_5 (fun S5 H locs eS5 hw => ?_)
  have h := of_bnd h eS5
  have lp8 : ∀ (k : Nat) (S : MS) (q : MS) , fX12_next_lp8 n k S = some q → ∀ (H : Heap) (locs : List Loc), mWd D cI cJ ad A s.heap S H locs → ∀ ls : Array Slot, lv_has ls 1 [(0, .ref (ad 0))] → (∀  (S1 : MS), S1 = q → ∀ (H : Heap) (locs : List Loc), mWd D cI cJ ad A s.heap S1 H locs → ∀ ls : Array Slot, lv_has ls 1 [(0, .ref (ad 0))] → W p l e (cRm 1 20 0 0) s m args below meth c H locs (0) (0) (MQ below (va_Qv (fun u => u = T) (mAft D cI cJ ad A) A) args s 0 0 A) (F0 m 46 ls [])) → W p l e (cRm 1 20 0 0) s m args below meth c H locs (0) (0) (MQ below (va_Qv (fun u => u = T) (mAft D cI cJ ad A) A) args s 0 0 A) (F0 m 8 ls []) := by
    intro k
    induction k with
    | zero => intro S q h; rw [fX12_next_lp8] at h; cases h
    | succ k ih8 =>
      intro S q h H locs hw ls hl kx8_0
      rw [fX12_next_lp8] at h
      refine lv_aload_n hx hb dX12_next_8 rfl (lv_at hl 0 rfl) ?_
      refine N_get hx hb hts hin hown hK hw 59 (by decide) rfl (index := 300) (by decide +kernel) rfl dX12_next_9 ?_
      refine lv_topi (fun v9 ev9 => ?_)
      have h := of_bnd h ev9
      refine lv_aload_n hx hb dX12_next_12 rfl (lv_at hl 0 rfl) ?_
      refine N_get hx hb hts hin hown hK hw 58 (by decide) rfl (index := 291) (by decide +kernel) rfl dX12_next_13 ?_
      refine lv_topi (fun v13 ev13 => ?_)
      have h := of_bnd h ev13
      refine lv_icmp_ge (tgt := 46) hx hb dX12_next_16 (by decide) (fun c16 => ?_) (fun c16 => ?_)
      · have h := of_it h c16
        exact kx8_0 S (Option.some.inj h) _ _ hw ls (lv_sub hl [0] rfl)
      · have h := of_if h c16
        refine lv_aload_n hx hb dX12_next_19 rfl (lv_at hl 0 rfl) ?_
        refine N_get hx hb hts hin hown hK hw 57 (by decide) rfl (index := 141) (by decide +kernel) rfl dX12_next_20 ?_
        refine lv_aload_n hx hb dX12_next_23 rfl (lv_at hl 0 rfl) ?_
        refine N_get hx hb hts hin hown hK hw 59 (by decide) rfl (index := 300) (by decide +kernel) rfl dX12_next_24 ?_
        refine lv_topi (fun v24 ev24 => ?_)
        have h := of_bnd h ev24
        obtain ⟨hi27, h⟩ := of_grd h
        refine va_iald hx hb hK hw.1 43 0 rfl rfl hi27 dX12_next_27 ?_
        refine lv_topi (fun v27 ev27 => ?_)
        have h := of_bnd h ev27
        refine lv_bipush (v := 32) hx hb dX12_next_28 (by decide) ?_
        refine lv_icmp_ne (tgt := 46) hx hb dX12_next_30 (by decide) (fun c30 => ?_) (fun c30 => ?_)
        · have h := of_if h c30
          exact kx8_0 S (Option.some.inj h) _ _ hw ls (lv_sub hl [0] rfl)
        · have h := of_it h c30
          refine lv_aload_n hx hb dX12_next_33 rfl (lv_at hl 0 rfl) ?_
          refine lv_dup hx hb dX12_next_34 rfl ?_
          refine N_get hx hb hts hin hown hK hw 59 (by decide) rfl (index := 300) (by decide +kernel) rfl dX12_next_35 ?_
          refine lv_topi (fun v35 ev35 => ?_)
          have h := of_bnd h ev35
          refine lv_iconst (v := 1) hx hb dX12_next_38 (by decide) ?_
          refine lv_iadd hx hb dX12_next_39 ?_
          refine N_put hx hb hts hin hown hK hw 59 (by decide) rfl rfl (index := 300) (by decide +kernel) (ty := .int) (by decide +kernel) rfl rfl (pI_59 cI cJ ad S _) dX12_next_40 (fun S40 H locs eS40 hw => ?_)
          have h := of_bnd h eS40
          refine lv_goto (tgt := 8) hx hb dX12_next_43 (by decide) ?_
          exact ih8 S40 _ h _ _ hw ls (lv_sub hl [0] rfl) kx8_0
  obtain ⟨q8, hq8, h⟩ := of_cal h
  refine lp8 n.1 S5 q8  hq8 _ _ hw ls (lv_sub hl [0] rfl) ?_
  · intro S8 eq H locs hw ls hl
    subst eq
    refine lv_aload_n hx hb dX12_next_46 rfl (lv_at hl 0 rfl) ?_
    refine lv_aload_n hx hb dX12_next_47 rfl (lv_at hl 0 rfl) ?_
    refine N_get hx hb hts hin hown hK hw 59 (by decide) rfl (index := 300) (by decide +kernel) rfl dX12_next_48 ?_
    refine lv_topi (fun v48 ev48 => ?_)
    have h := of_bnd h ev48
    refine N_put hx hb hts hin hown hK hw 60 (by decide) rfl rfl (index := 297) (by decide +kernel) (ty := .int) (by decide +kernel) rfl rfl (pI_60 cI cJ ad S8 _) dX12_next_51 (fun S51 H locs eS51 hw => ?_)
    have h := of_bnd h eS51
    refine lv_aload_n hx hb dX12_next_54 rfl (lv_at hl 0 rfl) ?_
    refine lv_lconst (v := 0) hx hb dX12_next_55 (by decide) ?_
    refine N_put hx hb hts hin hown hK hw 62 (by decide) rfl rfl (index := 303) (by decide +kernel) (ty := .long) (by decide +kernel) rfl rfl (pI_62 cI cJ ad S51 _) dX12_next_56 (fun S56 H locs eS56 hw => ?_)
    have h := of_bnd h eS56
    refine lv_aload_n hx hb dX12_next_59 rfl (lv_at hl 0 rfl) ?_
    refine lv_aload_n hx hb dX12_next_60 rfl (lv_at hl 0 rfl) ?_
    refine N_get hx hb hts hin hown hK hw 59 (by decide) rfl (index := 300) (by decide +kernel) rfl dX12_next_61 ?_
    refine lv_topi (fun v61 ev61 => ?_)
    have h := of_bnd h ev61
    refine lv_aload_n hx hb dX12_next_64 rfl (lv_at hl 0 rfl) ?_
    refine N_get hx hb hts hin hown hK hw 58 (by decide) rfl (index := 291) (by decide +kernel) rfl dX12_next_65 ?_
    refine lv_topi (fun v65 ev65 => ?_)
    have h := of_bnd h ev65
    obtain ⟨j114, ej114, h⟩ := of_bndE h
    have hj114 : ∀ (z0_114 : Int32) (S : MS), j114 z0_114 S = some T → ∀ (H : Heap) (locs : List Loc), mWd D cI cJ ad A s.heap S H locs → ∀ ls : Array Slot, lv_has ls 1 [(0, .ref (ad 0))] → W p l e (cRm 1 20 0 0) s m args below meth c H locs (0) (0) (MQ below (va_Qv (fun u => u = T) (mAft D cI cJ ad A) A) args s 0 0 A) (F0 m 114 ls [.int z0_114, .ref (ad 0)]) := by
      intro z0_114 S h H locs hw ls hl
      rw [ej114] at h
      dsimp only at h
      refine N_put hx hb hts hin hown hK hw 61 (by decide) rfl rfl (index := 312) (by decide +kernel) (ty := .int) (by decide +kernel) rfl rfl (pI_61 cI cJ ad S _) dX12_next_114 (fun S114 H locs eS114 hw => ?_)
      have h := of_bnd h eS114
      refine lv_aload_n hx hb dX12_next_117 rfl (lv_at hl 0 rfl) ?_
      refine N_get hx hb hts hin hown hK hw 61 (by decide) rfl (index := 312) (by decide +kernel) rfl dX12_next_118 ?_
      refine lv_topi (fun v118 ev118 => ?_)
      have h := of_bnd h ev118
      refine lv_iconst (v := 3) hx hb dX12_next_121 (by decide) ?_
      refine lv_icmp_ne (tgt := 149) hx hb dX12_next_122 (by decide) (fun c122 => ?_) (fun c122 => ?_)
      · have h := of_if h c122
        have lp149 : ∀ (k : Nat) (S : MS) (q : MS) , fX12_next_lp149 n k S = some q → ∀ (H : Heap) (locs : List Loc), mWd D cI cJ ad A s.heap S H locs → ∀ ls : Array Slot, lv_has ls 1 [(0, .ref (ad 0))] → (∀  (S1 : MS), S1 = q → ∀ (H : Heap) (locs : List Loc), mWd D cI cJ ad A s.heap S1 H locs → ∀ ls : Array Slot, lv_has ls 1 [(0, .ref (ad 0))] → W p l e (cRm 1 20 0 0) s m args below meth c H locs (0) (0) (MQ below (va_Qv (fun u => u = T) (mAft D cI cJ ad A) A) args s 0 0 A) (F0 m 243 ls [])) → W p l e (cRm 1 20 0 0) s m args below meth c H locs (0) (0) (MQ below (va_Qv (fun u => u = T) (mAft D cI cJ ad A) A) args s 0 0 A) (F0 m 149 ls []) := by
          intro k
          induction k with
          | zero => intro S q h; rw [fX12_next_lp149] at h; cases h
          | succ k ih149 =>
            intro S q h H locs hw ls hl kx149_0
            rw [fX12_next_lp149] at h
            refine lv_aload_n hx hb dX12_next_149 rfl (lv_at hl 0 rfl) ?_
            refine N_get hx hb hts hin hown hK hw 61 (by decide) rfl (index := 312) (by decide +kernel) rfl dX12_next_150 ?_
            refine lv_topi (fun v150 ev150 => ?_)
            have h := of_bnd h ev150
            refine lv_iconst (v := 1) hx hb dX12_next_153 (by decide) ?_
            refine lv_icmp_ne (tgt := 243) hx hb dX12_next_154 (by decide) (fun c154 => ?_) (fun c154 => ?_)
            · have h := of_if h c154
              exact kx149_0 S (Option.some.inj h) _ _ hw ls (lv_sub hl [0] rfl)
            · have h := of_it h c154
              refine lv_aload_n hx hb dX12_next_157 rfl (lv_at hl 0 rfl) ?_
              refine N_get hx hb hts hin hown hK hw 60 (by decide) rfl (index := 297) (by decide +kernel) rfl dX12_next_158 ?_
              refine lv_topi (fun v158 ev158 => ?_)
              have h := of_bnd h ev158
              refine lv_aload_n hx hb dX12_next_161 rfl (lv_at hl 0 rfl) ?_
              refine N_get hx hb hts hin hown hK hw 58 (by decide) rfl (index := 291) (by decide +kernel) rfl dX12_next_162 ?_
              refine lv_topi (fun v162 ev162 => ?_)
              have h := of_bnd h ev162
              refine lv_icmp_ge (tgt := 243) hx hb dX12_next_165 (by decide) (fun c165 => ?_) (fun c165 => ?_)
              · have h := of_it h c165
                exact kx149_0 S (Option.some.inj h) _ _ hw ls (lv_sub hl [0] rfl)
              · have h := of_if h c165
                refine lv_aload_n hx hb dX12_next_168 rfl (lv_at hl 0 rfl) ?_
                refine N_get hx hb hts hin hown hK hw 57 (by decide) rfl (index := 141) (by decide +kernel) rfl dX12_next_169 ?_
                refine lv_aload_n hx hb dX12_next_172 rfl (lv_at hl 0 rfl) ?_
                refine N_get hx hb hts hin hown hK hw 60 (by decide) rfl (index := 297) (by decide +kernel) rfl dX12_next_173 ?_
                refine lv_topi (fun v173 ev173 => ?_)
                have h := of_bnd h ev173
                obtain ⟨hi176, h⟩ := of_grd h
                refine va_iald hx hb hK hw.1 43 0 rfl rfl hi176 dX12_next_176 ?_
                refine lv_topi (fun v176 ev176 => ?_)
                have h := of_bnd h ev176
                refine C_s (va_runS (As := [.int v176]) (rest := []) ⟨hx, hb, hml, hown, hts⟩ (cX12_isSmall_ok l v176) (va_cwS 1 hts gX12_next_X12_isSmall rfl rfl rfl (by decide +kernel) ⟨Nat.le_of_ble_eq_true rfl, Nat.le_of_ble_eq_true rfl⟩) ⟨fun a U g mk q => ⟨q.1, trivial⟩, fun U hU hW => ⟨rfl, trivial⟩⟩ rfl rfl hl.1 rfl (lv_room (Nat.le_of_ble_eq_true rfl)) dX12_next_177 ⟨Nat.le_refl _, Nat.le_refl _⟩) (fun r177 er177 => ?_)
                have h := of_bnd h er177
                refine lv_if_eq (tgt := 243) hx hb dX12_next_180 (by decide) (fun c180 => ?_) (fun c180 => ?_)
                · have h := of_it h c180
                  exact kx149_0 S (Option.some.inj h) _ _ hw ls (lv_sub hl [0] rfl)
                · have h := of_if h c180
                  refine lv_aload_n hx hb dX12_next_183 rfl (lv_at hl 0 rfl) ?_
                  refine lv_aload_n hx hb dX12_next_184 rfl (lv_at hl 0 rfl) ?_
                  refine N_get hx hb hts hin hown hK hw 60 (by decide) rfl (index := 297) (by decide +kernel) rfl dX12_next_185 ?_
                  refine lv_topi (fun v185 ev185 => ?_)
                  have h := of_bnd h ev185
                  refine lv_aload_n hx hb dX12_next_188 rfl (lv_at hl 0 rfl) ?_
                  refine N_get hx hb hts hin hown hK hw 59 (by decide) rfl (index := 300) (by decide +kernel) rfl dX12_next_189 ?_
                  refine lv_topi (fun v189 ev189 => ?_)
                  have h := of_bnd h ev189
                  refine lv_isub hx hb dX12_next_192 ?_
                  refine lv_bipush (v := 6) hx hb dX12_next_193 (by decide) ?_
                  refine lv_icmp_ge (tgt := 224) hx hb dX12_next_195 (by decide) (fun c195 => ?_) (fun c195 => ?_)
                  · have h := of_it h c195
                    refine lv_ldc2 (v := -1) hx hb hown (hts (.constantLong RX12 319 (-1)) (by decide +kernel)) dX12_next_224 ?_
                    refine N_put hx hb hts hin hown hK hw 62 (by decide) rfl rfl (index := 303) (by decide +kernel) (ty := .long) (by decide +kernel) rfl rfl (pI_62 cI cJ ad S _) dX12_next_227 (fun S227 H locs eS227 hw => ?_)
                    have h := of_bnd h eS227
                    refine lv_aload_n hx hb dX12_next_230 rfl (lv_at hl 0 rfl) ?_
                    refine lv_dup hx hb dX12_next_231 rfl ?_
                    refine N_get hx hb hts hin hown hK hw 60 (by decide) rfl (index := 297) (by decide +kernel) rfl dX12_next_232 ?_
                    refine lv_topi (fun v232 ev232 => ?_)
                    have h := of_bnd h ev232
                    refine lv_iconst (v := 1) hx hb dX12_next_235 (by decide) ?_
                    refine lv_iadd hx hb dX12_next_236 ?_
                    refine N_put hx hb hts hin hown hK hw 60 (by decide) rfl rfl (index := 297) (by decide +kernel) (ty := .int) (by decide +kernel) rfl rfl (pI_60 cI cJ ad S227 _) dX12_next_237 (fun S237 H locs eS237 hw => ?_)
                    have h := of_bnd h eS237
                    refine lv_goto (tgt := 149) hx hb dX12_next_240 (by decide) ?_
                    exact ih149 S237 _ h _ _ hw ls (lv_sub hl [0] rfl) kx149_0
                  · have h := of_if h c195
                    refine lv_aload_n hx hb dX12_next_198 rfl (lv_at hl 0 rfl) ?_
                    refine N_get hx hb hts hin hown hK hw 62 (by decide) rfl (index := 303) (by decide +kernel) rfl dX12_next_199 ?_
                    refine lv_topl (fun v199 ev199 => ?_)
                    have h := of_bnd h ev199
                    refine lv_ldc2 (v := 32) hx hb hown (hts (.constantLong RX12 315 (32)) (by decide +kernel)) dX12_next_202 ?_
                    refine lv_lmul hx hb dX12_next_205 ?_
                    refine lv_aload_n hx hb dX12_next_206 rfl (lv_at hl 0 rfl) ?_
                    refine N_get hx hb hts hin hown hK hw 57 (by decide) rfl (index := 141) (by decide +kernel) rfl dX12_next_207 ?_
                    refine lv_aload_n hx hb dX12_next_210 rfl (lv_at hl 0 rfl) ?_
                    refine N_get hx hb hts hin hown hK hw 60 (by decide) rfl (index := 297) (by decide +kernel) rfl dX12_next_211 ?_
                    refine lv_topi (fun v211 ev211 => ?_)
                    have h := of_bnd h ev211
                    obtain ⟨hi214, h⟩ := of_grd h
                    refine va_iald hx hb hK hw.1 43 0 rfl rfl hi214 dX12_next_214 ?_
                    refine lv_topi (fun v214 ev214 => ?_)
                    have h := of_bnd h ev214
                    refine lv_i2l hx hb dX12_next_215 rfl ?_
                    refine lv_ladd hx hb dX12_next_216 ?_
                    refine lv_ldc2 (v := 96) hx hb hown (hts (.constantLong RX12 317 (96)) (by decide +kernel)) dX12_next_217 ?_
                    refine lv_lsub hx hb dX12_next_220 ?_
                    refine lv_goto (tgt := 227) hx hb dX12_next_221 (by decide) ?_
                    refine N_put hx hb hts hin hown hK hw 62 (by decide) rfl rfl (index := 303) (by decide +kernel) (ty := .long) (by decide +kernel) rfl rfl (pI_62 cI cJ ad S _) dX12_next_227 (fun S227 H locs eS227 hw => ?_)
                    have h := of_bnd h eS227
                    refine lv_aload_n hx hb dX12_next_230 rfl (lv_at hl 0 rfl) ?_
                    refine lv_dup hx hb dX12_next_231 rfl ?_
                    refine N_get hx hb hts hin hown hK hw 60 (by decide) rfl (index := 297) (by decide +kernel) rfl dX12_next_232 ?_
                    refine lv_topi (fun v232 ev232 => ?_)
                    have h := of_bnd h ev232
                    refine lv_iconst (v := 1) hx hb dX12_next_235 (by decide) ?_
                    refine lv_iadd hx hb dX12_next_236 ?_
                    refine N_put hx hb hts hin hown hK hw 60 (by decide) rfl rfl (index := 297) (by decide +kernel) (ty := .int) (by decide +kernel) rfl rfl (pI_60 cI cJ ad S227 _) dX12_next_237 (fun S237 H locs eS237 hw => ?_)
                    have h := of_bnd h eS237
                    refine lv_goto (tgt := 149) hx hb dX12_next_240 (by decide) ?_
                    exact ih149 S237 _ h _ _ hw ls (lv_sub hl [0] rfl) kx149_0
        obtain ⟨q149, hq149, h⟩ := of_cal h
        refine lp149 n.1 S114 q149  hq149 _ _ hw ls (lv_sub hl [0] rfl) ?_
        · intro S149 eq H locs hw ls hl
          subst eq
          have lp243 : ∀ (k : Nat) (S : MS) (q : MS) , fX12_next_lp243 n k S = some q → ∀ (H : Heap) (locs : List Loc), mWd D cI cJ ad A s.heap S H locs → ∀ ls : Array Slot, lv_has ls 1 [(0, .ref (ad 0))] → (∀  (S1 : MS), S1 = q → ∀ (H : Heap) (locs : List Loc), mWd D cI cJ ad A s.heap S1 H locs → ∀ ls : Array Slot, lv_has ls 1 [] → W p l e (cRm 1 20 0 0) s m args below meth c H locs (0) (0) (MQ below (va_Qv (fun u => u = T) (mAft D cI cJ ad A) A) args s 0 0 A) (F0 m 335 ls [])) → W p l e (cRm 1 20 0 0) s m args below meth c H locs (0) (0) (MQ below (va_Qv (fun u => u = T) (mAft D cI cJ ad A) A) args s 0 0 A) (F0 m 243 ls []) := by
            intro k
            induction k with
            | zero => intro S q h; rw [fX12_next_lp243] at h; cases h
            | succ k ih243 =>
              intro S q h H locs hw ls hl kx243_0
              rw [fX12_next_lp243] at h
              refine lv_aload_n hx hb dX12_next_243 rfl (lv_at hl 0 rfl) ?_
              refine N_get hx hb hts hin hown hK hw 61 (by decide) rfl (index := 312) (by decide +kernel) rfl dX12_next_244 ?_
              refine lv_topi (fun v244 ev244 => ?_)
              have h := of_bnd h ev244
              refine lv_iconst (v := 2) hx hb dX12_next_247 (by decide) ?_
              refine lv_icmp_ne (tgt := 335) hx hb dX12_next_248 (by decide) (fun c248 => ?_) (fun c248 => ?_)
              · have h := of_if h c248
                exact kx243_0 S (Option.some.inj h) _ _ hw ls (lv_sub hl [] rfl)
              · have h := of_it h c248
                refine lv_aload_n hx hb dX12_next_251 rfl (lv_at hl 0 rfl) ?_
                refine N_get hx hb hts hin hown hK hw 60 (by decide) rfl (index := 297) (by decide +kernel) rfl dX12_next_252 ?_
                refine lv_topi (fun v252 ev252 => ?_)
                have h := of_bnd h ev252
                refine lv_aload_n hx hb dX12_next_255 rfl (lv_at hl 0 rfl) ?_
                refine N_get hx hb hts hin hown hK hw 58 (by decide) rfl (index := 291) (by decide +kernel) rfl dX12_next_256 ?_
                refine lv_topi (fun v256 ev256 => ?_)
                have h := of_bnd h ev256
                refine lv_icmp_ge (tgt := 335) hx hb dX12_next_259 (by decide) (fun c259 => ?_) (fun c259 => ?_)
                · have h := of_it h c259
                  exact kx243_0 S (Option.some.inj h) _ _ hw ls (lv_sub hl [] rfl)
                · have h := of_if h c259
                  refine lv_aload_n hx hb dX12_next_262 rfl (lv_at hl 0 rfl) ?_
                  refine N_get hx hb hts hin hown hK hw 57 (by decide) rfl (index := 141) (by decide +kernel) rfl dX12_next_263 ?_
                  refine lv_aload_n hx hb dX12_next_266 rfl (lv_at hl 0 rfl) ?_
                  refine N_get hx hb hts hin hown hK hw 60 (by decide) rfl (index := 297) (by decide +kernel) rfl dX12_next_267 ?_
                  refine lv_topi (fun v267 ev267 => ?_)
                  have h := of_bnd h ev267
                  obtain ⟨hi270, h⟩ := of_grd h
                  refine va_iald hx hb hK hw.1 43 0 rfl rfl hi270 dX12_next_270 ?_
                  refine lv_topi (fun v270 ev270 => ?_)
                  have h := of_bnd h ev270
                  refine C_s (va_runS (As := [.int v270]) (rest := []) ⟨hx, hb, hml, hown, hts⟩ (cX12_isDigit_ok l v270) (va_cwS 1 hts gX12_next_X12_isDigit rfl rfl rfl (by decide +kernel) ⟨Nat.le_of_ble_eq_true rfl, Nat.le_of_ble_eq_true rfl⟩) ⟨fun a U g mk q => ⟨q.1, trivial⟩, fun U hU hW => ⟨rfl, trivial⟩⟩ rfl rfl hl.1 rfl (lv_room (Nat.le_of_ble_eq_true rfl)) dX12_next_271 ⟨Nat.le_refl _, Nat.le_refl _⟩) (fun r271 er271 => ?_)
                  have h := of_bnd h er271
                  refine lv_if_eq (tgt := 335) hx hb dX12_next_274 (by decide) (fun c274 => ?_) (fun c274 => ?_)
                  · have h := of_it h c274
                    exact kx243_0 S (Option.some.inj h) _ _ hw ls (lv_sub hl [] rfl)
                  · have h := of_if h c274
                    refine lv_aload_n hx hb dX12_next_277 rfl (lv_at hl 0 rfl) ?_
                    refine lv_aload_n hx hb dX12_next_278 rfl (lv_at hl 0 rfl) ?_
                    refine N_get hx hb hts hin hown hK hw 62 (by decide) rfl (index := 303) (by decide +kernel) rfl dX12_next_279 ?_
                    refine lv_topl (fun v279 ev279 => ?_)
                    have h := of_bnd h ev279
                    refine lv_ldc2 (v := 1000000) hx hb hown (hts (.constantLong RX12 187 (1000000)) (by decide +kernel)) dX12_next_282 ?_
                    refine W.lcmp hx hb dX12_next_285 ?_
                    refine lv_if_le (tgt := 296) hx hb dX12_next_286 (by decide) (fun c286 => ?_) (fun c286 => ?_)
                    · have h := of_it h c286
                      refine lv_aload_n hx hb dX12_next_296 rfl (lv_at hl 0 rfl) ?_
                      refine N_get hx hb hts hin hown hK hw 62 (by decide) rfl (index := 303) (by decide +kernel) rfl dX12_next_297 ?_
                      refine lv_topl (fun v297 ev297 => ?_)
                      have h := of_bnd h ev297
                      refine lv_ldc2 (v := 10) hx hb hown (hts (.constantLong RX12 246 (10)) (by decide +kernel)) dX12_next_300 ?_
                      refine lv_lmul hx hb dX12_next_303 ?_
                      refine lv_aload_n hx hb dX12_next_304 rfl (lv_at hl 0 rfl) ?_
                      refine N_get hx hb hts hin hown hK hw 57 (by decide) rfl (index := 141) (by decide +kernel) rfl dX12_next_305 ?_
                      refine lv_aload_n hx hb dX12_next_308 rfl (lv_at hl 0 rfl) ?_
                      refine N_get hx hb hts hin hown hK hw 60 (by decide) rfl (index := 297) (by decide +kernel) rfl dX12_next_309 ?_
                      refine lv_topi (fun v309 ev309 => ?_)
                      have h := of_bnd h ev309
                      obtain ⟨hi312, h⟩ := of_grd h
                      refine va_iald hx hb hK hw.1 43 0 rfl rfl hi312 dX12_next_312 ?_
                      refine lv_topi (fun v312 ev312 => ?_)
                      have h := of_bnd h ev312
                      refine lv_i2l hx hb dX12_next_313 rfl ?_
                      refine lv_ladd hx hb dX12_next_314 ?_
                      refine lv_ldc2 (v := 48) hx hb hown (hts (.constantLong RX12 321 (48)) (by decide +kernel)) dX12_next_315 ?_
                      refine lv_lsub hx hb dX12_next_318 ?_
                      refine N_put hx hb hts hin hown hK hw 62 (by decide) rfl rfl (index := 303) (by decide +kernel) (ty := .long) (by decide +kernel) rfl rfl (pI_62 cI cJ ad S _) dX12_next_319 (fun S319 H locs eS319 hw => ?_)
                      have h := of_bnd h eS319
                      refine lv_aload_n hx hb dX12_next_322 rfl (lv_at hl 0 rfl) ?_
                      refine lv_dup hx hb dX12_next_323 rfl ?_
                      refine N_get hx hb hts hin hown hK hw 60 (by decide) rfl (index := 297) (by decide +kernel) rfl dX12_next_324 ?_
                      refine lv_topi (fun v324 ev324 => ?_)
                      have h := of_bnd h ev324
                      refine lv_iconst (v := 1) hx hb dX12_next_327 (by decide) ?_
                      refine lv_iadd hx hb dX12_next_328 ?_
                      refine N_put hx hb hts hin hown hK hw 60 (by decide) rfl rfl (index := 297) (by decide +kernel) (ty := .int) (by decide +kernel) rfl rfl (pI_60 cI cJ ad S319 _) dX12_next_329 (fun S329 H locs eS329 hw => ?_)
                      have h := of_bnd h eS329
                      refine lv_goto (tgt := 243) hx hb dX12_next_332 (by decide) ?_
                      exact ih243 S329 _ h _ _ hw ls (lv_sub hl [0] rfl) kx243_0
                    · have h := of_if h c286
                      refine lv_aload_n hx hb dX12_next_289 rfl (lv_at hl 0 rfl) ?_
                      refine N_get hx hb hts hin hown hK hw 62 (by decide) rfl (index := 303) (by decide +kernel) rfl dX12_next_290 ?_
                      refine lv_topl (fun v290 ev290 => ?_)
                      have h := of_bnd h ev290
                      refine lv_goto (tgt := 319) hx hb dX12_next_293 (by decide) ?_
                      refine N_put hx hb hts hin hown hK hw 62 (by decide) rfl rfl (index := 303) (by decide +kernel) (ty := .long) (by decide +kernel) rfl rfl (pI_62 cI cJ ad S _) dX12_next_319 (fun S319 H locs eS319 hw => ?_)
                      have h := of_bnd h eS319
                      refine lv_aload_n hx hb dX12_next_322 rfl (lv_at hl 0 rfl) ?_
                      refine lv_dup hx hb dX12_next_323 rfl ?_
                      refine N_get hx hb hts hin hown hK hw 60 (by decide) rfl (index := 297) (by decide +kernel) rfl dX12_next_324 ?_
                      refine lv_topi (fun v324 ev324 => ?_)
                      have h := of_bnd h ev324
                      refine lv_iconst (v := 1) hx hb dX12_next_327 (by decide) ?_
                      refine lv_iadd hx hb dX12_next_328 ?_
                      refine N_put hx hb hts hin hown hK hw 60 (by decide) rfl rfl (index := 297) (by decide +kernel) (ty := .int) (by decide +kernel) rfl rfl (pI_60 cI cJ ad S319 _) dX12_next_329 (fun S329 H locs eS329 hw => ?_)
                      have h := of_bnd h eS329
                      refine lv_goto (tgt := 243) hx hb dX12_next_332 (by decide) ?_
                      exact ih243 S329 _ h _ _ hw ls (lv_sub hl [0] rfl) kx243_0
          obtain ⟨q243, hq243, h⟩ := of_cal h
          refine lp243 n.1 S149 q243  hq243 _ _ hw ls (lv_sub hl [0] rfl) ?_
          · intro S243 eq H locs hw ls hl
            subst eq
            obtain rfl := Option.some.inj h
            exact M_vret hx hb hr hlocks hK hw.1 hw.2.1 hw.2.2 dX12_next_335 rfl
      · have h := of_it h c122
        refine lv_aload_n hx hb dX12_next_125 rfl (lv_at hl 0 rfl) ?_
        refine lv_aload_n hx hb dX12_next_126 rfl (lv_at hl 0 rfl) ?_
        refine N_get hx hb hts hin hown hK hw 57 (by decide) rfl (index := 141) (by decide +kernel) rfl dX12_next_127 ?_
        refine lv_aload_n hx hb dX12_next_130 rfl (lv_at hl 0 rfl) ?_
        refine N_get hx hb hts hin hown hK hw 59 (by decide) rfl (index := 300) (by decide +kernel) rfl dX12_next_131 ?_
        refine lv_topi (fun v131 ev131 => ?_)
        have h := of_bnd h ev131
        obtain ⟨hi134, h⟩ := of_grd h
        refine va_iald hx hb hK hw.1 43 0 rfl rfl hi134 dX12_next_134 ?_
        refine lv_topi (fun v134 ev134 => ?_)
        have h := of_bnd h ev134
        refine lv_i2l hx hb dX12_next_135 rfl ?_
        refine N_put hx hb hts hin hown hK hw 62 (by decide) rfl rfl (index := 303) (by decide +kernel) (ty := .long) (by decide +kernel) rfl rfl (pI_62 cI cJ ad S114 _) dX12_next_136 (fun S136 H locs eS136 hw => ?_)
        have h := of_bnd h eS136
        refine lv_aload_n hx hb dX12_next_139 rfl (lv_at hl 0 rfl) ?_
        refine lv_dup hx hb dX12_next_140 rfl ?_
        refine N_get hx hb hts hin hown hK hw 60 (by decide) rfl (index := 297) (by decide +kernel) rfl dX12_next_141 ?_
        refine lv_topi (fun v141 ev141 => ?_)
        have h := of_bnd h ev141
        refine lv_iconst (v := 1) hx hb dX12_next_144 (by decide) ?_
        refine lv_iadd hx hb dX12_next_145 ?_
        refine N_put hx hb hts hin hown hK hw 60 (by decide) rfl rfl (index := 297) (by decide +kernel) (ty := .int) (by decide +kernel) rfl rfl (pI_60 cI cJ ad S136 _) dX12_next_146 (fun S146 H locs eS146 hw => ?_)
        have h := of_bnd h eS146
        have lp149 : ∀ (k : Nat) (S : MS) (q : MS) , fX12_next_lp149 n k S = some q → ∀ (H : Heap) (locs : List Loc), mWd D cI cJ ad A s.heap S H locs → ∀ ls : Array Slot, lv_has ls 1 [(0, .ref (ad 0))] → (∀  (S1 : MS), S1 = q → ∀ (H : Heap) (locs : List Loc), mWd D cI cJ ad A s.heap S1 H locs → ∀ ls : Array Slot, lv_has ls 1 [(0, .ref (ad 0))] → W p l e (cRm 1 20 0 0) s m args below meth c H locs (0) (0) (MQ below (va_Qv (fun u => u = T) (mAft D cI cJ ad A) A) args s 0 0 A) (F0 m 243 ls [])) → W p l e (cRm 1 20 0 0) s m args below meth c H locs (0) (0) (MQ below (va_Qv (fun u => u = T) (mAft D cI cJ ad A) A) args s 0 0 A) (F0 m 149 ls []) := by
          intro k
          induction k with
          | zero => intro S q h; rw [fX12_next_lp149] at h; cases h
          | succ k ih149 =>
            intro S q h H locs hw ls hl kx149_0
            rw [fX12_next_lp149] at h
            refine lv_aload_n hx hb dX12_next_149 rfl (lv_at hl 0 rfl) ?_
            refine N_get hx hb hts hin hown hK hw 61 (by decide) rfl (index := 312) (by decide +kernel) rfl dX12_next_150 ?_
            refine lv_topi (fun v150 ev150 => ?_)
            have h := of_bnd h ev150
            refine lv_iconst (v := 1) hx hb dX12_next_153 (by decide) ?_
            refine lv_icmp_ne (tgt := 243) hx hb dX12_next_154 (by decide) (fun c154 => ?_) (fun c154 => ?_)
            · have h := of_if h c154
              exact kx149_0 S (Option.some.inj h) _ _ hw ls (lv_sub hl [0] rfl)
            · have h := of_it h c154
              refine lv_aload_n hx hb dX12_next_157 rfl (lv_at hl 0 rfl) ?_
              refine N_get hx hb hts hin hown hK hw 60 (by decide) rfl (index := 297) (by decide +kernel) rfl dX12_next_158 ?_
              refine lv_topi (fun v158 ev158 => ?_)
              have h := of_bnd h ev158
              refine lv_aload_n hx hb dX12_next_161 rfl (lv_at hl 0 rfl) ?_
              refine N_get hx hb hts hin hown hK hw 58 (by decide) rfl (index := 291) (by decide +kernel) rfl dX12_next_162 ?_
              refine lv_topi (fun v162 ev162 => ?_)
              have h := of_bnd h ev162
              refine lv_icmp_ge (tgt := 243) hx hb dX12_next_165 (by decide) (fun c165 => ?_) (fun c165 => ?_)
              · have h := of_it h c165
                exact kx149_0 S (Option.some.inj h) _ _ hw ls (lv_sub hl [0] rfl)
              · have h := of_if h c165
                refine lv_aload_n hx hb dX12_next_168 rfl (lv_at hl 0 rfl) ?_
                refine N_get hx hb hts hin hown hK hw 57 (by decide) rfl (index := 141) (by decide +kernel) rfl dX12_next_169 ?_
                refine lv_aload_n hx hb dX12_next_172 rfl (lv_at hl 0 rfl) ?_
                refine N_get hx hb hts hin hown hK hw 60 (by decide) rfl (index := 297) (by decide +kernel) rfl dX12_next_173 ?_
                refine lv_topi (fun v173 ev173 => ?_)
                have h := of_bnd h ev173
                obtain ⟨hi176, h⟩ := of_grd h
                refine va_iald hx hb hK hw.1 43 0 rfl rfl hi176 dX12_next_176 ?_
                refine lv_topi (fun v176 ev176 => ?_)
                have h := of_bnd h ev176
                refine C_s (va_runS (As := [.int v176]) (rest := []) ⟨hx, hb, hml, hown, hts⟩ (cX12_isSmall_ok l v176) (va_cwS 1 hts gX12_next_X12_isSmall rfl rfl rfl (by decide +kernel) ⟨Nat.le_of_ble_eq_true rfl, Nat.le_of_ble_eq_true rfl⟩) ⟨fun a U g mk q => ⟨q.1, trivial⟩, fun U hU hW => ⟨rfl, trivial⟩⟩ rfl rfl hl.1 rfl (lv_room (Nat.le_of_ble_eq_true rfl)) dX12_next_177 ⟨Nat.le_refl _, Nat.le_refl _⟩) (fun r177 er177 => ?_)
                have h := of_bnd h er177
                refine lv_if_eq (tgt := 243) hx hb dX12_next_180 (by decide) (fun c180 => ?_) (fun c180 => ?_)
                · have h := of_it h c180
                  exact kx149_0 S (Option.some.inj h) _ _ hw ls (lv_sub hl [0] rfl)
                · have h := of_if h c180
                  refine lv_aload_n hx hb dX12_next_183 rfl (lv_at hl 0 rfl) ?_
                  refine lv_aload_n hx hb dX12_next_184 rfl (lv_at hl 0 rfl) ?_
                  refine N_get hx hb hts hin hown hK hw 60 (by decide) rfl (index := 297) (by decide +kernel) rfl dX12_next_185 ?_
                  refine lv_topi (fun v185 ev185 => ?_)
                  have h := of_bnd h ev185
                  refine lv_aload_n hx hb dX12_next_188 rfl (lv_at hl 0 rfl) ?_
                  refine N_get hx hb hts hin hown hK hw 59 (by decide) rfl (index := 300) (by decide +kernel) rfl dX12_next_189 ?_
                  refine lv_topi (fun v189 ev189 => ?_)
                  have h := of_bnd h ev189
                  refine lv_isub hx hb dX12_next_192 ?_
                  refine lv_bipush (v := 6) hx hb dX12_next_193 (by decide) ?_
                  refine lv_icmp_ge (tgt := 224) hx hb dX12_next_195 (by decide) (fun c195 => ?_) (fun c195 => ?_)
                  · have h := of_it h c195
                    refine lv_ldc2 (v := -1) hx hb hown (hts (.constantLong RX12 319 (-1)) (by decide +kernel)) dX12_next_224 ?_
                    refine N_put hx hb hts hin hown hK hw 62 (by decide) rfl rfl (index := 303) (by decide +kernel) (ty := .long) (by decide +kernel) rfl rfl (pI_62 cI cJ ad S _) dX12_next_227 (fun S227 H locs eS227 hw => ?_)
                    have h := of_bnd h eS227
                    refine lv_aload_n hx hb dX12_next_230 rfl (lv_at hl 0 rfl) ?_
                    refine lv_dup hx hb dX12_next_231 rfl ?_
                    refine N_get hx hb hts hin hown hK hw 60 (by decide) rfl (index := 297) (by decide +kernel) rfl dX12_next_232 ?_
                    refine lv_topi (fun v232 ev232 => ?_)
                    have h := of_bnd h ev232
                    refine lv_iconst (v := 1) hx hb dX12_next_235 (by decide) ?_
                    refine lv_iadd hx hb dX12_next_236 ?_
                    refine N_put hx hb hts hin hown hK hw 60 (by decide) rfl rfl (index := 297) (by decide +kernel) (ty := .int) (by decide +kernel) rfl rfl (pI_60 cI cJ ad S227 _) dX12_next_237 (fun S237 H locs eS237 hw => ?_)
                    have h := of_bnd h eS237
                    refine lv_goto (tgt := 149) hx hb dX12_next_240 (by decide) ?_
                    exact ih149 S237 _ h _ _ hw ls (lv_sub hl [0] rfl) kx149_0
                  · have h := of_if h c195
                    refine lv_aload_n hx hb dX12_next_198 rfl (lv_at hl 0 rfl) ?_
                    refine N_get hx hb hts hin hown hK hw 62 (by decide) rfl (index := 303) (by decide +kernel) rfl dX12_next_199 ?_
                    refine lv_topl (fun v199 ev199 => ?_)
                    have h := of_bnd h ev199
                    refine lv_ldc2 (v := 32) hx hb hown (hts (.constantLong RX12 315 (32)) (by decide +kernel)) dX12_next_202 ?_
                    refine lv_lmul hx hb dX12_next_205 ?_
                    refine lv_aload_n hx hb dX12_next_206 rfl (lv_at hl 0 rfl) ?_
                    refine N_get hx hb hts hin hown hK hw 57 (by decide) rfl (index := 141) (by decide +kernel) rfl dX12_next_207 ?_
                    refine lv_aload_n hx hb dX12_next_210 rfl (lv_at hl 0 rfl) ?_
                    refine N_get hx hb hts hin hown hK hw 60 (by decide) rfl (index := 297) (by decide +kernel) rfl dX12_next_211 ?_
                    refine lv_topi (fun v211 ev211 => ?_)
                    have h := of_bnd h ev211
                    obtain ⟨hi214, h⟩ := of_grd h
                    refine va_iald hx hb hK hw.1 43 0 rfl rfl hi214 dX12_next_214 ?_
                    refine lv_topi (fun v214 ev214 => ?_)
                    have h := of_bnd h ev214
                    refine lv_i2l hx hb dX12_next_215 rfl ?_
                    refine lv_ladd hx hb dX12_next_216 ?_
                    refine lv_ldc2 (v := 96) hx hb hown (hts (.constantLong RX12 317 (96)) (by decide +kernel)) dX12_next_217 ?_
                    refine lv_lsub hx hb dX12_next_220 ?_
                    refine lv_goto (tgt := 227) hx hb dX12_next_221 (by decide) ?_
                    refine N_put hx hb hts hin hown hK hw 62 (by decide) rfl rfl (index := 303) (by decide +kernel) (ty := .long) (by decide +kernel) rfl rfl (pI_62 cI cJ ad S _) dX12_next_227 (fun S227 H locs eS227 hw => ?_)
                    have h := of_bnd h eS227
                    refine lv_aload_n hx hb dX12_next_230 rfl (lv_at hl 0 rfl) ?_
                    refine lv_dup hx hb dX12_next_231 rfl ?_
                    refine N_get hx hb hts hin hown hK hw 60 (by decide) rfl (index := 297) (by decide +kernel) rfl dX12_next_232 ?_
                    refine lv_topi (fun v232 ev232 => ?_)
                    have h := of_bnd h ev232
                    refine lv_iconst (v := 1) hx hb dX12_next_235 (by decide) ?_
                    refine lv_iadd hx hb dX12_next_236 ?_
                    refine N_put hx hb hts hin hown hK hw 60 (by decide) rfl rfl (index := 297) (by decide +kernel) (ty := .int) (by decide +kernel) rfl rfl (pI_60 cI cJ ad S227 _) dX12_next_237 (fun S237 H locs eS237 hw => ?_)
                    have h := of_bnd h eS237
                    refine lv_goto (tgt := 149) hx hb dX12_next_240 (by decide) ?_
                    exact ih149 S237 _ h _ _ hw ls (lv_sub hl [0] rfl) kx149_0
        obtain ⟨q149, hq149, h⟩ := of_cal h
        refine lp149 n.1 S146 q149  hq149 _ _ hw ls (lv_sub hl [0] rfl) ?_
        · intro S149 eq H locs hw ls hl
          subst eq
          have lp243 : ∀ (k : Nat) (S : MS) (q : MS) , fX12_next_lp243 n k S = some q → ∀ (H : Heap) (locs : List Loc), mWd D cI cJ ad A s.heap S H locs → ∀ ls : Array Slot, lv_has ls 1 [(0, .ref (ad 0))] → (∀  (S1 : MS), S1 = q → ∀ (H : Heap) (locs : List Loc), mWd D cI cJ ad A s.heap S1 H locs → ∀ ls : Array Slot, lv_has ls 1 [] → W p l e (cRm 1 20 0 0) s m args below meth c H locs (0) (0) (MQ below (va_Qv (fun u => u = T) (mAft D cI cJ ad A) A) args s 0 0 A) (F0 m 335 ls [])) → W p l e (cRm 1 20 0 0) s m args below meth c H locs (0) (0) (MQ below (va_Qv (fun u => u = T) (mAft D cI cJ ad A) A) args s 0 0 A) (F0 m 243 ls []) := by
            intro k
            induction k with
            | zero => intro S q h; rw [fX12_next_lp243] at h; cases h
            | succ k ih243 =>
              intro S q h H locs hw ls hl kx243_0
              rw [fX12_next_lp243] at h
              refine lv_aload_n hx hb dX12_next_243 rfl (lv_at hl 0 rfl) ?_
              refine N_get hx hb hts hin hown hK hw 61 (by decide) rfl (index := 312) (by decide +kernel) rfl dX12_next_244 ?_
              refine lv_topi (fun v244 ev244 => ?_)
              have h := of_bnd h ev244
              refine lv_iconst (v := 2) hx hb dX12_next_247 (by decide) ?_
              refine lv_icmp_ne (tgt := 335) hx hb dX12_next_248 (by decide) (fun c248 => ?_) (fun c248 => ?_)
              · have h := of_if h c248
                exact kx243_0 S (Option.some.inj h) _ _ hw ls (lv_sub hl [] rfl)
              · have h := of_it h c248
                refine lv_aload_n hx hb dX12_next_251 rfl (lv_at hl 0 rfl) ?_
                refine N_get hx hb hts hin hown hK hw 60 (by decide) rfl (index := 297) (by decide +kernel) rfl dX12_next_252 ?_
                refine lv_topi (fun v252 ev252 => ?_)
                have h := of_bnd h ev252
                refine lv_aload_n hx hb dX12_next_255 rfl (lv_at hl 0 rfl) ?_
                refine N_get hx hb hts hin hown hK hw 58 (by decide) rfl (index := 291) (by decide +kernel) rfl dX12_next_256 ?_
                refine lv_topi (fun v256 ev256 => ?_)
                have h := of_bnd h ev256
                refine lv_icmp_ge (tgt := 335) hx hb dX12_next_259 (by decide) (fun c259 => ?_) (fun c259 => ?_)
                · have h := of_it h c259
                  exact kx243_0 S (Option.some.inj h) _ _ hw ls (lv_sub hl [] rfl)
                · have h := of_if h c259
                  refine lv_aload_n hx hb dX12_next_262 rfl (lv_at hl 0 rfl) ?_
                  refine N_get hx hb hts hin hown hK hw 57 (by decide) rfl (index := 141) (by decide +kernel) rfl dX12_next_263 ?_
                  refine lv_aload_n hx hb dX12_next_266 rfl (lv_at hl 0 rfl) ?_
                  refine N_get hx hb hts hin hown hK hw 60 (by decide) rfl (index := 297) (by decide +kernel) rfl dX12_next_267 ?_
                  refine lv_topi (fun v267 ev267 => ?_)
                  have h := of_bnd h ev267
                  obtain ⟨hi270, h⟩ := of_grd h
                  refine va_iald hx hb hK hw.1 43 0 rfl rfl hi270 dX12_next_270 ?_
                  refine lv_topi (fun v270 ev270 => ?_)
                  have h := of_bnd h ev270
                  refine C_s (va_runS (As := [.int v270]) (rest := []) ⟨hx, hb, hml, hown, hts⟩ (cX12_isDigit_ok l v270) (va_cwS 1 hts gX12_next_X12_isDigit rfl rfl rfl (by decide +kernel) ⟨Nat.le_of_ble_eq_true rfl, Nat.le_of_ble_eq_true rfl⟩) ⟨fun a U g mk q => ⟨q.1, trivial⟩, fun U hU hW => ⟨rfl, trivial⟩⟩ rfl rfl hl.1 rfl (lv_room (Nat.le_of_ble_eq_true rfl)) dX12_next_271 ⟨Nat.le_refl _, Nat.le_refl _⟩) (fun r271 er271 => ?_)
                  have h := of_bnd h er271
                  refine lv_if_eq (tgt := 335) hx hb dX12_next_274 (by decide) (fun c274 => ?_) (fun c274 => ?_)
                  · have h := of_it h c274
                    exact kx243_0 S (Option.some.inj h) _ _ hw ls (lv_sub hl [] rfl)
                  · have h := of_if h c274
                    refine lv_aload_n hx hb dX12_next_277 rfl (lv_at hl 0 rfl) ?_
                    refine lv_aload_n hx hb dX12_next_278 rfl (lv_at hl 0 rfl) ?_
                    refine N_get hx hb hts hin hown hK hw 62 (by decide) rfl (index := 303) (by decide +kernel) rfl dX12_next_279 ?_
                    refine lv_topl (fun v279 ev279 => ?_)
                    have h := of_bnd h ev279
                    refine lv_ldc2 (v := 1000000) hx hb hown (hts (.constantLong RX12 187 (1000000)) (by decide +kernel)) dX12_next_282 ?_
                    refine W.lcmp hx hb dX12_next_285 ?_
                    refine lv_if_le (tgt := 296) hx hb dX12_next_286 (by decide) (fun c286 => ?_) (fun c286 => ?_)
                    · have h := of_it h c286
                      refine lv_aload_n hx hb dX12_next_296 rfl (lv_at hl 0 rfl) ?_
                      refine N_get hx hb hts hin hown hK hw 62 (by decide) rfl (index := 303) (by decide +kernel) rfl dX12_next_297 ?_
                      refine lv_topl (fun v297 ev297 => ?_)
                      have h := of_bnd h ev297
                      refine lv_ldc2 (v := 10) hx hb hown (hts (.constantLong RX12 246 (10)) (by decide +kernel)) dX12_next_300 ?_
                      refine lv_lmul hx hb dX12_next_303 ?_
                      refine lv_aload_n hx hb dX12_next_304 rfl (lv_at hl 0 rfl) ?_
                      refine N_get hx hb hts hin hown hK hw 57 (by decide) rfl (index := 141) (by decide +kernel) rfl dX12_next_305 ?_
                      refine lv_aload_n hx hb dX12_next_308 rfl (lv_at hl 0 rfl) ?_
                      refine N_get hx hb hts hin hown hK hw 60 (by decide) rfl (index := 297) (by decide +kernel) rfl dX12_next_309 ?_
                      refine lv_topi (fun v309 ev309 => ?_)
                      have h := of_bnd h ev309
                      obtain ⟨hi312, h⟩ := of_grd h
                      refine va_iald hx hb hK hw.1 43 0 rfl rfl hi312 dX12_next_312 ?_
                      refine lv_topi (fun v312 ev312 => ?_)
                      have h := of_bnd h ev312
                      refine lv_i2l hx hb dX12_next_313 rfl ?_
                      refine lv_ladd hx hb dX12_next_314 ?_
                      refine lv_ldc2 (v := 48) hx hb hown (hts (.constantLong RX12 321 (48)) (by decide +kernel)) dX12_next_315 ?_
                      refine lv_lsub hx hb dX12_next_318 ?_
                      refine N_put hx hb hts hin hown hK hw 62 (by decide) rfl rfl (index := 303) (by decide +kernel) (ty := .long) (by decide +kernel) rfl rfl (pI_62 cI cJ ad S _) dX12_next_319 (fun S319 H locs eS319 hw => ?_)
                      have h := of_bnd h eS319
                      refine lv_aload_n hx hb dX12_next_322 rfl (lv_at hl 0 rfl) ?_
                      refine lv_dup hx hb dX12_next_323 rfl ?_
                      refine N_get hx hb hts hin hown hK hw 60 (by decide) rfl (index := 297) (by decide +kernel) rfl dX12_next_324 ?_
                      refine lv_topi (fun v324 ev324 => ?_)
                      have h := of_bnd h ev324
                      refine lv_iconst (v := 1) hx hb dX12_next_327 (by decide) ?_
                      refine lv_iadd hx hb dX12_next_328 ?_
                      refine N_put hx hb hts hin hown hK hw 60 (by decide) rfl rfl (index := 297) (by decide +kernel) (ty := .int) (by decide +kernel) rfl rfl (pI_60 cI cJ ad S319 _) dX12_next_329 (fun S329 H locs eS329 hw => ?_)
                      have h := of_bnd h eS329
                      refine lv_goto (tgt := 243) hx hb dX12_next_332 (by decide) ?_
                      exact ih243 S329 _ h _ _ hw ls (lv_sub hl [0] rfl) kx243_0
                    · have h := of_if h c286
                      refine lv_aload_n hx hb dX12_next_289 rfl (lv_at hl 0 rfl) ?_
                      refine N_get hx hb hts hin hown hK hw 62 (by decide) rfl (index := 303) (by decide +kernel) rfl dX12_next_290 ?_
                      refine lv_topl (fun v290 ev290 => ?_)
                      have h := of_bnd h ev290
                      refine lv_goto (tgt := 319) hx hb dX12_next_293 (by decide) ?_
                      refine N_put hx hb hts hin hown hK hw 62 (by decide) rfl rfl (index := 303) (by decide +kernel) (ty := .long) (by decide +kernel) rfl rfl (pI_62 cI cJ ad S _) dX12_next_319 (fun S319 H locs eS319 hw => ?_)
                      have h := of_bnd h eS319
                      refine lv_aload_n hx hb dX12_next_322 rfl (lv_at hl 0 rfl) ?_
                      refine lv_dup hx hb dX12_next_323 rfl ?_
                      refine N_get hx hb hts hin hown hK hw 60 (by decide) rfl (index := 297) (by decide +kernel) rfl dX12_next_324 ?_
                      refine lv_topi (fun v324 ev324 => ?_)
                      have h := of_bnd h ev324
                      refine lv_iconst (v := 1) hx hb dX12_next_327 (by decide) ?_
                      refine lv_iadd hx hb dX12_next_328 ?_
                      refine N_put hx hb hts hin hown hK hw 60 (by decide) rfl rfl (index := 297) (by decide +kernel) (ty := .int) (by decide +kernel) rfl rfl (pI_60 cI cJ ad S319 _) dX12_next_329 (fun S329 H locs eS329 hw => ?_)
                      have h := of_bnd h eS329
                      refine lv_goto (tgt := 243) hx hb dX12_next_332 (by decide) ?_
                      exact ih243 S329 _ h _ _ hw ls (lv_sub hl [0] rfl) kx243_0
          obtain ⟨q243, hq243, h⟩ := of_cal h
          refine lp243 n.1 S149 q243  hq243 _ _ hw ls (lv_sub hl [0] rfl) ?_
          · intro S243 eq H locs hw ls hl
            subst eq
            obtain rfl := Option.some.inj h
            exact M_vret hx hb hr hlocks hK hw.1 hw.2.1 hw.2.2 dX12_next_335 rfl
    refine lv_icmp_ne (tgt := 75) hx hb dX12_next_68 (by decide) (fun c68 => ?_) (fun c68 => ?_)
    · have h := of_if h c68
      refine lv_aload_n hx hb dX12_next_75 rfl (lv_at hl 0 rfl) ?_
      refine N_get hx hb hts hin hown hK hw 57 (by decide) rfl (index := 141) (by decide +kernel) rfl dX12_next_76 ?_
      refine lv_aload_n hx hb dX12_next_79 rfl (lv_at hl 0 rfl) ?_
      refine N_get hx hb hts hin hown hK hw 59 (by decide) rfl (index := 300) (by decide +kernel) rfl dX12_next_80 ?_
      refine lv_topi (fun v80 ev80 => ?_)
      have h := of_bnd h ev80
      obtain ⟨hi83, h⟩ := of_grd h
      refine va_iald hx hb hK hw.1 43 0 rfl rfl hi83 dX12_next_83 ?_
      refine lv_topi (fun v83 ev83 => ?_)
      have h := of_bnd h ev83
      refine C_s (va_runS (As := [.int v83]) (rest := [.ref (ad 0)]) ⟨hx, hb, hml, hown, hts⟩ (cX12_isSmall_ok l v83) (va_cwS 1 hts gX12_next_X12_isSmall rfl rfl rfl (by decide +kernel) ⟨Nat.le_of_ble_eq_true rfl, Nat.le_of_ble_eq_true rfl⟩) ⟨fun a U g mk q => ⟨q.1, trivial⟩, fun U hU hW => ⟨rfl, trivial⟩⟩ rfl rfl hl.1 rfl (lv_room (Nat.le_of_ble_eq_true rfl)) dX12_next_84 ⟨Nat.le_refl _, Nat.le_refl _⟩) (fun r84 er84 => ?_)
      have h := of_bnd h er84
      refine lv_if_eq (tgt := 94) hx hb dX12_next_87 (by decide) (fun c87 => ?_) (fun c87 => ?_)
      · have h := of_it h c87
        refine lv_aload_n hx hb dX12_next_94 rfl (lv_at hl 0 rfl) ?_
        refine N_get hx hb hts hin hown hK hw 57 (by decide) rfl (index := 141) (by decide +kernel) rfl dX12_next_95 ?_
        refine lv_aload_n hx hb dX12_next_98 rfl (lv_at hl 0 rfl) ?_
        refine N_get hx hb hts hin hown hK hw 59 (by decide) rfl (index := 300) (by decide +kernel) rfl dX12_next_99 ?_
        refine lv_topi (fun v99 ev99 => ?_)
        have h := of_bnd h ev99
        obtain ⟨hi102, h⟩ := of_grd h
        refine va_iald hx hb hK hw.1 43 0 rfl rfl hi102 dX12_next_102 ?_
        refine lv_topi (fun v102 ev102 => ?_)
        have h := of_bnd h ev102
        refine C_s (va_runS (As := [.int v102]) (rest := [.ref (ad 0)]) ⟨hx, hb, hml, hown, hts⟩ (cX12_isDigit_ok l v102) (va_cwS 1 hts gX12_next_X12_isDigit rfl rfl rfl (by decide +kernel) ⟨Nat.le_of_ble_eq_true rfl, Nat.le_of_ble_eq_true rfl⟩) ⟨fun a U g mk q => ⟨q.1, trivial⟩, fun U hU hW => ⟨rfl, trivial⟩⟩ rfl rfl hl.1 rfl (lv_room (Nat.le_of_ble_eq_true rfl)) dX12_next_103 ⟨Nat.le_refl _, Nat.le_refl _⟩) (fun r103 er103 => ?_)
        have h := of_bnd h er103
        refine lv_if_eq (tgt := 113) hx hb dX12_next_106 (by decide) (fun c106 => ?_) (fun c106 => ?_)
        · have h := of_it h c106
          refine lv_iconst (v := 3) hx hb dX12_next_113 (by decide) ?_
          exact hj114 (3 : Int32) S56 h _ _ hw ls (lv_sub hl [0] rfl)
        · have h := of_if h c106
          refine lv_iconst (v := 2) hx hb dX12_next_109 (by decide) ?_
          refine lv_goto (tgt := 114) hx hb dX12_next_110 (by decide) ?_
          exact hj114 (2 : Int32) S56 h _ _ hw ls (lv_sub hl [0] rfl)
      · have h := of_if h c87
        refine lv_iconst (v := 1) hx hb dX12_next_90 (by decide) ?_
        refine lv_goto (tgt := 114) hx hb dX12_next_91 (by decide) ?_
        exact hj114 (1 : Int32) S56 h _ _ hw ls (lv_sub hl [0] rfl)
    · have h := of_it h c68
      refine lv_iconst (v := 0) hx hb dX12_next_71 (by decide) ?_
      refine lv_goto (tgt := 114) hx hb dX12_next_72 (by decide) ?_
      exact hj114 (0 : Int32) S56 h _ _ hw ls (lv_sub hl [0] rfl)

def fX12_word (a0 : Int32) (a1 : Int32) (a2 : Int32) (a3 : Int32) (a4 : Int32) : Int64 :=
  bnd (((((((a0.toInt64 - (96 : Int64)) * (32 : Int64)) + a1.toInt64) - (96 : Int64)) * (32 : Int64)) + a2.toInt64) - (96 : Int64)) (fun x28 => if a3 = 0 then 
    if a4 = 0 then 
      x28
      else (((x28 * (32 : Int64)) + a4.toInt64) - (96 : Int64))
    else bnd (((x28 * (32 : Int64)) + a3.toInt64) - (96 : Int64)) (fun x52 => if a4 = 0 then 
      x52
      else (((x52 * (32 : Int64)) + a4.toInt64) - (96 : Int64))))
set_option maxHeartbeats 8000000 in
set_option maxRecDepth 100000 in
theorem cX12_word_ok (l : Launch) (a0 : Int32) (a1 : Int32) (a2 : Int32) (a3 : Int32) (a4 : Int32) : Sl l yX12_word wsX12_word { frames := 0, cells := 0, slots := 0, locals := 0 } [.int a0, .int a1, .int a2, .int a3, .int a4] (fun r => r = fX12_word a0 a1 a2 a3 a4) := by
  obtain ⟨r, h⟩ : ∃ r, fX12_word a0 a1 a2 a3 a4 = r := ⟨_, rfl⟩
  rw [h]
  refine Sl_of (own := RX12) (cc := cX12_word) (nL := 7) (ret := (some .long)) (by decide) rfl rfl (Nat.le_of_ble_eq_true rfl) ?_
  intro p e s m args below meth c hx hb hr hlocks hml hts hown ls hl
  unfold fX12_word at h
  have hl : lv_has ls 7 [(0, .int a0), (1, .int a1), (2, .int a2), (3, .int a3), (4, .int a4)] := hl
  refine lv_iload_n hx hb dX12_word_0 rfl (lv_at hl 0 rfl) ?_
  refine lv_i2l hx hb dX12_word_1 rfl ?_
  refine lv_ldc2 (v := 96) hx hb hown (hts (.constantLong RX12 317 (96)) (by decide +kernel)) dX12_word_2 ?_
  refine lv_lsub hx hb dX12_word_5 ?_
  refine lv_ldc2 (v := 32) hx hb hown (hts (.constantLong RX12 315 (32)) (by decide +kernel)) dX12_word_6 ?_
  refine lv_lmul hx hb dX12_word_9 ?_
  refine lv_iload_n hx hb dX12_word_10 rfl (lv_at hl 1 rfl) ?_
  refine lv_i2l hx hb dX12_word_11 rfl ?_
  refine lv_ladd hx hb dX12_word_12 ?_
  refine lv_ldc2 (v := 96) hx hb hown (hts (.constantLong RX12 317 (96)) (by decide +kernel)) dX12_word_13 ?_
  refine lv_lsub hx hb dX12_word_16 ?_
  refine lv_ldc2 (v := 32) hx hb hown (hts (.constantLong RX12 315 (32)) (by decide +kernel)) dX12_word_17 ?_
  refine lv_lmul hx hb dX12_word_20 ?_
  refine lv_iload_n hx hb dX12_word_21 rfl (lv_at hl 2 rfl) ?_
  refine lv_i2l hx hb dX12_word_22 rfl ?_
  refine lv_ladd hx hb dX12_word_23 ?_
  refine lv_ldc2 (v := 96) hx hb hown (hts (.constantLong RX12 317 (96)) (by decide +kernel)) dX12_word_24 ?_
  refine lv_lsub hx hb dX12_word_27 ?_
  refine lv_topl (fun x28 ex28 => ?_)
  have h := of_bnd h ex28
  refine lv_lstore (lv' := [(5, .long x28), (0, .int a0), (1, .int a1), (2, .int a2), (3, .int a3), (4, .int a4)]) hx hb dX12_word_28 hl (by decide) rfl (fun ls hl => ?_)
  refine lv_iload_n hx hb dX12_word_30 rfl (lv_at hl 4 rfl) ?_
  refine lv_if_ne (tgt := 39) hx hb dX12_word_31 (by decide) (fun c31 => ?_) (fun c31 => ?_)
  · have h := of_if h c31
    refine lv_lload hx hb dX12_word_39 (lv_at hl 0 rfl) ?_
    refine lv_ldc2 (v := 32) hx hb hown (hts (.constantLong RX12 315 (32)) (by decide +kernel)) dX12_word_41 ?_
    refine lv_lmul hx hb dX12_word_44 ?_
    refine lv_iload_n hx hb dX12_word_45 rfl (lv_at hl 4 rfl) ?_
    refine lv_i2l hx hb dX12_word_46 rfl ?_
    refine lv_ladd hx hb dX12_word_47 ?_
    refine lv_ldc2 (v := 96) hx hb hown (hts (.constantLong RX12 317 (96)) (by decide +kernel)) dX12_word_48 ?_
    refine lv_lsub hx hb dX12_word_51 ?_
    refine lv_topl (fun x52 ex52 => ?_)
    have h := of_bnd h ex52
    refine lv_lstore (lv' := [(5, .long x52), (0, .int a0), (1, .int a1), (2, .int a2), (3, .int a3), (4, .int a4)]) hx hb dX12_word_52 hl (by decide) rfl (fun ls hl => ?_)
    refine lv_iload hx hb dX12_word_54 (lv_at hl 5 rfl) ?_
    refine lv_if_ne (tgt := 64) hx hb dX12_word_56 (by decide) (fun c56 => ?_) (fun c56 => ?_)
    · have h := of_if h c56
      refine lv_lload hx hb dX12_word_64 (lv_at hl 0 rfl) ?_
      refine lv_ldc2 (v := 32) hx hb hown (hts (.constantLong RX12 315 (32)) (by decide +kernel)) dX12_word_66 ?_
      refine lv_lmul hx hb dX12_word_69 ?_
      refine lv_iload hx hb dX12_word_70 (lv_at hl 5 rfl) ?_
      refine lv_i2l hx hb dX12_word_72 rfl ?_
      refine lv_ladd hx hb dX12_word_73 ?_
      refine lv_ldc2 (v := 96) hx hb hown (hts (.constantLong RX12 317 (96)) (by decide +kernel)) dX12_word_74 ?_
      refine lv_lsub hx hb dX12_word_77 ?_
      exact S_lret (v := (((x52 * (32 : Int64)) + a4.toInt64) - (96 : Int64))) hx hb hr hlocks dX12_word_78 h
    · have h := of_it h c56
      refine lv_lload hx hb dX12_word_59 (lv_at hl 0 rfl) ?_
      refine lv_goto (tgt := 78) hx hb dX12_word_61 (by decide) ?_
      exact S_lret (v := x52) hx hb hr hlocks dX12_word_78 h
  · have h := of_it h c31
    refine lv_lload hx hb dX12_word_34 (lv_at hl 0 rfl) ?_
    refine lv_goto (tgt := 52) hx hb dX12_word_36 (by decide) ?_
    refine lv_lstore (lv' := [(5, .long x28), (0, .int a0), (1, .int a1), (2, .int a2), (3, .int a3), (4, .int a4)]) hx hb dX12_word_52 hl (by decide) rfl (fun ls hl => ?_)
    refine lv_iload hx hb dX12_word_54 (lv_at hl 5 rfl) ?_
    refine lv_if_ne (tgt := 64) hx hb dX12_word_56 (by decide) (fun c56 => ?_) (fun c56 => ?_)
    · have h := of_if h c56
      refine lv_lload hx hb dX12_word_64 (lv_at hl 0 rfl) ?_
      refine lv_ldc2 (v := 32) hx hb hown (hts (.constantLong RX12 315 (32)) (by decide +kernel)) dX12_word_66 ?_
      refine lv_lmul hx hb dX12_word_69 ?_
      refine lv_iload hx hb dX12_word_70 (lv_at hl 5 rfl) ?_
      refine lv_i2l hx hb dX12_word_72 rfl ?_
      refine lv_ladd hx hb dX12_word_73 ?_
      refine lv_ldc2 (v := 96) hx hb hown (hts (.constantLong RX12 317 (96)) (by decide +kernel)) dX12_word_74 ?_
      refine lv_lsub hx hb dX12_word_77 ?_
      exact S_lret (v := (((x28 * (32 : Int64)) + a4.toInt64) - (96 : Int64))) hx hb hr hlocks dX12_word_78 h
    · have h := of_it h c56
      refine lv_lload hx hb dX12_word_59 (lv_at hl 0 rfl) ?_
      refine lv_goto (tgt := 78) hx hb dX12_word_61 (by decide) ?_
      exact S_lret (v := x28) hx hb hr hlocks dX12_word_78 h

def fX12_isWord (n : Nat × Nat) (S : MS) (a1 : Int32) (a2 : Int32) (a3 : Int32) (a4 : Int32) (a5 : Int32) : Option Int32 :=
  bnd (mI S 61) (fun v1 => if v1 = (1 : Int32) then 
    bnd (mL S 62) (fun v9 => bnd (fX12_word a1 a2 a3 a4 a5) (fun r19 => if (lg_cmp v9 r19) = 0 then 
      some (1 : Int32)
      else some (0 : Int32)))
    else some (0 : Int32))
set_option maxHeartbeats 8000000 in
set_option maxRecDepth 100000 in
theorem cX12_isWord_ok (l : Launch) (D : va_G) (cI cJ : ClassId) (ad : Nat → Nat) (n : Nat × Nat) (S : MS) (a1 : Int32) (a2 : Int32) (a3 : Int32) (a4 : Int32) (a5 : Int32) {r : Int32} (h : fX12_isWord n S a1 a2 a3 a4 a5 = some r) : Mi l yX12_isWord wsX12_isWord (cRm 1 26 0 0) D cI cJ ad [.int a1, .int a2, .int a3, .int a4, .int a5] S (fun r1 u => r1 = r ∧ u = S) := by
  refine Mi_of (cc := cX12_isWord) (nL := 6) (ret := (some .boolean)) (by decide) rfl rfl (Nat.le_of_ble_eq_true rfl) ?_
  intro p e s m args below meth c A hx hb hr hlocks hml hts hown hA hK hP hD hS ls hl
  have hw : mWd D cI cJ ad A s.heap S s.heap [] := ⟨hP, hD, hS⟩
  unfold fX12_isWord at h
  have hin : ∀ w ∈ wsX120, w ∈ wsX12_isWord := fun w h => List.mem_cons_of_mem _ (List.mem_append_right _ h)
  have hl : lv_has ls 6 [(0, .ref (ad 0)), (1, .int a1), (2, .int a2), (3, .int a3), (4, .int a4), (5, .int a5)] := hl
  refine lv_aload_n hx hb dX12_isWord_0 rfl (lv_at hl 0 rfl) ?_
  refine N_get hx hb hts hin hown hK hw 61 (by decide) rfl (index := 312) (by decide +kernel) rfl dX12_isWord_1 ?_
  refine lv_topi (fun v1 ev1 => ?_)
  have h := of_bnd h ev1
  refine lv_iconst (v := 1) hx hb dX12_isWord_4 (by decide) ?_
  refine lv_icmp_ne (tgt := 30) hx hb dX12_isWord_5 (by decide) (fun c5 => ?_) (fun c5 => ?_)
  · have h := of_if h c5
    refine lv_iconst (v := 0) hx hb dX12_isWord_30 (by decide) ?_
    obtain rfl := Option.some.inj h
    exact M_zret hx hb hr hlocks hK hw.1 hw.2.1 hw.2.2 dX12_isWord_31 (by first | rfl | decide) ⟨rfl, rfl⟩
  · have h := of_it h c5
    refine lv_aload_n hx hb dX12_isWord_8 rfl (lv_at hl 0 rfl) ?_
    refine N_get hx hb hts hin hown hK hw 62 (by decide) rfl (index := 303) (by decide +kernel) rfl dX12_isWord_9 ?_
    refine lv_topl (fun v9 ev9 => ?_)
    have h := of_bnd h ev9
    refine lv_iload_n hx hb dX12_isWord_12 rfl (lv_at hl 1 rfl) ?_
    refine lv_iload_n hx hb dX12_isWord_13 rfl (lv_at hl 2 rfl) ?_
    refine lv_iload_n hx hb dX12_isWord_14 rfl (lv_at hl 3 rfl) ?_
    refine lv_iload hx hb dX12_isWord_15 (lv_at hl 4 rfl) ?_
    refine lv_iload hx hb dX12_isWord_17 (lv_at hl 5 rfl) ?_
    refine C_sl (va_runS (As := [.int a1, .int a2, .int a3, .int a4, .int a5]) (rest := [.long v9]) ⟨hx, hb, hml, hown, hts⟩ (cX12_word_ok l a1 a2 a3 a4 a5) (va_cwS 5 hts gX12_isWord_X12_word rfl rfl rfl (by decide +kernel) ⟨Nat.le_of_ble_eq_true rfl, Nat.le_of_ble_eq_true rfl⟩) ⟨fun a U g mk q => ⟨q.1, trivial⟩, fun U hU hW => ⟨rfl, trivial⟩⟩ rfl rfl hl.1 rfl (lv_room (Nat.le_of_ble_eq_true rfl)) dX12_isWord_19 ⟨Nat.le_refl _, Nat.le_refl _⟩) (fun r19 er19 => ?_)
    have h := of_bnd h er19
    refine W.lcmp hx hb dX12_isWord_22 ?_
    refine lv_if_ne (tgt := 30) hx hb dX12_isWord_23 (by decide) (fun c23 => ?_) (fun c23 => ?_)
    · have h := of_if h c23
      refine lv_iconst (v := 0) hx hb dX12_isWord_30 (by decide) ?_
      obtain rfl := Option.some.inj h
      exact M_zret hx hb hr hlocks hK hw.1 hw.2.1 hw.2.2 dX12_isWord_31 (by first | rfl | decide) ⟨rfl, rfl⟩
    · have h := of_it h c23
      refine lv_iconst (v := 1) hx hb dX12_isWord_26 (by decide) ?_
      refine lv_goto (tgt := 31) hx hb dX12_isWord_27 (by decide) ?_
      obtain rfl := Option.some.inj h
      exact M_zret hx hb hr hlocks hK hw.1 hw.2.1 hw.2.2 dX12_isWord_31 (by first | rfl | decide) ⟨rfl, rfl⟩

def fX12_must (n : Nat × Nat) (S : MS) (a1 : Int32) : Option (MS) :=
  bnd (mI S 64) (fun v1 => if v1 = 0 then 
    if a1 = 0 then 
      bnd (sI S 64 (1 : Int32)) (fun S13 => bnd (mI S13 59) (fun v18 => bnd (sI S13 63 v18) (fun S21 => bnd (mI S21 64) (fun v25 => if v25 = 0 then 
        cal (fX12_next n S21 ) (fun S32 => some S32)
        else some S21))))
      else bnd (mI S 64) (fun v25 => if v25 = 0 then 
        cal (fX12_next n S ) (fun S32 => some S32)
        else some S)
    else bnd (mI S 64) (fun v25 => if v25 = 0 then 
      cal (fX12_next n S ) (fun S32 => some S32)
      else some S))
set_option maxHeartbeats 8000000 in
set_option maxRecDepth 100000 in
theorem cX12_must_ok (l : Launch) (D : va_G) (cI cJ : ClassId) (ad : Nat → Nat) (n : Nat × Nat) (S : MS) (a1 : Int32) {T : MS} (h : fX12_must n S a1 = some T) : Mv l yX12_must wsX12_must (cRm 2 40 0 0) D cI cJ ad [.int a1] S (fun u => u = T) := by
  refine Mv_of (cc := cX12_must) (nL := 2) (ret := none) (by decide) rfl rfl (Nat.le_of_ble_eq_true rfl) ?_
  intro p e s m args below meth c A hx hb hr hlocks hml hts hown hA hK hP hD hS ls hl
  have hw : mWd D cI cJ ad A s.heap S s.heap [] := ⟨hP, hD, hS⟩
  unfold fX12_must at h
  have hin : ∀ w ∈ wsX120, w ∈ wsX12_must := fun w h => List.mem_cons_of_mem _ (List.mem_append_right _ h)
  have hl : lv_has ls 2 [(0, .ref (ad 0)), (1, .int a1)] := hl
  refine lv_aload_n hx hb dX12_must_0 rfl (lv_at hl 0 rfl) ?_
  refine N_get hx hb hts hin hown hK hw 64 (by decide) rfl (index := 327) (by decide +kernel) rfl dX12_must_1 ?_
  refine lv_topi (fun v1 ev1 => ?_)
  have h := of_bnd h ev1
  refine lv_if_ne (tgt := 24) hx hb dX12_must_4 (by decide) (fun c4 => ?_) (fun c4 => ?_)
  · have h := of_if h c4
    refine lv_aload_n hx hb dX12_must_24 rfl (lv_at hl 0 rfl) ?_
    refine N_get hx hb hts hin hown hK hw 64 (by decide) rfl (index := 327) (by decide +kernel) rfl dX12_must_25 ?_
    refine lv_topi (fun v25 ev25 => ?_)
    have h := of_bnd h ev25
    refine lv_if_ne (tgt := 35) hx hb dX12_must_28 (by decide) (fun c28 => ?_) (fun c28 => ?_)
    · have h := of_if h c28
      obtain rfl := Option.some.inj h
      exact M_vret hx hb hr hlocks hK hw.1 hw.2.1 hw.2.2 dX12_must_35 rfl
    · have h := of_it h c28
      refine lv_aload_n hx hb dX12_must_31 rfl (lv_at hl 0 rfl) ?_
      obtain ⟨q32, hq32, h⟩ := of_cal h
      obtain ⟨S32, eS32⟩ : ∃ x, x = q32 := ⟨_, rfl⟩
      subst eS32
      refine N_callv (av := []) (rest := []) ⟨hx, hb, hml, hown, hts⟩ hA hK hw (cX12_next_ok l D cI cJ ad n S  hq32) (cwV 0 hts gX12_must_X12_next rfl rfl rfl (by decide +kernel) ⟨Nat.le_of_ble_eq_true rfl, Nat.le_of_ble_eq_true rfl⟩) rfl hl.1 rfl (Nat.le_of_ble_eq_true rfl) dX12_must_32 ⟨Nat.le_refl _, Nat.le_refl _⟩ (fun H locs hw => ?_)
      obtain rfl := Option.some.inj h
      exact M_vret hx hb hr hlocks hK hw.1 hw.2.1 hw.2.2 dX12_must_35 rfl
  · have h := of_it h c4
    refine lv_iload_n hx hb dX12_must_7 rfl (lv_at hl 1 rfl) ?_
    refine lv_if_ne (tgt := 24) hx hb dX12_must_8 (by decide) (fun c8 => ?_) (fun c8 => ?_)
    · have h := of_if h c8
      refine lv_aload_n hx hb dX12_must_24 rfl (lv_at hl 0 rfl) ?_
      refine N_get hx hb hts hin hown hK hw 64 (by decide) rfl (index := 327) (by decide +kernel) rfl dX12_must_25 ?_
      refine lv_topi (fun v25 ev25 => ?_)
      have h := of_bnd h ev25
      refine lv_if_ne (tgt := 35) hx hb dX12_must_28 (by decide) (fun c28 => ?_) (fun c28 => ?_)
      · have h := of_if h c28
        obtain rfl := Option.some.inj h
        exact M_vret hx hb hr hlocks hK hw.1 hw.2.1 hw.2.2 dX12_must_35 rfl
      · have h := of_it h c28
        refine lv_aload_n hx hb dX12_must_31 rfl (lv_at hl 0 rfl) ?_
        obtain ⟨q32, hq32, h⟩ := of_cal h
        obtain ⟨S32, eS32⟩ : ∃ x, x = q32 := ⟨_, rfl⟩
        subst eS32
        refine N_callv (av := []) (rest := []) ⟨hx, hb, hml, hown, hts⟩ hA hK hw (cX12_next_ok l D cI cJ ad n S  hq32) (cwV 0 hts gX12_must_X12_next rfl rfl rfl (by decide +kernel) ⟨Nat.le_of_ble_eq_true rfl, Nat.le_of_ble_eq_true rfl⟩) rfl hl.1 rfl (Nat.le_of_ble_eq_true rfl) dX12_must_32 ⟨Nat.le_refl _, Nat.le_refl _⟩ (fun H locs hw => ?_)
        obtain rfl := Option.some.inj h
        exact M_vret hx hb hr hlocks hK hw.1 hw.2.1 hw.2.2 dX12_must_35 rfl
    · have h := of_it h c8
      refine lv_aload_n hx hb dX12_must_11 rfl (lv_at hl 0 rfl) ?_
      refine lv_iconst (v := 1) hx hb dX12_must_12 (by decide) ?_
      refine N_put hx hb hts hin hown hK hw 64 (by decide) rfl rfl (index := 327) (by decide +kernel) (ty := .boolean) (by decide +kernel) rfl rfl (pI_64 cI cJ ad S _) dX12_must_13 (fun S13 H locs eS13 hw => ?_)
      have h := of_bnd h eS13
      refine lv_aload_n hx hb dX12_must_16 rfl (lv_at hl 0 rfl) ?_
      refine lv_aload_n hx hb dX12_must_17 rfl (lv_at hl 0 rfl) ?_
      refine N_get hx hb hts hin hown hK hw 59 (by decide) rfl (index := 300) (by decide +kernel) rfl dX12_must_18 ?_
      refine lv_topi (fun v18 ev18 => ?_)
      have h := of_bnd h ev18
      refine N_put hx hb hts hin hown hK hw 63 (by decide) rfl rfl (index := 144) (by decide +kernel) (ty := .int) (by decide +kernel) rfl rfl (pI_63 cI cJ ad S13 _) dX12_must_21 (fun S21 H locs eS21 hw => ?_)
      have h := of_bnd h eS21
      refine lv_aload_n hx hb dX12_must_24 rfl (lv_at hl 0 rfl) ?_
      refine N_get hx hb hts hin hown hK hw 64 (by decide) rfl (index := 327) (by decide +kernel) rfl dX12_must_25 ?_
      refine lv_topi (fun v25 ev25 => ?_)
      have h := of_bnd h ev25
      refine lv_if_ne (tgt := 35) hx hb dX12_must_28 (by decide) (fun c28 => ?_) (fun c28 => ?_)
      · have h := of_if h c28
        obtain rfl := Option.some.inj h
        exact M_vret hx hb hr hlocks hK hw.1 hw.2.1 hw.2.2 dX12_must_35 rfl
      · have h := of_it h c28
        refine lv_aload_n hx hb dX12_must_31 rfl (lv_at hl 0 rfl) ?_
        obtain ⟨q32, hq32, h⟩ := of_cal h
        obtain ⟨S32, eS32⟩ : ∃ x, x = q32 := ⟨_, rfl⟩
        subst eS32
        refine N_callv (av := []) (rest := []) ⟨hx, hb, hml, hown, hts⟩ hA hK hw (cX12_next_ok l D cI cJ ad n S21  hq32) (cwV 0 hts gX12_must_X12_next rfl rfl rfl (by decide +kernel) ⟨Nat.le_of_ble_eq_true rfl, Nat.le_of_ble_eq_true rfl⟩) rfl hl.1 rfl (Nat.le_of_ble_eq_true rfl) dX12_must_32 ⟨Nat.le_refl _, Nat.le_refl _⟩ (fun H locs hw => ?_)
        obtain rfl := Option.some.inj h
        exact M_vret hx hb hr hlocks hK hw.1 hw.2.1 hw.2.2 dX12_must_35 rfl

def fX12_number (n : Nat × Nat) (S : MS) (a1 : Int64) : Option (Int32 × MS) :=
  bnd (mL S 62) (fun v1 => bnd v1.toInt32 (fun x5 => bnd (mI S 61) (fun v8 => if v8 = (2 : Int32) then 
    bnd (mL S 62) (fun v16 => if 0 < (lg_cmp v16 a1) then 
      cal (fX12_must n S (0 : Int32)) (fun S29 => some (x5, S29))
      else cal (fX12_must n S (1 : Int32)) (fun S29 => some (x5, S29)))
    else cal (fX12_must n S (0 : Int32)) (fun S29 => some (x5, S29)))))
set_option maxHeartbeats 8000000 in
set_option maxRecDepth 100000 in
theorem cX12_number_ok (l : Launch) (D : va_G) (cI cJ : ClassId) (ad : Nat → Nat) (n : Nat × Nat) (S : MS) (a1 : Int64) {r : Int32} {T : MS} (h : fX12_number n S a1 = some (r, T)) : Mi l yX12_number wsX12_number (cRm 3 61 0 0) D cI cJ ad [.long a1] S (fun r1 u => r1 = r ∧ u = T) := by
  refine Mi_of (cc := cX12_number) (nL := 4) (ret := (some .int)) (by decide) rfl rfl (Nat.le_of_ble_eq_true rfl) ?_
  intro p e s m args below meth c A hx hb hr hlocks hml hts hown hA hK hP hD hS ls hl
  have hw : mWd D cI cJ ad A s.heap S s.heap [] := ⟨hP, hD, hS⟩
  unfold fX12_number at h
  have hin : ∀ w ∈ wsX120, w ∈ wsX12_number := fun w h => List.mem_cons_of_mem _ (List.mem_append_right _ h)
  have hl : lv_has ls 4 [(0, .ref (ad 0)), (1, .long a1)] := hl
  refine lv_aload_n hx hb dX12_number_0 rfl (lv_at hl 0 rfl) ?_
  refine N_get hx hb hts hin hown hK hw 62 (by decide) rfl (index := 303) (by decide +kernel) rfl dX12_number_1 ?_
  refine lv_topl (fun v1 ev1 => ?_)
  have h := of_bnd h ev1
  refine lv_l2i hx hb dX12_number_4 rfl ?_
  refine lv_topi (fun x5 ex5 => ?_)
  have h := of_bnd h ex5
  refine lv_istore_n (lv' := [(3, .int x5), (0, .ref (ad 0)), (1, .long a1)]) hx hb dX12_number_5 rfl hl (by decide) rfl (fun ls hl => ?_)
  refine lv_aload_n hx hb dX12_number_6 rfl (lv_at hl 1 rfl) ?_
  refine lv_aload_n hx hb dX12_number_7 rfl (lv_at hl 1 rfl) ?_
  refine N_get hx hb hts hin hown hK hw 61 (by decide) rfl (index := 312) (by decide +kernel) rfl dX12_number_8 ?_
  refine lv_topi (fun v8 ev8 => ?_)
  have h := of_bnd h ev8
  refine lv_iconst (v := 2) hx hb dX12_number_11 (by decide) ?_
  refine lv_icmp_ne (tgt := 28) hx hb dX12_number_12 (by decide) (fun c12 => ?_) (fun c12 => ?_)
  · have h := of_if h c12
    refine lv_iconst (v := 0) hx hb dX12_number_28 (by decide) ?_
    obtain ⟨q29, hq29, h⟩ := of_cal h
    obtain ⟨S29, eS29⟩ : ∃ x, x = q29 := ⟨_, rfl⟩
    subst eS29
    refine N_callv (av := [.int (0 : Int32)]) (rest := []) ⟨hx, hb, hml, hown, hts⟩ hA hK hw (cX12_must_ok l D cI cJ ad n S (0 : Int32) hq29) (cwV 1 hts gX12_number_X12_must rfl rfl rfl (by decide +kernel) ⟨Nat.le_of_ble_eq_true rfl, Nat.le_of_ble_eq_true rfl⟩) rfl hl.1 rfl (Nat.le_of_ble_eq_true rfl) dX12_number_29 ⟨Nat.le_refl _, Nat.le_refl _⟩ (fun H locs hw => ?_)
    refine lv_iload_n hx hb dX12_number_32 rfl (lv_at hl 0 rfl) ?_
    obtain ⟨rfl, rfl⟩ := of_ret2 h
    exact M_iret hx hb hr hlocks hK hw.1 hw.2.1 hw.2.2 dX12_number_33 ⟨rfl, rfl⟩
  · have h := of_it h c12
    refine lv_aload_n hx hb dX12_number_15 rfl (lv_at hl 1 rfl) ?_
    refine N_get hx hb hts hin hown hK hw 62 (by decide) rfl (index := 303) (by decide +kernel) rfl dX12_number_16 ?_
    refine lv_topl (fun v16 ev16 => ?_)
    have h := of_bnd h ev16
    refine lv_lload_n hx hb dX12_number_19 rfl (lv_at hl 2 rfl) ?_
    refine W.lcmp hx hb dX12_number_20 ?_
    refine lv_if_gt (tgt := 28) hx hb dX12_number_21 (by decide) (fun c21 => ?_) (fun c21 => ?_)
    · have h := of_it h c21
      refine lv_iconst (v := 0) hx hb dX12_number_28 (by decide) ?_
      obtain ⟨q29, hq29, h⟩ := of_cal h
      obtain ⟨S29, eS29⟩ : ∃ x, x = q29 := ⟨_, rfl⟩
      subst eS29
      refine N_callv (av := [.int (0 : Int32)]) (rest := []) ⟨hx, hb, hml, hown, hts⟩ hA hK hw (cX12_must_ok l D cI cJ ad n S (0 : Int32) hq29) (cwV 1 hts gX12_number_X12_must rfl rfl rfl (by decide +kernel) ⟨Nat.le_of_ble_eq_true rfl, Nat.le_of_ble_eq_true rfl⟩) rfl hl.1 rfl (Nat.le_of_ble_eq_true rfl) dX12_number_29 ⟨Nat.le_refl _, Nat.le_refl _⟩ (fun H locs hw => ?_)
      refine lv_iload_n hx hb dX12_number_32 rfl (lv_at hl 0 rfl) ?_
      obtain ⟨rfl, rfl⟩ := of_ret2 h
      exact M_iret hx hb hr hlocks hK hw.1 hw.2.1 hw.2.2 dX12_number_33 ⟨rfl, rfl⟩
    · have h := of_if h c21
      refine lv_iconst (v := 1) hx hb dX12_number_24 (by decide) ?_
      refine lv_goto (tgt := 29) hx hb dX12_number_25 (by decide) ?_
      obtain ⟨q29, hq29, h⟩ := of_cal h
      obtain ⟨S29, eS29⟩ : ∃ x, x = q29 := ⟨_, rfl⟩
      subst eS29
      refine N_callv (av := [.int (1 : Int32)]) (rest := []) ⟨hx, hb, hml, hown, hts⟩ hA hK hw (cX12_must_ok l D cI cJ ad n S (1 : Int32) hq29) (cwV 1 hts gX12_number_X12_must rfl rfl rfl (by decide +kernel) ⟨Nat.le_of_ble_eq_true rfl, Nat.le_of_ble_eq_true rfl⟩) rfl hl.1 rfl (Nat.le_of_ble_eq_true rfl) dX12_number_29 ⟨Nat.le_refl _, Nat.le_refl _⟩ (fun H locs hw => ?_)
      refine lv_iload_n hx hb dX12_number_32 rfl (lv_at hl 0 rfl) ?_
      obtain ⟨rfl, rfl⟩ := of_ret2 h
      exact M_iret hx hb hr hlocks hK hw.1 hw.2.1 hw.2.2 dX12_number_33 ⟨rfl, rfl⟩

def fX12_readRule (n : Nat × Nat) (S : MS)  : Option (MS) :=
  cal (fX12_isWord n S (110 : Int32) (101 : Int32) (101 : Int32) (100 : Int32) (0 : Int32)) (fun q10 => bnd (fun (z0_62 : Int32) (S : MS) => bnd (fun (z0_82 : Int32) (S : MS) => cal (fX12_must n S z0_82) (fun S82 => cal (fX12_number n S82 (9 : Int64)) (un2 fun r89 S89 => bnd (0 : Int32) (fun x94 => bnd (0 : Int32) (fun x96 => bnd (fun (l3_226 : Int32) (l4_226 : Int32) (S : MS) => bnd (mI S 64) (fun v227 => if v227 = 0 then 
          bnd (mI S 31) (fun v240 => grd (¬ (((4 : Int32) * v240) < 0 ∨ 120 ≤ ((4 : Int32) * v240).toNatClampNeg)) (bnd (sA S 30 (upd (mA S 30) ((4 : Int32) * v240).toNatClampNeg z0_62)) (fun S245 => bnd (mI S245 31) (fun v252 => bnd (fun (z0_268 : Int32) (S : MS) => grd (¬ ((((4 : Int32) * v252) + (1 : Int32)) < 0 ∨ 120 ≤ (((4 : Int32) * v252) + (1 : Int32)).toNatClampNeg)) (bnd (sA S 30 (upd (mA S 30) (((4 : Int32) * v252) + (1 : Int32)).toNatClampNeg z0_268)) (fun S268 => bnd (mI S268 31) (fun v275 => bnd (fun (z0_291 : Int32) (S : MS) => grd (¬ ((((4 : Int32) * v275) + (2 : Int32)) < 0 ∨ 120 ≤ (((4 : Int32) * v275) + (2 : Int32)).toNatClampNeg)) (bnd (sA S 30 (upd (mA S 30) (((4 : Int32) * v275) + (2 : Int32)).toNatClampNeg z0_291)) (fun S291 => bnd (mI S291 31) (fun v298 => grd (¬ ((((4 : Int32) * v298) + (3 : Int32)) < 0 ∨ 120 ≤ (((4 : Int32) * v298) + (3 : Int32)).toNatClampNeg)) (bnd (sA S291 30 (upd (mA S291 30) (((4 : Int32) * v298) + (3 : Int32)).toNatClampNeg l4_226)) (fun S306 => bnd (mI S306 31) (fun v309 => bnd (sI S306 31 (v309 + (1 : Int32))) (fun S314 => some S314)))))))) (fun j291 => if z0_62 = (2 : Int32) then 
              j291 r89 S268
              else j291 l3_226 S268))))) (fun j268 => if z0_62 = (2 : Int32) then 
            j268 l3_226 S245
            else j268 r89 S245)))))
          else some S)) (fun j226 => if z0_62 = 0 then 
        cal (fX12_number n S89 (100000 : Int64)) (un2 fun r106 S106 => bnd (mI S106 64) (fun v111 => if v111 = 0 then 
          cal (fX12_isWord n S106 (97 : Int32) (98 : Int32) (111 : Int32) (118 : Int32) (101 : Int32)) (fun q128 => if q128 = 0 then 
            j226 r106 x96 S106
            else cal (fX12_next n S106 ) (fun S135 => cal (fX12_number n S135 (12 : Int64)) (un2 fun r142 S142 => j226 r106 r142 S142)))
          else j226 r106 x96 S106))
        else if z0_62 = (1 : Int32) then 
          cal (fX12_number n S89 (1000 : Int64)) (un2 fun r159 S159 => j226 r159 x96 S159)
          else cal (fX12_isWord n S89 (102 : Int32) (111 : Int32) (114 : Int32) (0 : Int32) (0 : Int32)) (fun q176 => cal (fX12_must n S89 q176) (fun S179 => bnd (mL S179 62) (fun v183 => bnd v183.toInt32 (fun x187 => bnd (mI S179 61) (fun v190 => bnd (fun (z0_223 : Int32) (S : MS) => cal (fX12_must n S z0_223) (fun S223 => j226 x187 x96 S223)) (fun j223 => bnd (fun (S : MS) => j223 (0 : Int32) S) (fun j222 => if v190 = (2 : Int32) then 
            bnd (mL S179 62) (fun v198 => if 0 < (lg_cmp v198 (9 : Int64)) then 
              j222  S179
              else bnd (mL S179 62) (fun v209 => if (lg_cmp v209 r89.toInt64) = 0 then 
                j222  S179
                else j223 (1 : Int32) S179))
            else j222  S179))))))))))))) (fun j82 => bnd (fun (S : MS) => j82 (0 : Int32) S) (fun j81 => if z0_62 < 0 then 
      j81  S
      else bnd (mI S 31) (fun v69 => if (30 : Int32) ≤ v69 then 
        j81  S
        else j82 (1 : Int32) S)))) (fun j62 => if q10 = 0 then 
    cal (fX12_isWord n S (115 : Int32) (112 : Int32) (97 : Int32) (114 : Int32) (101 : Int32)) (fun q31 => if q31 = 0 then 
      cal (fX12_isWord n S (115 : Int32) (119 : Int32) (97 : Int32) (112 : Int32) (0 : Int32)) (fun q51 => if q51 = 0 then 
        j62 (-1 : Int32) S
        else j62 (2 : Int32) S)
      else j62 (1 : Int32) S)
    else j62 (0 : Int32) S))
set_option maxHeartbeats 8000000 in
set_option maxRecDepth 100000 in
theorem cX12_readRule_ok (l : Launch) (D : va_G) (cI cJ : ClassId) (ad : Nat → Nat) (n : Nat × Nat) (S : MS)  {T : MS} (h : fX12_readRule n S  = some T) : Mv l yX12_readRule wsX12_readRule (cRm 4 84 0 0) D cI cJ ad [] S (fun u => u = T) := by
  refine Mv_of (cc := cX12_readRule) (nL := 5) (ret := none) (by decide) rfl rfl (Nat.le_of_ble_eq_true rfl) ?_
  intro p e s m args below meth c A hx hb hr hlocks hml hts hown hA hK hP hD hS ls hl
  have hw : mWd D cI cJ ad A s.heap S s.heap [] := ⟨hP, hD, hS⟩
  unfold fX12_readRule at h
  have hin : ∀ w ∈ wsX120, w ∈ wsX12_readRule := fun w h => List.mem_cons_of_mem _ (List.mem_append_right _ h)
  have hl : lv_has ls 5 [(0, .ref (ad 0))] := hl
  refine lv_aload_n hx hb dX12_readRule_0 rfl (lv_at hl 0 rfl) ?_
  refine lv_bipush (v := 110) hx hb dX12_readRule_1 (by decide) ?_
  refine lv_bipush (v := 101) hx hb dX12_readRule_3 (by decide) ?_
  refine lv_bipush (v := 101) hx hb dX12_readRule_5 (by decide) ?_
  refine lv_bipush (v := 100) hx hb dX12_readRule_7 (by decide) ?_
  refine lv_iconst (v := 0) hx hb dX12_readRule_9 (by decide) ?_
  obtain ⟨q10, hq10, h⟩ := of_cal h
  refine N_calli (av := [.int (110 : Int32), .int (101 : Int32), .int (101 : Int32), .int (100 : Int32), .int (0 : Int32)]) (rest := []) ⟨hx, hb, hml, hown, hts⟩ hA hK hw (cX12_isWord_ok l D cI cJ ad n S (110 : Int32) (101 : Int32) (101 : Int32) (100 : Int32) (0 : Int32) hq10) (cwV 5 hts gX12_readRule_X12_isWord rfl rfl rfl (by decide +kernel) ⟨Nat.le_of_ble_eq_true rfl, Nat.le_of_ble_eq_true rfl⟩) rfl hl.1 rfl (Nat.le_of_ble_eq_true rfl) dX12_readRule_10 ⟨Nat.le_refl _, Nat.le_refl _⟩ (fun H locs hw => ?_)
  obtain ⟨j62, ej62, h⟩ := of_bndE h
  have hj62 : ∀ (z0_62 : Int32) (S : MS), j62 z0_62 S = some T → ∀ (H : Heap) (locs : List Loc), mWd D cI cJ ad A s.heap S H locs → ∀ ls : Array Slot, lv_has ls 5 [(0, .ref (ad 0))] → W p l e (cRm 4 84 0 0) s m args below meth c H locs (0) (0) (MQ below (va_Qv (fun u => u = T) (mAft D cI cJ ad A) A) args s 0 0 A) (F0 m 62 ls [.int z0_62]) := by
    intro z0_62 S h H locs hw ls hl
    rw [ej62] at h
    dsimp only at h
    refine lv_istore_n (lv' := [(1, .int z0_62), (0, .ref (ad 0))]) hx hb dX12_readRule_62 rfl hl (by decide) rfl (fun ls hl => ?_)
    refine lv_aload_n hx hb dX12_readRule_63 rfl (lv_at hl 1 rfl) ?_
    refine lv_iload_n hx hb dX12_readRule_64 rfl (lv_at hl 0 rfl) ?_
    obtain ⟨j82, ej82, h⟩ := of_bndE h
    have hj82 : ∀ (z0_82 : Int32) (S : MS), j82 z0_82 S = some T → ∀ (H : Heap) (locs : List Loc), mWd D cI cJ ad A s.heap S H locs → ∀ ls : Array Slot, lv_has ls 5 [(0, .ref (ad 0)), (1, .int z0_62)] → W p l e (cRm 4 84 0 0) s m args below meth c H locs (0) (0) (MQ below (va_Qv (fun u => u = T) (mAft D cI cJ ad A) A) args s 0 0 A) (F0 m 82 ls [.int z0_82, .ref (ad 0)]) := by
      intro z0_82 S h H locs hw ls hl
      rw [ej82] at h
      dsimp only at h
      obtain ⟨q82, hq82, h⟩ := of_cal h
      obtain ⟨S82, eS82⟩ : ∃ x, x = q82 := ⟨_, rfl⟩
      subst eS82
      refine N_callv (av := [.int z0_82]) (rest := []) ⟨hx, hb, hml, hown, hts⟩ hA hK hw (cX12_must_ok l D cI cJ ad n S z0_82 hq82) (cwV 1 hts gX12_readRule_X12_must rfl rfl rfl (by decide +kernel) ⟨Nat.le_of_ble_eq_true rfl, Nat.le_of_ble_eq_true rfl⟩) rfl hl.1 rfl (Nat.le_of_ble_eq_true rfl) dX12_readRule_82 ⟨Nat.le_refl _, Nat.le_refl _⟩ (fun H locs hw => ?_)
      refine lv_aload_n hx hb dX12_readRule_85 rfl (lv_at hl 0 rfl) ?_
      refine lv_ldc2 (v := 9) hx hb hown (hts (.constantLong RX12 162 (9)) (by decide +kernel)) dX12_readRule_86 ?_
      obtain ⟨q89, hq89, h⟩ := of_cal h
      obtain ⟨r89, S89⟩ := q89
      have h := of_un2 h
      refine N_calli (av := [.long (9 : Int64)]) (rest := []) ⟨hx, hb, hml, hown, hts⟩ hA hK hw (cX12_number_ok l D cI cJ ad n S82 (9 : Int64) hq89) (cwV 1 hts gX12_readRule_X12_number rfl rfl rfl (by decide +kernel) ⟨Nat.le_of_ble_eq_true rfl, Nat.le_of_ble_eq_true rfl⟩) rfl hl.1 rfl (Nat.le_of_ble_eq_true rfl) dX12_readRule_89 ⟨Nat.le_refl _, Nat.le_refl _⟩ (fun H locs hw => ?_)
      refine lv_istore_n (lv' := [(2, .int r89), (0, .ref (ad 0)), (1, .int z0_62)]) hx hb dX12_readRule_92 rfl hl (by decide) rfl (fun ls hl => ?_)
      refine lv_iconst (v := 0) hx hb dX12_readRule_93 (by decide) ?_
      refine lv_topi (fun x94 ex94 => ?_)
      have h := of_bnd h ex94
      refine lv_istore_n (lv' := [(3, .int x94), (2, .int r89), (0, .ref (ad 0)), (1, .int z0_62)]) hx hb dX12_readRule_94 rfl hl (by decide) rfl (fun ls hl => ?_)
      refine lv_iconst (v := 0) hx hb dX12_readRule_95 (by decide) ?_
      refine lv_topi (fun x96 ex96 => ?_)
      have h := of_bnd h ex96
      refine lv_istore (lv' := [(4, .int x96), (3, .int x94), (2, .int r89), (0, .ref (ad 0)), (1, .int z0_62)]) hx hb dX12_readRule_96 hl (by decide) rfl (fun ls hl => ?_)
      refine lv_iload_n hx hb dX12_readRule_98 rfl (lv_at hl 4 rfl) ?_
      obtain ⟨j226, ej226, h⟩ := of_bndE h
      have hj226 : ∀ (l3_226 : Int32) (l4_226 : Int32) (S : MS), j226 l3_226 l4_226 S = some T → ∀ (H : Heap) (locs : List Loc), mWd D cI cJ ad A s.heap S H locs → ∀ ls : Array Slot, lv_has ls 5 [(0, .ref (ad 0)), (1, .int z0_62), (2, .int r89), (3, .int l3_226), (4, .int l4_226)] → W p l e (cRm 4 84 0 0) s m args below meth c H locs (0) (0) (MQ below (va_Qv (fun u => u = T) (mAft D cI cJ ad A) A) args s 0 0 A) (F0 m 226 ls []) := by
        intro l3_226 l4_226 S h H locs hw ls hl
        rw [ej226] at h
        dsimp only at h
        refine lv_aload_n hx hb dX12_readRule_226 rfl (lv_at hl 0 rfl) ?_
        refine N_get hx hb hts hin hown hK hw 64 (by decide) rfl (index := 327) (by decide +kernel) rfl dX12_readRule_227 ?_
        refine lv_topi (fun v227 ev227 => ?_)
        have h := of_bnd h ev227
        refine lv_if_eq (tgt := 234) hx hb dX12_readRule_230 (by decide) (fun c230 => ?_) (fun c230 => ?_)
        · have h := of_it h c230
          refine lv_aload_n hx hb dX12_readRule_234 rfl (lv_at hl 0 rfl) ?_
          refine N_get hx hb hts hin hown hK hw 30 (by decide) rfl (index := 77) (by decide +kernel) rfl dX12_readRule_235 ?_
          refine lv_iconst (v := 4) hx hb dX12_readRule_238 (by decide) ?_
          refine lv_aload_n hx hb dX12_readRule_239 rfl (lv_at hl 0 rfl) ?_
          refine N_get hx hb hts hin hown hK hw 31 (by decide) rfl (index := 342) (by decide +kernel) rfl dX12_readRule_240 ?_
          refine lv_topi (fun v240 ev240 => ?_)
          have h := of_bnd h ev240
          refine lv_imul hx hb dX12_readRule_243 ?_
          refine lv_iload_n hx hb dX12_readRule_244 rfl (lv_at hl 1 rfl) ?_
          obtain ⟨hi245, h⟩ := of_grd h
          refine N_iast hx hb hK hw 23 rfl hi245 (pA_30 cI cJ ad S _) dX12_readRule_245 (fun S245 H locs eS245 hw => ?_)
          have h := of_bnd h eS245
          refine lv_aload_n hx hb dX12_readRule_246 rfl (lv_at hl 0 rfl) ?_
          refine N_get hx hb hts hin hown hK hw 30 (by decide) rfl (index := 77) (by decide +kernel) rfl dX12_readRule_247 ?_
          refine lv_iconst (v := 4) hx hb dX12_readRule_250 (by decide) ?_
          refine lv_aload_n hx hb dX12_readRule_251 rfl (lv_at hl 0 rfl) ?_
          refine N_get hx hb hts hin hown hK hw 31 (by decide) rfl (index := 342) (by decide +kernel) rfl dX12_readRule_252 ?_
          refine lv_topi (fun v252 ev252 => ?_)
          have h := of_bnd h ev252
          refine lv_imul hx hb dX12_readRule_255 ?_
          refine lv_iconst (v := 1) hx hb dX12_readRule_256 (by decide) ?_
          refine lv_iadd hx hb dX12_readRule_257 ?_
          refine lv_iload_n hx hb dX12_readRule_258 rfl (lv_at hl 1 rfl) ?_
          refine lv_iconst (v := 2) hx hb dX12_readRule_259 (by decide) ?_
          obtain ⟨j268, ej268, h⟩ := of_bndE h
          have hj268 : ∀ (z0_268 : Int32) (S : MS), j268 z0_268 S = some T → ∀ (H : Heap) (locs : List Loc), mWd D cI cJ ad A s.heap S H locs → ∀ ls : Array Slot, lv_has ls 5 [(0, .ref (ad 0)), (1, .int z0_62), (2, .int r89), (3, .int l3_226), (4, .int l4_226)] → W p l e (cRm 4 84 0 0) s m args below meth c H locs (0) (0) (MQ below (va_Qv (fun u => u = T) (mAft D cI cJ ad A) A) args s 0 0 A) (F0 m 268 ls [.int z0_268, .int (((4 : Int32) * v252) + (1 : Int32)), .ref (ad 30)]) := by
            intro z0_268 S h H locs hw ls hl
            rw [ej268] at h
            dsimp only at h
            obtain ⟨hi268, h⟩ := of_grd h
            refine N_iast hx hb hK hw 23 rfl hi268 (pA_30 cI cJ ad S _) dX12_readRule_268 (fun S268 H locs eS268 hw => ?_)
            have h := of_bnd h eS268
            refine lv_aload_n hx hb dX12_readRule_269 rfl (lv_at hl 0 rfl) ?_
            refine N_get hx hb hts hin hown hK hw 30 (by decide) rfl (index := 77) (by decide +kernel) rfl dX12_readRule_270 ?_
            refine lv_iconst (v := 4) hx hb dX12_readRule_273 (by decide) ?_
            refine lv_aload_n hx hb dX12_readRule_274 rfl (lv_at hl 0 rfl) ?_
            refine N_get hx hb hts hin hown hK hw 31 (by decide) rfl (index := 342) (by decide +kernel) rfl dX12_readRule_275 ?_
            refine lv_topi (fun v275 ev275 => ?_)
            have h := of_bnd h ev275
            refine lv_imul hx hb dX12_readRule_278 ?_
            refine lv_iconst (v := 2) hx hb dX12_readRule_279 (by decide) ?_
            refine lv_iadd hx hb dX12_readRule_280 ?_
            refine lv_iload_n hx hb dX12_readRule_281 rfl (lv_at hl 1 rfl) ?_
            refine lv_iconst (v := 2) hx hb dX12_readRule_282 (by decide) ?_
            obtain ⟨j291, ej291, h⟩ := of_bndE h
            have hj291 : ∀ (z0_291 : Int32) (S : MS), j291 z0_291 S = some T → ∀ (H : Heap) (locs : List Loc), mWd D cI cJ ad A s.heap S H locs → ∀ ls : Array Slot, lv_has ls 5 [(0, .ref (ad 0)), (4, .int l4_226)] → W p l e (cRm 4 84 0 0) s m args below meth c H locs (0) (0) (MQ below (va_Qv (fun u => u = T) (mAft D cI cJ ad A) A) args s 0 0 A) (F0 m 291 ls [.int z0_291, .int (((4 : Int32) * v275) + (2 : Int32)), .ref (ad 30)]) := by
              intro z0_291 S h H locs hw ls hl
              rw [ej291] at h
              dsimp only at h
              obtain ⟨hi291, h⟩ := of_grd h
              refine N_iast hx hb hK hw 23 rfl hi291 (pA_30 cI cJ ad S _) dX12_readRule_291 (fun S291 H locs eS291 hw => ?_)
              have h := of_bnd h eS291
              refine lv_aload_n hx hb dX12_readRule_292 rfl (lv_at hl 0 rfl) ?_
              refine N_get hx hb hts hin hown hK hw 30 (by decide) rfl (index := 77) (by decide +kernel) rfl dX12_readRule_293 ?_
              refine lv_iconst (v := 4) hx hb dX12_readRule_296 (by decide) ?_
              refine lv_aload_n hx hb dX12_readRule_297 rfl (lv_at hl 0 rfl) ?_
              refine N_get hx hb hts hin hown hK hw 31 (by decide) rfl (index := 342) (by decide +kernel) rfl dX12_readRule_298 ?_
              refine lv_topi (fun v298 ev298 => ?_)
              have h := of_bnd h ev298
              refine lv_imul hx hb dX12_readRule_301 ?_
              refine lv_iconst (v := 3) hx hb dX12_readRule_302 (by decide) ?_
              refine lv_iadd hx hb dX12_readRule_303 ?_
              refine lv_iload hx hb dX12_readRule_304 (lv_at hl 1 rfl) ?_
              obtain ⟨hi306, h⟩ := of_grd h
              refine N_iast hx hb hK hw 23 rfl hi306 (pA_30 cI cJ ad S291 _) dX12_readRule_306 (fun S306 H locs eS306 hw => ?_)
              have h := of_bnd h eS306
              refine lv_aload_n hx hb dX12_readRule_307 rfl (lv_at hl 0 rfl) ?_
              refine lv_dup hx hb dX12_readRule_308 rfl ?_
              refine N_get hx hb hts hin hown hK hw 31 (by decide) rfl (index := 342) (by decide +kernel) rfl dX12_readRule_309 ?_
              refine lv_topi (fun v309 ev309 => ?_)
              have h := of_bnd h ev309
              refine lv_iconst (v := 1) hx hb dX12_readRule_312 (by decide) ?_
              refine lv_iadd hx hb dX12_readRule_313 ?_
              refine N_put hx hb hts hin hown hK hw 31 (by decide) rfl rfl (index := 342) (by decide +kernel) (ty := .int) (by decide +kernel) rfl rfl (pI_31 cI cJ ad S306 _) dX12_readRule_314 (fun S314 H locs eS314 hw => ?_)
              have h := of_bnd h eS314
              obtain rfl := Option.some.inj h
              exact M_vret hx hb hr hlocks hK hw.1 hw.2.1 hw.2.2 dX12_readRule_317 rfl
            refine lv_icmp_ne (tgt := 290) hx hb dX12_readRule_283 (by decide) (fun c283 => ?_) (fun c283 => ?_)
            · have h := of_if h c283
              refine lv_iload_n hx hb dX12_readRule_290 rfl (lv_at hl 3 rfl) ?_
              exact hj291 l3_226 S268 h _ _ hw ls (lv_sub hl [0, 4] rfl)
            · have h := of_it h c283
              refine lv_iload_n hx hb dX12_readRule_286 rfl (lv_at hl 2 rfl) ?_
              refine lv_goto (tgt := 291) hx hb dX12_readRule_287 (by decide) ?_
              exact hj291 r89 S268 h _ _ hw ls (lv_sub hl [0, 4] rfl)
          refine lv_icmp_ne (tgt := 267) hx hb dX12_readRule_260 (by decide) (fun c260 => ?_) (fun c260 => ?_)
          · have h := of_if h c260
            refine lv_iload_n hx hb dX12_readRule_267 rfl (lv_at hl 2 rfl) ?_
            exact hj268 r89 S245 h _ _ hw ls (lv_sub hl [0, 1, 2, 3, 4] rfl)
          · have h := of_it h c260
            refine lv_iload_n hx hb dX12_readRule_263 rfl (lv_at hl 3 rfl) ?_
            refine lv_goto (tgt := 268) hx hb dX12_readRule_264 (by decide) ?_
            exact hj268 l3_226 S245 h _ _ hw ls (lv_sub hl [0, 1, 2, 3, 4] rfl)
        · have h := of_if h c230
          obtain rfl := Option.some.inj h
          exact M_vret hx hb hr hlocks hK hw.1 hw.2.1 hw.2.2 dX12_readRule_233 rfl
      refine lv_if_ne (tgt := 150) hx hb dX12_readRule_99 (by decide) (fun c99 => ?_) (fun c99 => ?_)
      · have h := of_if h c99
        refine lv_iload_n hx hb dX12_readRule_150 rfl (lv_at hl 4 rfl) ?_
        refine lv_iconst (v := 1) hx hb dX12_readRule_151 (by decide) ?_
        refine lv_icmp_ne (tgt := 166) hx hb dX12_readRule_152 (by decide) (fun c152 => ?_) (fun c152 => ?_)
        · have h := of_if h c152
          refine lv_aload_n hx hb dX12_readRule_166 rfl (lv_at hl 3 rfl) ?_
          refine lv_aload_n hx hb dX12_readRule_167 rfl (lv_at hl 3 rfl) ?_
          refine lv_bipush (v := 102) hx hb dX12_readRule_168 (by decide) ?_
          refine lv_bipush (v := 111) hx hb dX12_readRule_170 (by decide) ?_
          refine lv_bipush (v := 114) hx hb dX12_readRule_172 (by decide) ?_
          refine lv_iconst (v := 0) hx hb dX12_readRule_174 (by decide) ?_
          refine lv_iconst (v := 0) hx hb dX12_readRule_175 (by decide) ?_
          obtain ⟨q176, hq176, h⟩ := of_cal h
          refine N_calli (av := [.int (102 : Int32), .int (111 : Int32), .int (114 : Int32), .int (0 : Int32), .int (0 : Int32)]) (rest := [.ref (ad 0)]) ⟨hx, hb, hml, hown, hts⟩ hA hK hw (cX12_isWord_ok l D cI cJ ad n S89 (102 : Int32) (111 : Int32) (114 : Int32) (0 : Int32) (0 : Int32) hq176) (cwV 5 hts gX12_readRule_X12_isWord rfl rfl rfl (by decide +kernel) ⟨Nat.le_of_ble_eq_true rfl, Nat.le_of_ble_eq_true rfl⟩) rfl hl.1 rfl (Nat.le_of_ble_eq_true rfl) dX12_readRule_176 ⟨Nat.le_refl _, Nat.le_refl _⟩ (fun H locs hw => ?_)
          obtain ⟨q179, hq179, h⟩ := of_cal h
          obtain ⟨S179, eS179⟩ : ∃ x, x = q179 := ⟨_, rfl⟩
          subst eS179
          refine N_callv (av := [.int q176]) (rest := []) ⟨hx, hb, hml, hown, hts⟩ hA hK hw (cX12_must_ok l D cI cJ ad n S89 q176 hq179) (cwV 1 hts gX12_readRule_X12_must rfl rfl rfl (by decide +kernel) ⟨Nat.le_of_ble_eq_true rfl, Nat.le_of_ble_eq_true rfl⟩) rfl hl.1 rfl (Nat.le_of_ble_eq_true rfl) dX12_readRule_179 ⟨Nat.le_refl _, Nat.le_refl _⟩ (fun H locs hw => ?_)
          refine lv_aload_n hx hb dX12_readRule_182 rfl (lv_at hl 3 rfl) ?_
          refine N_get hx hb hts hin hown hK hw 62 (by decide) rfl (index := 303) (by decide +kernel) rfl dX12_readRule_183 ?_
          refine lv_topl (fun v183 ev183 => ?_)
          have h := of_bnd h ev183
          refine lv_l2i hx hb dX12_readRule_186 rfl ?_
          refine lv_topi (fun x187 ex187 => ?_)
          have h := of_bnd h ex187
          refine lv_istore_n (lv' := [(3, .int x187), (4, .int x96), (2, .int r89), (0, .ref (ad 0)), (1, .int z0_62)]) hx hb dX12_readRule_187 rfl hl (by decide) rfl (fun ls hl => ?_)
          refine lv_aload_n hx hb dX12_readRule_188 rfl (lv_at hl 3 rfl) ?_
          refine lv_aload_n hx hb dX12_readRule_189 rfl (lv_at hl 3 rfl) ?_
          refine N_get hx hb hts hin hown hK hw 61 (by decide) rfl (index := 312) (by decide +kernel) rfl dX12_readRule_190 ?_
          refine lv_topi (fun v190 ev190 => ?_)
          have h := of_bnd h ev190
          refine lv_iconst (v := 2) hx hb dX12_readRule_193 (by decide) ?_
          obtain ⟨j223, ej223, h⟩ := of_bndE h
          have hj223 : ∀ (z0_223 : Int32) (S : MS), j223 z0_223 S = some T → ∀ (H : Heap) (locs : List Loc), mWd D cI cJ ad A s.heap S H locs → ∀ ls : Array Slot, lv_has ls 5 [(0, .ref (ad 0)), (1, .int z0_62), (2, .int r89), (3, .int x187), (4, .int x96)] → W p l e (cRm 4 84 0 0) s m args below meth c H locs (0) (0) (MQ below (va_Qv (fun u => u = T) (mAft D cI cJ ad A) A) args s 0 0 A) (F0 m 223 ls [.int z0_223, .ref (ad 0)]) := by
            intro z0_223 S h H locs hw ls hl
            rw [ej223] at h
            dsimp only at h
            obtain ⟨q223, hq223, h⟩ := of_cal h
            obtain ⟨S223, eS223⟩ : ∃ x, x = q223 := ⟨_, rfl⟩
            subst eS223
            refine N_callv (av := [.int z0_223]) (rest := []) ⟨hx, hb, hml, hown, hts⟩ hA hK hw (cX12_must_ok l D cI cJ ad n S z0_223 hq223) (cwV 1 hts gX12_readRule_X12_must rfl rfl rfl (by decide +kernel) ⟨Nat.le_of_ble_eq_true rfl, Nat.le_of_ble_eq_true rfl⟩) rfl hl.1 rfl (Nat.le_of_ble_eq_true rfl) dX12_readRule_223 ⟨Nat.le_refl _, Nat.le_refl _⟩ (fun H locs hw => ?_)
            exact hj226 x187 x96 S223 h _ _ hw ls (lv_sub hl [0, 1, 2, 3, 4] rfl)
          obtain ⟨j222, ej222, h⟩ := of_bndE h
          have hj222 : ∀ (S : MS), j222 S = some T → ∀ (H : Heap) (locs : List Loc), mWd D cI cJ ad A s.heap S H locs → ∀ ls : Array Slot, lv_has ls 5 [(0, .ref (ad 0)), (1, .int z0_62), (2, .int r89), (3, .int x187), (4, .int x96)] → W p l e (cRm 4 84 0 0) s m args below meth c H locs (0) (0) (MQ below (va_Qv (fun u => u = T) (mAft D cI cJ ad A) A) args s 0 0 A) (F0 m 222 ls [.ref (ad 0)]) := by
            intro S h H locs hw ls hl
            rw [ej222] at h
            dsimp only at h
            refine lv_iconst (v := 0) hx hb dX12_readRule_222 (by decide) ?_
            exact hj223 (0 : Int32) S h _ _ hw ls (lv_sub hl [0, 1, 2, 3, 4] rfl)
          refine lv_icmp_ne (tgt := 222) hx hb dX12_readRule_194 (by decide) (fun c194 => ?_) (fun c194 => ?_)
          · have h := of_if h c194
            exact hj222  S179 h _ _ hw ls (lv_sub hl [3, 4, 2, 0, 1] rfl)
          · have h := of_it h c194
            refine lv_aload_n hx hb dX12_readRule_197 rfl (lv_at hl 3 rfl) ?_
            refine N_get hx hb hts hin hown hK hw 62 (by decide) rfl (index := 303) (by decide +kernel) rfl dX12_readRule_198 ?_
            refine lv_topl (fun v198 ev198 => ?_)
            have h := of_bnd h ev198
            refine lv_ldc2 (v := 9) hx hb hown (hts (.constantLong RX12 162 (9)) (by decide +kernel)) dX12_readRule_201 ?_
            refine W.lcmp hx hb dX12_readRule_204 ?_
            refine lv_if_gt (tgt := 222) hx hb dX12_readRule_205 (by decide) (fun c205 => ?_) (fun c205 => ?_)
            · have h := of_it h c205
              exact hj222  S179 h _ _ hw ls (lv_sub hl [3, 4, 2, 0, 1] rfl)
            · have h := of_if h c205
              refine lv_aload_n hx hb dX12_readRule_208 rfl (lv_at hl 3 rfl) ?_
              refine N_get hx hb hts hin hown hK hw 62 (by decide) rfl (index := 303) (by decide +kernel) rfl dX12_readRule_209 ?_
              refine lv_topl (fun v209 ev209 => ?_)
              have h := of_bnd h ev209
              refine lv_iload_n hx hb dX12_readRule_212 rfl (lv_at hl 2 rfl) ?_
              refine lv_i2l hx hb dX12_readRule_213 rfl ?_
              refine W.lcmp hx hb dX12_readRule_214 ?_
              refine lv_if_eq (tgt := 222) hx hb dX12_readRule_215 (by decide) (fun c215 => ?_) (fun c215 => ?_)
              · have h := of_it h c215
                exact hj222  S179 h _ _ hw ls (lv_sub hl [3, 4, 2, 0, 1] rfl)
              · have h := of_if h c215
                refine lv_iconst (v := 1) hx hb dX12_readRule_218 (by decide) ?_
                refine lv_goto (tgt := 223) hx hb dX12_readRule_219 (by decide) ?_
                exact hj223 (1 : Int32) S179 h _ _ hw ls (lv_sub hl [3, 4, 2, 0, 1] rfl)
        · have h := of_it h c152
          refine lv_aload_n hx hb dX12_readRule_155 rfl (lv_at hl 3 rfl) ?_
          refine lv_ldc2 (v := 1000) hx hb hown (hts (.constantLong RX12 192 (1000)) (by decide +kernel)) dX12_readRule_156 ?_
          obtain ⟨q159, hq159, h⟩ := of_cal h
          obtain ⟨r159, S159⟩ := q159
          have h := of_un2 h
          refine N_calli (av := [.long (1000 : Int64)]) (rest := []) ⟨hx, hb, hml, hown, hts⟩ hA hK hw (cX12_number_ok l D cI cJ ad n S89 (1000 : Int64) hq159) (cwV 1 hts gX12_readRule_X12_number rfl rfl rfl (by decide +kernel) ⟨Nat.le_of_ble_eq_true rfl, Nat.le_of_ble_eq_true rfl⟩) rfl hl.1 rfl (Nat.le_of_ble_eq_true rfl) dX12_readRule_159 ⟨Nat.le_refl _, Nat.le_refl _⟩ (fun H locs hw => ?_)
          refine lv_istore_n (lv' := [(3, .int r159), (4, .int x96), (2, .int r89), (0, .ref (ad 0)), (1, .int z0_62)]) hx hb dX12_readRule_162 rfl hl (by decide) rfl (fun ls hl => ?_)
          refine lv_goto (tgt := 226) hx hb dX12_readRule_163 (by decide) ?_
          exact hj226 r159 x96 S159 h _ _ hw ls (lv_sub hl [3, 4, 2, 0, 1] rfl)
      · have h := of_it h c99
        refine lv_aload_n hx hb dX12_readRule_102 rfl (lv_at hl 3 rfl) ?_
        refine lv_ldc2 (v := 100000) hx hb hown (hts (.constantLong RX12 349 (100000)) (by decide +kernel)) dX12_readRule_103 ?_
        obtain ⟨q106, hq106, h⟩ := of_cal h
        obtain ⟨r106, S106⟩ := q106
        have h := of_un2 h
        refine N_calli (av := [.long (100000 : Int64)]) (rest := []) ⟨hx, hb, hml, hown, hts⟩ hA hK hw (cX12_number_ok l D cI cJ ad n S89 (100000 : Int64) hq106) (cwV 1 hts gX12_readRule_X12_number rfl rfl rfl (by decide +kernel) ⟨Nat.le_of_ble_eq_true rfl, Nat.le_of_ble_eq_true rfl⟩) rfl hl.1 rfl (Nat.le_of_ble_eq_true rfl) dX12_readRule_106 ⟨Nat.le_refl _, Nat.le_refl _⟩ (fun H locs hw => ?_)
        refine lv_istore_n (lv' := [(3, .int r106), (4, .int x96), (2, .int r89), (0, .ref (ad 0)), (1, .int z0_62)]) hx hb dX12_readRule_109 rfl hl (by decide) rfl (fun ls hl => ?_)
        refine lv_aload_n hx hb dX12_readRule_110 rfl (lv_at hl 3 rfl) ?_
        refine N_get hx hb hts hin hown hK hw 64 (by decide) rfl (index := 327) (by decide +kernel) rfl dX12_readRule_111 ?_
        refine lv_topi (fun v111 ev111 => ?_)
        have h := of_bnd h ev111
        refine lv_if_ne (tgt := 226) hx hb dX12_readRule_114 (by decide) (fun c114 => ?_) (fun c114 => ?_)
        · have h := of_if h c114
          exact hj226 r106 x96 S106 h _ _ hw ls (lv_sub hl [3, 4, 2, 0, 1] rfl)
        · have h := of_it h c114
          refine lv_aload_n hx hb dX12_readRule_117 rfl (lv_at hl 3 rfl) ?_
          refine lv_bipush (v := 97) hx hb dX12_readRule_118 (by decide) ?_
          refine lv_bipush (v := 98) hx hb dX12_readRule_120 (by decide) ?_
          refine lv_bipush (v := 111) hx hb dX12_readRule_122 (by decide) ?_
          refine lv_bipush (v := 118) hx hb dX12_readRule_124 (by decide) ?_
          refine lv_bipush (v := 101) hx hb dX12_readRule_126 (by decide) ?_
          obtain ⟨q128, hq128, h⟩ := of_cal h
          refine N_calli (av := [.int (97 : Int32), .int (98 : Int32), .int (111 : Int32), .int (118 : Int32), .int (101 : Int32)]) (rest := []) ⟨hx, hb, hml, hown, hts⟩ hA hK hw (cX12_isWord_ok l D cI cJ ad n S106 (97 : Int32) (98 : Int32) (111 : Int32) (118 : Int32) (101 : Int32) hq128) (cwV 5 hts gX12_readRule_X12_isWord rfl rfl rfl (by decide +kernel) ⟨Nat.le_of_ble_eq_true rfl, Nat.le_of_ble_eq_true rfl⟩) rfl hl.1 rfl (Nat.le_of_ble_eq_true rfl) dX12_readRule_128 ⟨Nat.le_refl _, Nat.le_refl _⟩ (fun H locs hw => ?_)
          refine lv_if_eq (tgt := 226) hx hb dX12_readRule_131 (by decide) (fun c131 => ?_) (fun c131 => ?_)
          · have h := of_it h c131
            exact hj226 r106 x96 S106 h _ _ hw ls (lv_sub hl [3, 4, 2, 0, 1] rfl)
          · have h := of_if h c131
            refine lv_aload_n hx hb dX12_readRule_134 rfl (lv_at hl 3 rfl) ?_
            obtain ⟨q135, hq135, h⟩ := of_cal h
            obtain ⟨S135, eS135⟩ : ∃ x, x = q135 := ⟨_, rfl⟩
            subst eS135
            refine N_callv (av := []) (rest := []) ⟨hx, hb, hml, hown, hts⟩ hA hK hw (cX12_next_ok l D cI cJ ad n S106  hq135) (cwV 0 hts gX12_readRule_X12_next rfl rfl rfl (by decide +kernel) ⟨Nat.le_of_ble_eq_true rfl, Nat.le_of_ble_eq_true rfl⟩) rfl hl.1 rfl (Nat.le_of_ble_eq_true rfl) dX12_readRule_135 ⟨Nat.le_refl _, Nat.le_refl _⟩ (fun H locs hw => ?_)
            refine lv_aload_n hx hb dX12_readRule_138 rfl (lv_at hl 3 rfl) ?_
            refine lv_ldc2 (v := 12) hx hb hown (hts (.constantLong RX12 199 (12)) (by decide +kernel)) dX12_readRule_139 ?_
            obtain ⟨q142, hq142, h⟩ := of_cal h
            obtain ⟨r142, S142⟩ := q142
            have h := of_un2 h
            refine N_calli (av := [.long (12 : Int64)]) (rest := []) ⟨hx, hb, hml, hown, hts⟩ hA hK hw (cX12_number_ok l D cI cJ ad n S135 (12 : Int64) hq142) (cwV 1 hts gX12_readRule_X12_number rfl rfl rfl (by decide +kernel) ⟨Nat.le_of_ble_eq_true rfl, Nat.le_of_ble_eq_true rfl⟩) rfl hl.1 rfl (Nat.le_of_ble_eq_true rfl) dX12_readRule_142 ⟨Nat.le_refl _, Nat.le_refl _⟩ (fun H locs hw => ?_)
            refine lv_istore (lv' := [(4, .int r142), (3, .int r106), (2, .int r89), (0, .ref (ad 0)), (1, .int z0_62)]) hx hb dX12_readRule_145 hl (by decide) rfl (fun ls hl => ?_)
            refine lv_goto (tgt := 226) hx hb dX12_readRule_147 (by decide) ?_
            exact hj226 r106 r142 S142 h _ _ hw ls (lv_sub hl [3, 4, 2, 1, 0] rfl)
    obtain ⟨j81, ej81, h⟩ := of_bndE h
    have hj81 : ∀ (S : MS), j81 S = some T → ∀ (H : Heap) (locs : List Loc), mWd D cI cJ ad A s.heap S H locs → ∀ ls : Array Slot, lv_has ls 5 [(0, .ref (ad 0)), (1, .int z0_62)] → W p l e (cRm 4 84 0 0) s m args below meth c H locs (0) (0) (MQ below (va_Qv (fun u => u = T) (mAft D cI cJ ad A) A) args s 0 0 A) (F0 m 81 ls [.ref (ad 0)]) := by
      intro S h H locs hw ls hl
      rw [ej81] at h
      dsimp only at h
      refine lv_iconst (v := 0) hx hb dX12_readRule_81 (by decide) ?_
      exact hj82 (0 : Int32) S h _ _ hw ls (lv_sub hl [0, 1] rfl)
    refine lv_if_lt (tgt := 81) hx hb dX12_readRule_65 (by decide) (fun c65 => ?_) (fun c65 => ?_)
    · have h := of_it h c65
      exact hj81  S h _ _ hw ls (lv_sub hl [1, 0] rfl)
    · have h := of_if h c65
      refine lv_aload_n hx hb dX12_readRule_68 rfl (lv_at hl 1 rfl) ?_
      refine N_get hx hb hts hin hown hK hw 31 (by decide) rfl (index := 342) (by decide +kernel) rfl dX12_readRule_69 ?_
      refine lv_topi (fun v69 ev69 => ?_)
      have h := of_bnd h ev69
      refine lv_bipush (v := 30) hx hb dX12_readRule_72 (by decide) ?_
      refine lv_icmp_ge (tgt := 81) hx hb dX12_readRule_74 (by decide) (fun c74 => ?_) (fun c74 => ?_)
      · have h := of_it h c74
        exact hj81  S h _ _ hw ls (lv_sub hl [1, 0] rfl)
      · have h := of_if h c74
        refine lv_iconst (v := 1) hx hb dX12_readRule_77 (by decide) ?_
        refine lv_goto (tgt := 82) hx hb dX12_readRule_78 (by decide) ?_
        exact hj82 (1 : Int32) S h _ _ hw ls (lv_sub hl [1, 0] rfl)
  refine lv_if_eq (tgt := 20) hx hb dX12_readRule_13 (by decide) (fun c13 => ?_) (fun c13 => ?_)
  · have h := of_it h c13
    refine lv_aload_n hx hb dX12_readRule_20 rfl (lv_at hl 0 rfl) ?_
    refine lv_bipush (v := 115) hx hb dX12_readRule_21 (by decide) ?_
    refine lv_bipush (v := 112) hx hb dX12_readRule_23 (by decide) ?_
    refine lv_bipush (v := 97) hx hb dX12_readRule_25 (by decide) ?_
    refine lv_bipush (v := 114) hx hb dX12_readRule_27 (by decide) ?_
    refine lv_bipush (v := 101) hx hb dX12_readRule_29 (by decide) ?_
    obtain ⟨q31, hq31, h⟩ := of_cal h
    refine N_calli (av := [.int (115 : Int32), .int (112 : Int32), .int (97 : Int32), .int (114 : Int32), .int (101 : Int32)]) (rest := []) ⟨hx, hb, hml, hown, hts⟩ hA hK hw (cX12_isWord_ok l D cI cJ ad n S (115 : Int32) (112 : Int32) (97 : Int32) (114 : Int32) (101 : Int32) hq31) (cwV 5 hts gX12_readRule_X12_isWord rfl rfl rfl (by decide +kernel) ⟨Nat.le_of_ble_eq_true rfl, Nat.le_of_ble_eq_true rfl⟩) rfl hl.1 rfl (Nat.le_of_ble_eq_true rfl) dX12_readRule_31 ⟨Nat.le_refl _, Nat.le_refl _⟩ (fun H locs hw => ?_)
    refine lv_if_eq (tgt := 41) hx hb dX12_readRule_34 (by decide) (fun c34 => ?_) (fun c34 => ?_)
    · have h := of_it h c34
      refine lv_aload_n hx hb dX12_readRule_41 rfl (lv_at hl 0 rfl) ?_
      refine lv_bipush (v := 115) hx hb dX12_readRule_42 (by decide) ?_
      refine lv_bipush (v := 119) hx hb dX12_readRule_44 (by decide) ?_
      refine lv_bipush (v := 97) hx hb dX12_readRule_46 (by decide) ?_
      refine lv_bipush (v := 112) hx hb dX12_readRule_48 (by decide) ?_
      refine lv_iconst (v := 0) hx hb dX12_readRule_50 (by decide) ?_
      obtain ⟨q51, hq51, h⟩ := of_cal h
      refine N_calli (av := [.int (115 : Int32), .int (119 : Int32), .int (97 : Int32), .int (112 : Int32), .int (0 : Int32)]) (rest := []) ⟨hx, hb, hml, hown, hts⟩ hA hK hw (cX12_isWord_ok l D cI cJ ad n S (115 : Int32) (119 : Int32) (97 : Int32) (112 : Int32) (0 : Int32) hq51) (cwV 5 hts gX12_readRule_X12_isWord rfl rfl rfl (by decide +kernel) ⟨Nat.le_of_ble_eq_true rfl, Nat.le_of_ble_eq_true rfl⟩) rfl hl.1 rfl (Nat.le_of_ble_eq_true rfl) dX12_readRule_51 ⟨Nat.le_refl _, Nat.le_refl _⟩ (fun H locs hw => ?_)
      refine lv_if_eq (tgt := 61) hx hb dX12_readRule_54 (by decide) (fun c54 => ?_) (fun c54 => ?_)
      · have h := of_it h c54
        refine lv_iconst (v := -1) hx hb dX12_readRule_61 (by decide) ?_
        exact hj62 (-1 : Int32) S h _ _ hw ls (lv_sub hl [0] rfl)
      · have h := of_if h c54
        refine lv_iconst (v := 2) hx hb dX12_readRule_57 (by decide) ?_
        refine lv_goto (tgt := 62) hx hb dX12_readRule_58 (by decide) ?_
        exact hj62 (2 : Int32) S h _ _ hw ls (lv_sub hl [0] rfl)
    · have h := of_if h c34
      refine lv_iconst (v := 1) hx hb dX12_readRule_37 (by decide) ?_
      refine lv_goto (tgt := 62) hx hb dX12_readRule_38 (by decide) ?_
      exact hj62 (1 : Int32) S h _ _ hw ls (lv_sub hl [0] rfl)
  · have h := of_if h c13
    refine lv_iconst (v := 0) hx hb dX12_readRule_16 (by decide) ?_
    refine lv_goto (tgt := 62) hx hb dX12_readRule_17 (by decide) ?_
    exact hj62 (0 : Int32) S h _ _ hw ls (lv_sub hl [0] rfl)

def fX12_rules_lp125 (n : Nat × Nat) : Nat → Int32 → MS → Option (MS)
  | 0, _, _ => none
  | k + 1, l1, S =>
    bnd (mI S 25) (fun v127 => if v127 ≤ l1 then 
            some S
            else grd (¬ (((4 : Int32) * l1) < 0 ∨ 120 ≤ ((4 : Int32) * l1).toNatClampNeg)) (bnd (mA S 30 ((4 : Int32) * l1).toNatClampNeg) (fun v145 => grd (¬ (l1 < 0 ∨ 30 ≤ l1.toNatClampNeg)) (bnd (sA S 26 (upd (mA S 26) l1.toNatClampNeg v145)) (fun S146 => grd (¬ ((((4 : Int32) * l1) + (1 : Int32)) < 0 ∨ 120 ≤ (((4 : Int32) * l1) + (1 : Int32)).toNatClampNeg)) (bnd (mA S146 30 (((4 : Int32) * l1) + (1 : Int32)).toNatClampNeg) (fun v161 => grd (¬ (l1 < 0 ∨ 30 ≤ l1.toNatClampNeg)) (bnd (sA S146 27 (upd (mA S146 27) l1.toNatClampNeg v161)) (fun S162 => grd (¬ ((((4 : Int32) * l1) + (2 : Int32)) < 0 ∨ 120 ≤ (((4 : Int32) * l1) + (2 : Int32)).toNatClampNeg)) (bnd (mA S162 30 (((4 : Int32) * l1) + (2 : Int32)).toNatClampNeg) (fun v177 => grd (¬ (l1 < 0 ∨ 30 ≤ l1.toNatClampNeg)) (bnd (sA S162 28 (upd (mA S162 28) l1.toNatClampNeg v177)) (fun S178 => grd (¬ ((((4 : Int32) * l1) + (3 : Int32)) < 0 ∨ 120 ≤ (((4 : Int32) * l1) + (3 : Int32)).toNatClampNeg)) (bnd (mA S178 30 (((4 : Int32) * l1) + (3 : Int32)).toNatClampNeg) (fun v193 => grd (¬ (l1 < 0 ∨ 30 ≤ l1.toNatClampNeg)) (bnd (sA S178 29 (upd (mA S178 29) l1.toNatClampNeg v193)) (fun S194 => bnd (l1 + 1) (fun x195 => fX12_rules_lp125 n k x195 S194))))))))))))))))))
def fX12_rules_lp40 (n : Nat × Nat) : Nat → MS → Option (MS)
  | 0, _ => none
  | k + 1, S =>
    bnd (mI S 64) (fun v41 => if v41 = 0 then 
          bnd (mI S 61) (fun v48 => if v48 = (3 : Int32) then 
            bnd (mL S 62) (fun v56 => if (lg_cmp v56 (59 : Int64)) = 0 then 
              cal (fX12_next n S ) (fun S67 => cal (fX12_readRule n S67 ) (fun S71 => fX12_rules_lp40 n k S71))
              else some S)
            else some S)
          else some S)
def fX12_rules (n : Nat × Nat) (S : MS)  : Option (Int32 × MS) :=
  bnd (sI S 0 (0 : Int32)) (fun S2 => bnd (sI S2 60 (0 : Int32)) (fun S7 => bnd (sI S7 64 (0 : Int32)) (fun S12 => bnd (sI S12 63 (-1 : Int32)) (fun S17 => bnd (sI S17 31 (0 : Int32)) (fun S22 => cal (fX12_next n S22 ) (fun S26 => bnd (mI S26 61) (fun v30 => bnd (fun (S : MS) => bnd (sI S 58 (0 : Int32)) (fun S98 => bnd (mI S98 64) (fun v102 => if v102 = 0 then 
      bnd (mI S98 31) (fun v117 => bnd (sI S98 25 v117) (fun S120 => bnd (0 : Int32) (fun x124 => cal (fX12_rules_lp125 n n.1 x124 S120) (fun S125 => bnd (mI S125 25) (fun v203 => cal (fX12_told n S125 v203) (un2 fun r206 S206 => some (r206, S206)))))))
      else cal (fX12_told n S98 (-6 : Int32)) (un2 fun r111 S111 => some (r111, S111))))) (fun j96 => if v30 = 0 then 
    j96  S26
    else cal (fX12_readRule n S26 ) (fun S37 => cal (fX12_rules_lp40 n n.1 S37) (fun S40 => bnd (mI S40 64) (fun v78 => if v78 = 0 then 
        bnd (mI S40 61) (fun v85 => if v85 = 0 then 
          j96  S40
          else cal (fX12_must n S40 (0 : Int32)) (fun S93 => j96  S93))
        else j96  S40)))))))))))
set_option maxHeartbeats 8000000 in
set_option maxRecDepth 100000 in
theorem cX12_rules_ok (l : Launch) (D : va_G) (cI cJ : ClassId) (ad : Nat → Nat) (n : Nat × Nat) (S : MS)  {r : Int32} {T : MS} (h : fX12_rules n S  = some (r, T)) : Mi l yX12_rules wsX12_rules (cRm 5 108 0 0) D cI cJ ad [] S (fun r1 u => r1 = r ∧ u = T) := by
  refine Mi_of (cc := cX12_rules) (nL := 2) (ret := (some .int)) (by decide) rfl rfl (Nat.le_of_ble_eq_true rfl) ?_
  intro p e s m args below meth c A hx hb hr hlocks hml hts hown hA hK hP hD hS ls hl
  have hw : mWd D cI cJ ad A s.heap S s.heap [] := ⟨hP, hD, hS⟩
  unfold fX12_rules at h
  have hin : ∀ w ∈ wsX120, w ∈ wsX12_rules := fun w h => List.mem_cons_of_mem _ (List.mem_append_right _ h)
  have hl : lv_has ls 2 [(0, .ref (ad 0))] := hl
  refine lv_aload_n hx hb dX12_rules_0 rfl (lv_at hl 0 rfl) ?_
  refine lv_iconst (v := 0) hx hb dX12_rules_1 (by decide) ?_
  refine N_put hx hb hts hin hown hK hw 0 (by decide) rfl rfl (index := 156) (by decide +kernel) (ty := .int) (by decide +kernel) rfl rfl (pI_0 cI cJ ad S _) dX12_rules_2 (fun S2 H locs eS2 hw => ?_)
  have h := of_bnd h eS2
  refine lv_aload_n hx hb dX12_rules_5 rfl (lv_at hl 0 rfl) ?_
  refine lv_iconst (v := 0) hx hb dX12_rules_6 (by decide) ?_
  refine N_put hx hb hts hin hown hK hw 60 (by decide) rfl rfl (index := 297) (by decide +kernel) (ty := .int) (by decide +kernel) rfl rfl (pI_60 cI cJ ad S2 _) dX12_rules_7 (fun S7 H locs eS7 hw => ?_)
  have h := of_bnd h eS7
  refine lv_aload_n hx hb dX12_rules_10 rfl (lv_at hl 0 rfl) ?_
  refine lv_iconst (v := 0) hx hb dX12_rules_11 (by decide) ?_
  refine N_put hx hb hts hin hown hK hw 64 (by decide) rfl rfl (index := 327) (by decide +kernel) (ty := .boolean) (by decide +kernel) rfl rfl (pI_64 cI cJ ad S7 _) dX12_rules_12 (fun S12 H locs eS12 hw => ?_)
  have h := of_bnd h eS12
  refine lv_aload_n hx hb dX12_rules_15 rfl (lv_at hl 0 rfl) ?_
  refine lv_iconst (v := -1) hx hb dX12_rules_16 (by decide) ?_
  refine N_put hx hb hts hin hown hK hw 63 (by decide) rfl rfl (index := 144) (by decide +kernel) (ty := .int) (by decide +kernel) rfl rfl (pI_63 cI cJ ad S12 _) dX12_rules_17 (fun S17 H locs eS17 hw => ?_)
  have h := of_bnd h eS17
  refine lv_aload_n hx hb dX12_rules_20 rfl (lv_at hl 0 rfl) ?_
  refine lv_iconst (v := 0) hx hb dX12_rules_21 (by decide) ?_
  refine N_put hx hb hts hin hown hK hw 31 (by decide) rfl rfl (index := 342) (by decide +kernel) (ty := .int) (by decide +kernel) rfl rfl (pI_31 cI cJ ad S17 _) dX12_rules_22 (fun S22 H locs eS22 hw => ?_)
  have h := of_bnd h eS22
  refine lv_aload_n hx hb dX12_rules_25 rfl (lv_at hl 0 rfl) ?_
  obtain ⟨q26, hq26, h⟩ := of_cal h
  obtain ⟨S26, eS26⟩ : ∃ x, x = q26 := ⟨_, rfl⟩
  subst eS26
  refine N_callv (av := []) (rest := []) ⟨hx, hb, hml, hown, hts⟩ hA hK hw (cX12_next_ok l D cI cJ ad n S22  hq26) (cwV 0 hts gX12_rules_X12_next rfl rfl rfl (by decide +kernel) ⟨Nat.le_of_ble_eq_true rfl, Nat.le_of_ble_eq_true rfl⟩) rfl hl.1 rfl (Nat.le_of_ble_eq_true rfl) dX12_rules_26 ⟨Nat.le_refl _, Nat.le_refl _⟩ (fun H locs hw => ?_)
  refine lv_aload_n hx hb dX12_rules_29 rfl (lv_at hl 0 rfl) ?_
  refine N_get hx hb hts hin hown hK hw 61 (by decide) rfl (index := 312) (by decide +kernel) rfl dX12_rules_30 ?_
  refine lv_topi (fun v30 ev30 => ?_)
  have h := of_bnd h ev30
  obtain ⟨j96, ej96, h⟩ := of_bndE h
  have hj96 : ∀ (S : MS), j96 S = some (r, T) → ∀ (H : Heap) (locs : List Loc), mWd D cI cJ ad A s.heap S H locs → ∀ ls : Array Slot, lv_has ls 2 [(0, .ref (ad 0))] → W p l e (cRm 5 108 0 0) s m args below meth c H locs (0) (0) (MQ below (va_Qi (fun x u => x = r ∧ u = T) (mAft D cI cJ ad A) A) args s 0 0 A) (F0 m 96 ls []) := by
    intro S h H locs hw ls hl
    rw [ej96] at h
    dsimp only at h
    refine lv_aload_n hx hb dX12_rules_96 rfl (lv_at hl 0 rfl) ?_
    refine lv_iconst (v := 0) hx hb dX12_rules_97 (by decide) ?_
    refine N_put hx hb hts hin hown hK hw 58 (by decide) rfl rfl (index := 291) (by decide +kernel) (ty := .int) (by decide +kernel) rfl rfl (pI_58 cI cJ ad S _) dX12_rules_98 (fun S98 H locs eS98 hw => ?_)
    have h := of_bnd h eS98
    refine lv_aload_n hx hb dX12_rules_101 rfl (lv_at hl 0 rfl) ?_
    refine N_get hx hb hts hin hown hK hw 64 (by decide) rfl (index := 327) (by decide +kernel) rfl dX12_rules_102 ?_
    refine lv_topi (fun v102 ev102 => ?_)
    have h := of_bnd h ev102
    refine lv_if_eq (tgt := 115) hx hb dX12_rules_105 (by decide) (fun c105 => ?_) (fun c105 => ?_)
    · have h := of_it h c105
      refine lv_aload_n hx hb dX12_rules_115 rfl (lv_at hl 0 rfl) ?_
      refine lv_aload_n hx hb dX12_rules_116 rfl (lv_at hl 0 rfl) ?_
      refine N_get hx hb hts hin hown hK hw 31 (by decide) rfl (index := 342) (by decide +kernel) rfl dX12_rules_117 ?_
      refine lv_topi (fun v117 ev117 => ?_)
      have h := of_bnd h ev117
      refine N_put hx hb hts hin hown hK hw 25 (by decide) rfl rfl (index := 216) (by decide +kernel) (ty := .int) (by decide +kernel) rfl rfl (pI_25 cI cJ ad S98 _) dX12_rules_120 (fun S120 H locs eS120 hw => ?_)
      have h := of_bnd h eS120
      refine lv_iconst (v := 0) hx hb dX12_rules_123 (by decide) ?_
      refine lv_topi (fun x124 ex124 => ?_)
      have h := of_bnd h ex124
      refine lv_istore_n (lv' := [(1, .int x124), (0, .ref (ad 0))]) hx hb dX12_rules_124 rfl hl (by decide) rfl (fun ls hl => ?_)
      have lp125 : ∀ (k : Nat) (l1 : Int32) (S : MS) (q : MS) , fX12_rules_lp125 n k l1 S = some q → ∀ (H : Heap) (locs : List Loc), mWd D cI cJ ad A s.heap S H locs → ∀ ls : Array Slot, lv_has ls 2 [(0, .ref (ad 0)), (1, .int l1)] → (∀  (S1 : MS), S1 = q → ∀ (H : Heap) (locs : List Loc), mWd D cI cJ ad A s.heap S1 H locs → ∀ ls : Array Slot, lv_has ls 2 [(0, .ref (ad 0))] → W p l e (cRm 5 108 0 0) s m args below meth c H locs (0) (0) (MQ below (va_Qi (fun x u => x = r ∧ u = T) (mAft D cI cJ ad A) A) args s 0 0 A) (F0 m 201 ls [])) → W p l e (cRm 5 108 0 0) s m args below meth c H locs (0) (0) (MQ below (va_Qi (fun x u => x = r ∧ u = T) (mAft D cI cJ ad A) A) args s 0 0 A) (F0 m 125 ls []) := by
        intro k
        induction k with
        | zero => intro l1 S q h; rw [fX12_rules_lp125] at h; cases h
        | succ k ih125 =>
          intro l1 S q h H locs hw ls hl kx125_0
          rw [fX12_rules_lp125] at h
          refine lv_iload_n hx hb dX12_rules_125 rfl (lv_at hl 1 rfl) ?_
          refine lv_aload_n hx hb dX12_rules_126 rfl (lv_at hl 0 rfl) ?_
          refine N_get hx hb hts hin hown hK hw 25 (by decide) rfl (index := 216) (by decide +kernel) rfl dX12_rules_127 ?_
          refine lv_topi (fun v127 ev127 => ?_)
          have h := of_bnd h ev127
          refine lv_icmp_ge (tgt := 201) hx hb dX12_rules_130 (by decide) (fun c130 => ?_) (fun c130 => ?_)
          · have h := of_it h c130
            exact kx125_0 S (Option.some.inj h) _ _ hw ls (lv_sub hl [0] rfl)
          · have h := of_if h c130
            refine lv_aload_n hx hb dX12_rules_133 rfl (lv_at hl 0 rfl) ?_
            refine N_get hx hb hts hin hown hK hw 26 (by decide) rfl (index := 65) (by decide +kernel) rfl dX12_rules_134 ?_
            refine lv_iload_n hx hb dX12_rules_137 rfl (lv_at hl 1 rfl) ?_
            refine lv_aload_n hx hb dX12_rules_138 rfl (lv_at hl 0 rfl) ?_
            refine N_get hx hb hts hin hown hK hw 30 (by decide) rfl (index := 77) (by decide +kernel) rfl dX12_rules_139 ?_
            refine lv_iconst (v := 4) hx hb dX12_rules_142 (by decide) ?_
            refine lv_iload_n hx hb dX12_rules_143 rfl (lv_at hl 1 rfl) ?_
            refine lv_imul hx hb dX12_rules_144 ?_
            obtain ⟨hi145, h⟩ := of_grd h
            refine va_iald hx hb hK hw.1 23 0 rfl rfl hi145 dX12_rules_145 ?_
            refine lv_topi (fun v145 ev145 => ?_)
            have h := of_bnd h ev145
            obtain ⟨hi146, h⟩ := of_grd h
            refine N_iast hx hb hK hw 19 rfl hi146 (pA_26 cI cJ ad S _) dX12_rules_146 (fun S146 H locs eS146 hw => ?_)
            have h := of_bnd h eS146
            refine lv_aload_n hx hb dX12_rules_147 rfl (lv_at hl 0 rfl) ?_
            refine N_get hx hb hts hin hown hK hw 27 (by decide) rfl (index := 68) (by decide +kernel) rfl dX12_rules_148 ?_
            refine lv_iload_n hx hb dX12_rules_151 rfl (lv_at hl 1 rfl) ?_
            refine lv_aload_n hx hb dX12_rules_152 rfl (lv_at hl 0 rfl) ?_
            refine N_get hx hb hts hin hown hK hw 30 (by decide) rfl (index := 77) (by decide +kernel) rfl dX12_rules_153 ?_
            refine lv_iconst (v := 4) hx hb dX12_rules_156 (by decide) ?_
            refine lv_iload_n hx hb dX12_rules_157 rfl (lv_at hl 1 rfl) ?_
            refine lv_imul hx hb dX12_rules_158 ?_
            refine lv_iconst (v := 1) hx hb dX12_rules_159 (by decide) ?_
            refine lv_iadd hx hb dX12_rules_160 ?_
            obtain ⟨hi161, h⟩ := of_grd h
            refine va_iald hx hb hK hw.1 23 0 rfl rfl hi161 dX12_rules_161 ?_
            refine lv_topi (fun v161 ev161 => ?_)
            have h := of_bnd h ev161
            obtain ⟨hi162, h⟩ := of_grd h
            refine N_iast hx hb hK hw 20 rfl hi162 (pA_27 cI cJ ad S146 _) dX12_rules_162 (fun S162 H locs eS162 hw => ?_)
            have h := of_bnd h eS162
            refine lv_aload_n hx hb dX12_rules_163 rfl (lv_at hl 0 rfl) ?_
            refine N_get hx hb hts hin hown hK hw 28 (by decide) rfl (index := 71) (by decide +kernel) rfl dX12_rules_164 ?_
            refine lv_iload_n hx hb dX12_rules_167 rfl (lv_at hl 1 rfl) ?_
            refine lv_aload_n hx hb dX12_rules_168 rfl (lv_at hl 0 rfl) ?_
            refine N_get hx hb hts hin hown hK hw 30 (by decide) rfl (index := 77) (by decide +kernel) rfl dX12_rules_169 ?_
            refine lv_iconst (v := 4) hx hb dX12_rules_172 (by decide) ?_
            refine lv_iload_n hx hb dX12_rules_173 rfl (lv_at hl 1 rfl) ?_
            refine lv_imul hx hb dX12_rules_174 ?_
            refine lv_iconst (v := 2) hx hb dX12_rules_175 (by decide) ?_
            refine lv_iadd hx hb dX12_rules_176 ?_
            obtain ⟨hi177, h⟩ := of_grd h
            refine va_iald hx hb hK hw.1 23 0 rfl rfl hi177 dX12_rules_177 ?_
            refine lv_topi (fun v177 ev177 => ?_)
            have h := of_bnd h ev177
            obtain ⟨hi178, h⟩ := of_grd h
            refine N_iast hx hb hK hw 21 rfl hi178 (pA_28 cI cJ ad S162 _) dX12_rules_178 (fun S178 H locs eS178 hw => ?_)
            have h := of_bnd h eS178
            refine lv_aload_n hx hb dX12_rules_179 rfl (lv_at hl 0 rfl) ?_
            refine N_get hx hb hts hin hown hK hw 29 (by decide) rfl (index := 74) (by decide +kernel) rfl dX12_rules_180 ?_
            refine lv_iload_n hx hb dX12_rules_183 rfl (lv_at hl 1 rfl) ?_
            refine lv_aload_n hx hb dX12_rules_184 rfl (lv_at hl 0 rfl) ?_
            refine N_get hx hb hts hin hown hK hw 30 (by decide) rfl (index := 77) (by decide +kernel) rfl dX12_rules_185 ?_
            refine lv_iconst (v := 4) hx hb dX12_rules_188 (by decide) ?_
            refine lv_iload_n hx hb dX12_rules_189 rfl (lv_at hl 1 rfl) ?_
            refine lv_imul hx hb dX12_rules_190 ?_
            refine lv_iconst (v := 3) hx hb dX12_rules_191 (by decide) ?_
            refine lv_iadd hx hb dX12_rules_192 ?_
            obtain ⟨hi193, h⟩ := of_grd h
            refine va_iald hx hb hK hw.1 23 0 rfl rfl hi193 dX12_rules_193 ?_
            refine lv_topi (fun v193 ev193 => ?_)
            have h := of_bnd h ev193
            obtain ⟨hi194, h⟩ := of_grd h
            refine N_iast hx hb hK hw 22 rfl hi194 (pA_29 cI cJ ad S178 _) dX12_rules_194 (fun S194 H locs eS194 hw => ?_)
            have h := of_bnd h eS194
            obtain ⟨x195, ex195⟩ : ∃ y : Int32, y = l1 + 1 := ⟨_, rfl⟩
            have h := of_bnd h ex195
            refine lv_iinc (v := x195) (lv' := [(1, .int x195), (0, .ref (ad 0))]) hx hb dX12_rules_195 hl (k := 1) rfl (by rw [ex195]; rfl) (by decide) rfl (fun ls hl => ?_)
            refine lv_goto (tgt := 125) hx hb dX12_rules_198 (by decide) ?_
            exact ih125 x195 S194 _ h _ _ hw ls (lv_sub hl [1, 0] rfl) kx125_0
      obtain ⟨q125, hq125, h⟩ := of_cal h
      refine lp125 n.1 x124 S120 q125  hq125 _ _ hw ls (lv_sub hl [1, 0] rfl) ?_
      · intro S125 eq H locs hw ls hl
        subst eq
        refine lv_aload_n hx hb dX12_rules_201 rfl (lv_at hl 0 rfl) ?_
        refine lv_aload_n hx hb dX12_rules_202 rfl (lv_at hl 0 rfl) ?_
        refine N_get hx hb hts hin hown hK hw 25 (by decide) rfl (index := 216) (by decide +kernel) rfl dX12_rules_203 ?_
        refine lv_topi (fun v203 ev203 => ?_)
        have h := of_bnd h ev203
        obtain ⟨q206, hq206, h⟩ := of_cal h
        obtain ⟨r206, S206⟩ := q206
        have h := of_un2 h
        refine N_calli (av := [.int v203]) (rest := []) ⟨hx, hb, hml, hown, hts⟩ hA hK hw (cX12_told_ok l D cI cJ ad n S125 v203 hq206) (cwV 1 hts gX12_rules_X12_told rfl rfl rfl (by decide +kernel) ⟨Nat.le_of_ble_eq_true rfl, Nat.le_of_ble_eq_true rfl⟩) rfl hl.1 rfl (Nat.le_of_ble_eq_true rfl) dX12_rules_206 ⟨Nat.le_refl _, Nat.le_refl _⟩ (fun H locs hw => ?_)
        obtain ⟨rfl, rfl⟩ := of_ret2 h
        exact M_iret hx hb hr hlocks hK hw.1 hw.2.1 hw.2.2 dX12_rules_209 ⟨rfl, rfl⟩
    · have h := of_if h c105
      refine lv_aload_n hx hb dX12_rules_108 rfl (lv_at hl 0 rfl) ?_
      refine lv_bipush (v := -6) hx hb dX12_rules_109 (by decide) ?_
      obtain ⟨q111, hq111, h⟩ := of_cal h
      obtain ⟨r111, S111⟩ := q111
      have h := of_un2 h
      refine N_calli (av := [.int (-6 : Int32)]) (rest := []) ⟨hx, hb, hml, hown, hts⟩ hA hK hw (cX12_told_ok l D cI cJ ad n S98 (-6 : Int32) hq111) (cwV 1 hts gX12_rules_X12_told rfl rfl rfl (by decide +kernel) ⟨Nat.le_of_ble_eq_true rfl, Nat.le_of_ble_eq_true rfl⟩) rfl hl.1 rfl (Nat.le_of_ble_eq_true rfl) dX12_rules_111 ⟨Nat.le_refl _, Nat.le_refl _⟩ (fun H locs hw => ?_)
      obtain ⟨rfl, rfl⟩ := of_ret2 h
      exact M_iret hx hb hr hlocks hK hw.1 hw.2.1 hw.2.2 dX12_rules_114 ⟨rfl, rfl⟩
  refine lv_if_eq (tgt := 96) hx hb dX12_rules_33 (by decide) (fun c33 => ?_) (fun c33 => ?_)
  · have h := of_it h c33
    exact hj96  S26 h _ _ hw ls (lv_sub hl [0] rfl)
  · have h := of_if h c33
    refine lv_aload_n hx hb dX12_rules_36 rfl (lv_at hl 0 rfl) ?_
    obtain ⟨q37, hq37, h⟩ := of_cal h
    obtain ⟨S37, eS37⟩ : ∃ x, x = q37 := ⟨_, rfl⟩
    subst eS37
    refine N_callv (av := []) (rest := []) ⟨hx, hb, hml, hown, hts⟩ hA hK hw (cX12_readRule_ok l D cI cJ ad n S26  hq37) (cwV 0 hts gX12_rules_X12_readRule rfl rfl rfl (by decide +kernel) ⟨Nat.le_of_ble_eq_true rfl, Nat.le_of_ble_eq_true rfl⟩) rfl hl.1 rfl (Nat.le_of_ble_eq_true rfl) dX12_rules_37 ⟨Nat.le_refl _, Nat.le_refl _⟩ (fun H locs hw => ?_)
    have lp40 : ∀ (k : Nat) (S : MS) (q : MS) , fX12_rules_lp40 n k S = some q → ∀ (H : Heap) (locs : List Loc), mWd D cI cJ ad A s.heap S H locs → ∀ ls : Array Slot, lv_has ls 2 [(0, .ref (ad 0))] → (∀  (S1 : MS), S1 = q → ∀ (H : Heap) (locs : List Loc), mWd D cI cJ ad A s.heap S1 H locs → ∀ ls : Array Slot, lv_has ls 2 [(0, .ref (ad 0))] → W p l e (cRm 5 108 0 0) s m args below meth c H locs (0) (0) (MQ below (va_Qi (fun x u => x = r ∧ u = T) (mAft D cI cJ ad A) A) args s 0 0 A) (F0 m 77 ls [])) → W p l e (cRm 5 108 0 0) s m args below meth c H locs (0) (0) (MQ below (va_Qi (fun x u => x = r ∧ u = T) (mAft D cI cJ ad A) A) args s 0 0 A) (F0 m 40 ls []) := by
      intro k
      induction k with
      | zero => intro S q h; rw [fX12_rules_lp40] at h; cases h
      | succ k ih40 =>
        intro S q h H locs hw ls hl kx40_0
        rw [fX12_rules_lp40] at h
        refine lv_aload_n hx hb dX12_rules_40 rfl (lv_at hl 0 rfl) ?_
        refine N_get hx hb hts hin hown hK hw 64 (by decide) rfl (index := 327) (by decide +kernel) rfl dX12_rules_41 ?_
        refine lv_topi (fun v41 ev41 => ?_)
        have h := of_bnd h ev41
        refine lv_if_ne (tgt := 77) hx hb dX12_rules_44 (by decide) (fun c44 => ?_) (fun c44 => ?_)
        · have h := of_if h c44
          exact kx40_0 S (Option.some.inj h) _ _ hw ls (lv_sub hl [0] rfl)
        · have h := of_it h c44
          refine lv_aload_n hx hb dX12_rules_47 rfl (lv_at hl 0 rfl) ?_
          refine N_get hx hb hts hin hown hK hw 61 (by decide) rfl (index := 312) (by decide +kernel) rfl dX12_rules_48 ?_
          refine lv_topi (fun v48 ev48 => ?_)
          have h := of_bnd h ev48
          refine lv_iconst (v := 3) hx hb dX12_rules_51 (by decide) ?_
          refine lv_icmp_ne (tgt := 77) hx hb dX12_rules_52 (by decide) (fun c52 => ?_) (fun c52 => ?_)
          · have h := of_if h c52
            exact kx40_0 S (Option.some.inj h) _ _ hw ls (lv_sub hl [0] rfl)
          · have h := of_it h c52
            refine lv_aload_n hx hb dX12_rules_55 rfl (lv_at hl 0 rfl) ?_
            refine N_get hx hb hts hin hown hK hw 62 (by decide) rfl (index := 303) (by decide +kernel) rfl dX12_rules_56 ?_
            refine lv_topl (fun v56 ev56 => ?_)
            have h := of_bnd h ev56
            refine lv_ldc2 (v := 59) hx hb hown (hts (.constantLong RX12 354 (59)) (by decide +kernel)) dX12_rules_59 ?_
            refine W.lcmp hx hb dX12_rules_62 ?_
            refine lv_if_ne (tgt := 77) hx hb dX12_rules_63 (by decide) (fun c63 => ?_) (fun c63 => ?_)
            · have h := of_if h c63
              exact kx40_0 S (Option.some.inj h) _ _ hw ls (lv_sub hl [0] rfl)
            · have h := of_it h c63
              refine lv_aload_n hx hb dX12_rules_66 rfl (lv_at hl 0 rfl) ?_
              obtain ⟨q67, hq67, h⟩ := of_cal h
              obtain ⟨S67, eS67⟩ : ∃ x, x = q67 := ⟨_, rfl⟩
              subst eS67
              refine N_callv (av := []) (rest := []) ⟨hx, hb, hml, hown, hts⟩ hA hK hw (cX12_next_ok l D cI cJ ad n S  hq67) (cwV 0 hts gX12_rules_X12_next rfl rfl rfl (by decide +kernel) ⟨Nat.le_of_ble_eq_true rfl, Nat.le_of_ble_eq_true rfl⟩) rfl hl.1 rfl (Nat.le_of_ble_eq_true rfl) dX12_rules_67 ⟨Nat.le_refl _, Nat.le_refl _⟩ (fun H locs hw => ?_)
              refine lv_aload_n hx hb dX12_rules_70 rfl (lv_at hl 0 rfl) ?_
              obtain ⟨q71, hq71, h⟩ := of_cal h
              obtain ⟨S71, eS71⟩ : ∃ x, x = q71 := ⟨_, rfl⟩
              subst eS71
              refine N_callv (av := []) (rest := []) ⟨hx, hb, hml, hown, hts⟩ hA hK hw (cX12_readRule_ok l D cI cJ ad n S67  hq71) (cwV 0 hts gX12_rules_X12_readRule rfl rfl rfl (by decide +kernel) ⟨Nat.le_of_ble_eq_true rfl, Nat.le_of_ble_eq_true rfl⟩) rfl hl.1 rfl (Nat.le_of_ble_eq_true rfl) dX12_rules_71 ⟨Nat.le_refl _, Nat.le_refl _⟩ (fun H locs hw => ?_)
              refine lv_goto (tgt := 40) hx hb dX12_rules_74 (by decide) ?_
              exact ih40 S71 _ h _ _ hw ls (lv_sub hl [0] rfl) kx40_0
    obtain ⟨q40, hq40, h⟩ := of_cal h
    refine lp40 n.1 S37 q40  hq40 _ _ hw ls (lv_sub hl [0] rfl) ?_
    · intro S40 eq H locs hw ls hl
      subst eq
      refine lv_aload_n hx hb dX12_rules_77 rfl (lv_at hl 0 rfl) ?_
      refine N_get hx hb hts hin hown hK hw 64 (by decide) rfl (index := 327) (by decide +kernel) rfl dX12_rules_78 ?_
      refine lv_topi (fun v78 ev78 => ?_)
      have h := of_bnd h ev78
      refine lv_if_ne (tgt := 96) hx hb dX12_rules_81 (by decide) (fun c81 => ?_) (fun c81 => ?_)
      · have h := of_if h c81
        exact hj96  S40 h _ _ hw ls (lv_sub hl [0] rfl)
      · have h := of_it h c81
        refine lv_aload_n hx hb dX12_rules_84 rfl (lv_at hl 0 rfl) ?_
        refine N_get hx hb hts hin hown hK hw 61 (by decide) rfl (index := 312) (by decide +kernel) rfl dX12_rules_85 ?_
        refine lv_topi (fun v85 ev85 => ?_)
        have h := of_bnd h ev85
        refine lv_if_eq (tgt := 96) hx hb dX12_rules_88 (by decide) (fun c88 => ?_) (fun c88 => ?_)
        · have h := of_it h c88
          exact hj96  S40 h _ _ hw ls (lv_sub hl [0] rfl)
        · have h := of_if h c88
          refine lv_aload_n hx hb dX12_rules_91 rfl (lv_at hl 0 rfl) ?_
          refine lv_iconst (v := 0) hx hb dX12_rules_92 (by decide) ?_
          obtain ⟨q93, hq93, h⟩ := of_cal h
          obtain ⟨S93, eS93⟩ : ∃ x, x = q93 := ⟨_, rfl⟩
          subst eS93
          refine N_callv (av := [.int (0 : Int32)]) (rest := []) ⟨hx, hb, hml, hown, hts⟩ hA hK hw (cX12_must_ok l D cI cJ ad n S40 (0 : Int32) hq93) (cwV 1 hts gX12_rules_X12_must rfl rfl rfl (by decide +kernel) ⟨Nat.le_of_ble_eq_true rfl, Nat.le_of_ble_eq_true rfl⟩) rfl hl.1 rfl (Nat.le_of_ble_eq_true rfl) dX12_rules_93 ⟨Nat.le_refl _, Nat.le_refl _⟩ (fun H locs hw => ?_)
          exact hj96  S93 h _ _ hw ls (lv_sub hl [0] rfl)
