def fX12_take_lp17 (n : Nat × Nat) (f1 : Int32) : Nat → Int32 → Int32 → MS → Option (Int32 × MS)
  | 0, _, _, _ => none
  | k + 1, l3, l4, S =>
    if l4 < 0 then 
          some (l3, S)
          else grd (¬ (l4 < 0 ∨ 200 ≤ l4.toNatClampNeg)) (bnd (mA S 9 l4.toNatClampNeg) (fun v28 => bnd (fun (z0_44 : Int32) (S : MS) => grd (¬ (l4 < 0 ∨ 200 ≤ l4.toNatClampNeg)) (bnd (mA S 9 l4.toNatClampNeg) (fun v53 => grd (¬ (l4 < 0 ∨ 200 ≤ l4.toNatClampNeg)) (bnd (sA S 9 (upd (mA S 9) l4.toNatClampNeg (v53 - z0_44))) (fun S57 => grd (¬ (l4 < 0 ∨ 200 ≤ l4.toNatClampNeg)) (bnd (mA S57 10 l4.toNatClampNeg) (fun v65 => grd (¬ (l4 < 0 ∨ 200 ≤ l4.toNatClampNeg)) (bnd (sA S57 10 (upd (mA S57 10) l4.toNatClampNeg (v65 + z0_44))) (fun S69 => bnd (l3 - z0_44) (fun x74 => bnd (mI S69 37) (fun v80 => grd (¬ (v80 < 0 ∨ 24000 ≤ v80.toNatClampNeg)) (bnd (sA S69 38 (upd (mA S69 38) v80.toNatClampNeg l4)) (fun S85 => bnd (mI S85 37) (fun v91 => grd (¬ (v91 < 0 ∨ 24000 ≤ v91.toNatClampNeg)) (bnd (sA S85 39 (upd (mA S85 39) v91.toNatClampNeg z0_44)) (fun S96 => bnd (mI S96 37) (fun v99 => bnd (sI S96 37 (v99 + (1 : Int32))) (fun S104 => if x74 ≤ 0 then 
              bnd (-1 : Int32) (fun x120 => fX12_take_lp17 n f1 k x74 x120 S104)
              else cal (fX12_nextOf n S104 f1) (fun q113 => fX12_take_lp17 n f1 k x74 q113 S104))))))))))))))))))) (fun j44 => if l3 ≤ v28 then 
            j44 l3 S
            else grd (¬ (l4 < 0 ∨ 200 ≤ l4.toNatClampNeg)) (bnd (mA S 9 l4.toNatClampNeg) (fun v39 => j44 v39 S)))))
def fX12_take (n : Nat × Nat) (S : MS) (a1 : Int32) (a2 : Int32) : Option (Int32 × MS) :=
  bnd (fun (z0_15 : Int32) (S : MS) => cal (fX12_take_lp17 n a1 n.1 a2 z0_15 S) (un2 fun t3_17 S17 => some (t3_17, S17))) (fun j15 => if a2 ≤ 0 then 
    j15 (-1 : Int32) S
    else cal (fX12_nextOf n S a1) (fun q8 => j15 q8 S))
set_option maxHeartbeats 8000000 in
set_option maxRecDepth 100000 in
theorem cX12_take_ok (l : Launch) (D : va_G) (cI cJ : ClassId) (ad : Nat → Nat) (n : Nat × Nat) (S : MS) (a1 : Int32) (a2 : Int32) {r : Int32} {T : MS} (h : fX12_take n S a1 a2 = some (r, T)) : Mi l yX12_take wsX12_take (cRm 2 47 0 0) D cI cJ ad [.int a1, .int a2] S (fun r1 u => r1 = r ∧ u = T) := by
  refine Mi_of (cc := cX12_take) (nL := 6) (ret := (some .int)) (by decide) rfl rfl (Nat.le_of_ble_eq_true rfl) ?_
  intro p e s m args below meth c A hx hb hr hlocks hml hts hown hA hK hP hD hS ls hl
  have hw : mWd D cI cJ ad A s.heap S s.heap [] := ⟨hP, hD, hS⟩
  unfold fX12_take at h
  have hin : ∀ w ∈ wsX120, w ∈ wsX12_take := fun w h => List.mem_cons_of_mem _ (List.mem_append_right _ h)
  have hl : lv_has ls 6 [(0, .ref (ad 0)), (1, .int a1), (2, .int a2)] := hl
  refine lv_iload_n hx hb dX12_take_0 rfl (lv_at hl 2 rfl) ?_
  refine lv_istore_n (lv' := [(3, .int a2), (0, .ref (ad 0)), (1, .int a1), (2, .int a2)]) hx hb dX12_take_1 rfl hl (by decide) rfl (fun ls hl => ?_)
  refine lv_iload_n hx hb dX12_take_2 rfl (lv_at hl 0 rfl) ?_
  obtain ⟨j15, ej15, h⟩ := of_bndE h
  have hj15 : ∀ (z0_15 : Int32) (S : MS), j15 z0_15 S = some (r, T) → ∀ (H : Heap) (locs : List Loc), mWd D cI cJ ad A s.heap S H locs → ∀ ls : Array Slot, lv_has ls 6 [(0, .ref (ad 0)), (1, .int a1), (3, .int a2)] → W p l e (cRm 2 47 0 0) s m args below meth c H locs (0) (0) (MQ below (va_Qi (fun x u => x = r ∧ u = T) (mAft D cI cJ ad A) A) args s 0 0 A) (F0 m 15 ls [.int z0_15]) := by
    intro z0_15 S h H locs hw ls hl
    rw [ej15] at h
    dsimp only at h
    refine lv_istore (lv' := [(4, .int z0_15), (0, .ref (ad 0)), (1, .int a1), (3, .int a2)]) hx hb dX12_take_15 hl (by decide) rfl (fun ls hl => ?_)
    have lp17 : ∀ (f1 : Int32) (k : Nat) (l3 : Int32) (l4 : Int32) (S : MS) (q : Int32 × MS) , fX12_take_lp17 n f1 k l3 l4 S = some q → ∀ (H : Heap) (locs : List Loc), mWd D cI cJ ad A s.heap S H locs → ∀ ls : Array Slot, lv_has ls 6 [(0, .ref (ad 0)), (1, .int f1), (3, .int l3), (4, .int l4)] → (∀ (t3 : Int32) (S1 : MS), (t3, S1) = q → ∀ (H : Heap) (locs : List Loc), mWd D cI cJ ad A s.heap S1 H locs → ∀ ls : Array Slot, lv_has ls 6 [(3, .int t3)] → W p l e (cRm 2 47 0 0) s m args below meth c H locs (0) (0) (MQ below (va_Qi (fun x u => x = r ∧ u = T) (mAft D cI cJ ad A) A) args s 0 0 A) (F0 m 125 ls [])) → W p l e (cRm 2 47 0 0) s m args below meth c H locs (0) (0) (MQ below (va_Qi (fun x u => x = r ∧ u = T) (mAft D cI cJ ad A) A) args s 0 0 A) (F0 m 17 ls []) := by
      intro f1 k
      induction k with
      | zero => intro l3 l4 S q h; rw [fX12_take_lp17] at h; cases h
      | succ k ih17 =>
        intro l3 l4 S q h H locs hw ls hl kx17_0
        rw [fX12_take_lp17] at h
        refine lv_iload hx hb dX12_take_17 (lv_at hl 3 rfl) ?_
        refine lv_if_lt (tgt := 125) hx hb dX12_take_19 (by decide) (fun c19 => ?_) (fun c19 => ?_)
        · have h := of_it h c19
          exact kx17_0 l3 S (Option.some.inj h) _ _ hw ls (lv_sub hl [2] rfl)
        · have h := of_if h c19
          refine lv_aload_n hx hb dX12_take_22 rfl (lv_at hl 0 rfl) ?_
          refine N_get hx hb hts hin hown hK hw 9 (by decide) rfl (index := 25) (by decide +kernel) rfl dX12_take_23 ?_
          refine lv_iload hx hb dX12_take_26 (lv_at hl 3 rfl) ?_
          obtain ⟨hi28, h⟩ := of_grd h
          refine va_iald hx hb hK hw.1 6 0 rfl rfl hi28 dX12_take_28 ?_
          refine lv_topi (fun v28 ev28 => ?_)
          have h := of_bnd h ev28
          refine lv_iload_n hx hb dX12_take_29 rfl (lv_at hl 2 rfl) ?_
          obtain ⟨j44, ej44, h⟩ := of_bndE h
          have hj44 : ∀ (z0_44 : Int32) (S : MS), j44 z0_44 S = some q → ∀ (H : Heap) (locs : List Loc), mWd D cI cJ ad A s.heap S H locs → ∀ ls : Array Slot, lv_has ls 6 [(0, .ref (ad 0)), (1, .int f1), (3, .int l3), (4, .int l4)] → W p l e (cRm 2 47 0 0) s m args below meth c H locs (0) (0) (MQ below (va_Qi (fun x u => x = r ∧ u = T) (mAft D cI cJ ad A) A) args s 0 0 A) (F0 m 44 ls [.int z0_44]) := by
            intro z0_44 S h H locs hw ls hl
            rw [ej44] at h
            dsimp only at h
            refine lv_istore (lv' := [(5, .int z0_44), (0, .ref (ad 0)), (1, .int f1), (3, .int l3), (4, .int l4)]) hx hb dX12_take_44 hl (by decide) rfl (fun ls hl => ?_)
            refine lv_aload_n hx hb dX12_take_46 rfl (lv_at hl 1 rfl) ?_
            refine N_get hx hb hts hin hown hK hw 9 (by decide) rfl (index := 25) (by decide +kernel) rfl dX12_take_47 ?_
            refine lv_iload hx hb dX12_take_50 (lv_at hl 4 rfl) ?_
            refine lv_dup2_11 hx hb dX12_take_52 rfl rfl ?_
            obtain ⟨hi53, h⟩ := of_grd h
            refine va_iald hx hb hK hw.1 6 0 rfl rfl hi53 dX12_take_53 ?_
            refine lv_topi (fun v53 ev53 => ?_)
            have h := of_bnd h ev53
            refine lv_iload hx hb dX12_take_54 (lv_at hl 0 rfl) ?_
            refine lv_isub hx hb dX12_take_56 ?_
            obtain ⟨hi57, h⟩ := of_grd h
            refine N_iast hx hb hK hw 6 rfl hi57 (pA_9 cI cJ ad S _) dX12_take_57 (fun S57 H locs eS57 hw => ?_)
            have h := of_bnd h eS57
            refine lv_aload_n hx hb dX12_take_58 rfl (lv_at hl 1 rfl) ?_
            refine N_get hx hb hts hin hown hK hw 10 (by decide) rfl (index := 28) (by decide +kernel) rfl dX12_take_59 ?_
            refine lv_iload hx hb dX12_take_62 (lv_at hl 4 rfl) ?_
            refine lv_dup2_11 hx hb dX12_take_64 rfl rfl ?_
            obtain ⟨hi65, h⟩ := of_grd h
            refine va_iald hx hb hK hw.1 7 0 rfl rfl hi65 dX12_take_65 ?_
            refine lv_topi (fun v65 ev65 => ?_)
            have h := of_bnd h ev65
            refine lv_iload hx hb dX12_take_66 (lv_at hl 0 rfl) ?_
            refine lv_iadd hx hb dX12_take_68 ?_
            obtain ⟨hi69, h⟩ := of_grd h
            refine N_iast hx hb hK hw 7 rfl hi69 (pA_10 cI cJ ad S57 _) dX12_take_69 (fun S69 H locs eS69 hw => ?_)
            have h := of_bnd h eS69
            refine lv_iload_n hx hb dX12_take_70 rfl (lv_at hl 3 rfl) ?_
            refine lv_iload hx hb dX12_take_71 (lv_at hl 0 rfl) ?_
            refine lv_isub hx hb dX12_take_73 ?_
            refine lv_topi (fun x74 ex74 => ?_)
            have h := of_bnd h ex74
            refine lv_istore_n (lv' := [(3, .int x74), (5, .int z0_44), (0, .ref (ad 0)), (1, .int f1), (4, .int l4)]) hx hb dX12_take_74 rfl hl (by decide) rfl (fun ls hl => ?_)
            refine lv_aload_n hx hb dX12_take_75 rfl (lv_at hl 2 rfl) ?_
            refine N_get hx hb hts hin hown hK hw 38 (by decide) rfl (index := 92) (by decide +kernel) rfl dX12_take_76 ?_
            refine lv_aload_n hx hb dX12_take_79 rfl (lv_at hl 2 rfl) ?_
            refine N_get hx hb hts hin hown hK hw 37 (by decide) rfl (index := 229) (by decide +kernel) rfl dX12_take_80 ?_
            refine lv_topi (fun v80 ev80 => ?_)
            have h := of_bnd h ev80
            refine lv_iload hx hb dX12_take_83 (lv_at hl 4 rfl) ?_
            obtain ⟨hi85, h⟩ := of_grd h
            refine N_iast hx hb hK hw 28 rfl hi85 (pA_38 cI cJ ad S69 _) dX12_take_85 (fun S85 H locs eS85 hw => ?_)
            have h := of_bnd h eS85
            refine lv_aload_n hx hb dX12_take_86 rfl (lv_at hl 2 rfl) ?_
            refine N_get hx hb hts hin hown hK hw 39 (by decide) rfl (index := 95) (by decide +kernel) rfl dX12_take_87 ?_
            refine lv_aload_n hx hb dX12_take_90 rfl (lv_at hl 2 rfl) ?_
            refine N_get hx hb hts hin hown hK hw 37 (by decide) rfl (index := 229) (by decide +kernel) rfl dX12_take_91 ?_
            refine lv_topi (fun v91 ev91 => ?_)
            have h := of_bnd h ev91
            refine lv_iload hx hb dX12_take_94 (lv_at hl 1 rfl) ?_
            obtain ⟨hi96, h⟩ := of_grd h
            refine N_iast hx hb hK hw 29 rfl hi96 (pA_39 cI cJ ad S85 _) dX12_take_96 (fun S96 H locs eS96 hw => ?_)
            have h := of_bnd h eS96
            refine lv_aload_n hx hb dX12_take_97 rfl (lv_at hl 2 rfl) ?_
            refine lv_dup hx hb dX12_take_98 rfl ?_
            refine N_get hx hb hts hin hown hK hw 37 (by decide) rfl (index := 229) (by decide +kernel) rfl dX12_take_99 ?_
            refine lv_topi (fun v99 ev99 => ?_)
            have h := of_bnd h ev99
            refine lv_iconst (v := 1) hx hb dX12_take_102 (by decide) ?_
            refine lv_iadd hx hb dX12_take_103 ?_
            refine N_put hx hb hts hin hown hK hw 37 (by decide) rfl rfl (index := 229) (by decide +kernel) (ty := .int) (by decide +kernel) rfl rfl (pI_37 cI cJ ad S96 _) dX12_take_104 (fun S104 H locs eS104 hw => ?_)
            have h := of_bnd h eS104
            refine lv_iload_n hx hb dX12_take_107 rfl (lv_at hl 0 rfl) ?_
            refine lv_if_le (tgt := 119) hx hb dX12_take_108 (by decide) (fun c108 => ?_) (fun c108 => ?_)
            · have h := of_it h c108
              refine lv_iconst (v := -1) hx hb dX12_take_119 (by decide) ?_
              refine lv_topi (fun x120 ex120 => ?_)
              have h := of_bnd h ex120
              refine lv_istore (lv' := [(4, .int x120), (3, .int x74), (5, .int z0_44), (0, .ref (ad 0)), (1, .int f1)]) hx hb dX12_take_120 hl (by decide) rfl (fun ls hl => ?_)
              refine lv_goto (tgt := 17) hx hb dX12_take_122 (by decide) ?_
              exact ih17 x74 x120 S104 _ h _ _ hw ls (lv_sub hl [3, 4, 1, 0] rfl) kx17_0
            · have h := of_if h c108
              refine lv_aload_n hx hb dX12_take_111 rfl (lv_at hl 2 rfl) ?_
              refine lv_iload_n hx hb dX12_take_112 rfl (lv_at hl 3 rfl) ?_
              obtain ⟨q113, hq113, h⟩ := of_cal h
              refine N_calli (av := [.int f1]) (rest := []) ⟨hx, hb, hml, hown, hts⟩ hA hK hw (cX12_nextOf_ok l D cI cJ ad n S104 f1 hq113) (cwV 1 hts gX12_take_X12_nextOf rfl rfl rfl (by decide +kernel) ⟨Nat.le_of_ble_eq_true rfl, Nat.le_of_ble_eq_true rfl⟩) rfl hl.1 rfl (Nat.le_of_ble_eq_true rfl) dX12_take_113 ⟨Nat.le_refl _, Nat.le_refl _⟩ (fun H locs hw => ?_)
              refine lv_goto (tgt := 120) hx hb dX12_take_116 (by decide) ?_
              refine lv_istore (lv' := [(4, .int q113), (3, .int x74), (5, .int z0_44), (0, .ref (ad 0)), (1, .int f1)]) hx hb dX12_take_120 hl (by decide) rfl (fun ls hl => ?_)
              refine lv_goto (tgt := 17) hx hb dX12_take_122 (by decide) ?_
              exact ih17 x74 q113 S104 _ h _ _ hw ls (lv_sub hl [3, 4, 1, 0] rfl) kx17_0
          refine lv_icmp_ge (tgt := 43) hx hb dX12_take_30 (by decide) (fun c30 => ?_) (fun c30 => ?_)
          · have h := of_it h c30
            refine lv_iload_n hx hb dX12_take_43 rfl (lv_at hl 2 rfl) ?_
            exact hj44 l3 S h _ _ hw ls (lv_sub hl [0, 1, 2, 3] rfl)
          · have h := of_if h c30
            refine lv_aload_n hx hb dX12_take_33 rfl (lv_at hl 0 rfl) ?_
            refine N_get hx hb hts hin hown hK hw 9 (by decide) rfl (index := 25) (by decide +kernel) rfl dX12_take_34 ?_
            refine lv_iload hx hb dX12_take_37 (lv_at hl 3 rfl) ?_
            obtain ⟨hi39, h⟩ := of_grd h
            refine va_iald hx hb hK hw.1 6 0 rfl rfl hi39 dX12_take_39 ?_
            refine lv_topi (fun v39 ev39 => ?_)
            have h := of_bnd h ev39
            refine lv_goto (tgt := 44) hx hb dX12_take_40 (by decide) ?_
            exact hj44 v39 S h _ _ hw ls (lv_sub hl [0, 1, 2, 3] rfl)
    obtain ⟨q17, hq17, h⟩ := of_cal h
    refine lp17 a1 n.1 a2 z0_15 S q17  hq17 _ _ hw ls (lv_sub hl [1, 2, 3, 0] rfl) ?_
    · intro t3_17 S17 eq H locs hw ls hl
      subst eq
      have h := of_un2 h
      refine lv_iload_n hx hb dX12_take_125 rfl (lv_at hl 0 rfl) ?_
      obtain ⟨rfl, rfl⟩ := of_ret2 h
      exact M_iret hx hb hr hlocks hK hw.1 hw.2.1 hw.2.2 dX12_take_126 ⟨rfl, rfl⟩
  refine lv_if_le (tgt := 14) hx hb dX12_take_3 (by decide) (fun c3 => ?_) (fun c3 => ?_)
  · have h := of_it h c3
    refine lv_iconst (v := -1) hx hb dX12_take_14 (by decide) ?_
    exact hj15 (-1 : Int32) S h _ _ hw ls (lv_sub hl [1, 2, 0] rfl)
  · have h := of_if h c3
    refine lv_aload_n hx hb dX12_take_6 rfl (lv_at hl 1 rfl) ?_
    refine lv_iload_n hx hb dX12_take_7 rfl (lv_at hl 2 rfl) ?_
    obtain ⟨q8, hq8, h⟩ := of_cal h
    refine N_calli (av := [.int a1]) (rest := []) ⟨hx, hb, hml, hown, hts⟩ hA hK hw (cX12_nextOf_ok l D cI cJ ad n S a1 hq8) (cwV 1 hts gX12_take_X12_nextOf rfl rfl rfl (by decide +kernel) ⟨Nat.le_of_ble_eq_true rfl, Nat.le_of_ble_eq_true rfl⟩) rfl hl.1 rfl (Nat.le_of_ble_eq_true rfl) dX12_take_8 ⟨Nat.le_refl _, Nat.le_refl _⟩ (fun H locs hw => ?_)
    refine lv_goto (tgt := 15) hx hb dX12_take_11 (by decide) ?_
    exact hj15 q8 S h _ _ hw ls (lv_sub hl [1, 2, 0] rfl)

def fX12_parcel_lp24 (n : Nat × Nat) (S : MS) (f1 : Int32) : Nat → Int32 → Int32 → Option (Int32)
  | 0, _, _ => none
  | k + 1, l2, l3 =>
    bnd (mI S 20) (fun v26 => if v26 ≤ l3 then 
          some l2
          else bnd (mI S 2) (fun v36 => cal (fX12_lets n S l3 f1 v36) (fun q39 => if q39 = 0 then 
            bnd (l3 + 1) (fun x70 => fX12_parcel_lp24 n S f1 k l2 x70 )
            else if l2 < 0 then 
              bnd (l3 + 1) (fun x70 => fX12_parcel_lp24 n S f1 k l3 x70 )
              else grd (¬ (l3 < 0 ∨ 100 ≤ l3.toNatClampNeg)) (bnd (mA S 23 l3.toNatClampNeg) (fun v54 => grd (¬ (l2 < 0 ∨ 100 ≤ l2.toNatClampNeg)) (bnd (mA S 23 l2.toNatClampNeg) (fun v60 => if v60 ≤ v54 then 
                bnd (l3 + 1) (fun x70 => fX12_parcel_lp24 n S f1 k l2 x70 )
                else bnd (l3 + 1) (fun x70 => fX12_parcel_lp24 n S f1 k l3 x70 ))))))))
def fX12_parcel_lp142 (n : Nat × Nat) (f1 : Int32) (f5 : Int32) : Nat → Int32 → Int32 → MS → Option (Int32 × MS)
  | 0, _, _, _ => none
  | k + 1, l6, l7, S =>
    bnd (mI S 25) (fun v145 => if v145 ≤ l7 then 
                      some (l6, S)
                      else if l6 ≤ 0 then 
                        some (l6, S)
                        else grd (¬ (l7 < 0 ∨ 30 ≤ l7.toNatClampNeg)) (bnd (mA S 26 l7.toNatClampNeg) (fun v162 => if v162 = (2 : Int32) then 
                          grd (¬ (l7 < 0 ∨ 30 ≤ l7.toNatClampNeg)) (bnd (mA S 27 l7.toNatClampNeg) (fun v173 => if v173 = f5 then 
                          grd (¬ (l7 < 0 ∨ 30 ≤ l7.toNatClampNeg)) (bnd (mA S 28 l7.toNatClampNeg) (fun v187 => cal (fX12_isBarred n S f1 v187) (fun q188 => if q188 = 0 then 
                          grd (¬ (l7 < 0 ∨ 30 ≤ l7.toNatClampNeg)) (bnd (mA S 28 l7.toNatClampNeg) (fun v201 => cal (fX12_take n S v201 l6) (un2 fun r204 S204 => bnd (l7 + 1) (fun x209 => fX12_parcel_lp142 n f1 f5 k r204 x209 S204))))
                          else bnd (l7 + 1) (fun x209 => fX12_parcel_lp142 n f1 f5 k l6 x209 S))))
                          else bnd (l7 + 1) (fun x209 => fX12_parcel_lp142 n f1 f5 k l6 x209 S)))
                          else bnd (l7 + 1) (fun x209 => fX12_parcel_lp142 n f1 f5 k l6 x209 S))))
def fX12_parcel_lp98 (n : Nat × Nat) (f1 : Int32) : Nat → Int32 → Int32 → MS → Option (Int32 × MS)
  | 0, _, _, _ => none
  | k + 1, l4, l5, S =>
    if (10 : Int32) ≤ l5 then 
              some (l4, S)
              else cal (fX12_needOf n S f1 l5) (fun q109 => cal (fX12_isBarred n S f1 l5) (fun q118 => bnd (fun (z0_137 : Int32) (S : MS) => bnd (0 : Int32) (fun x140 => cal (fX12_parcel_lp142 n f1 l5 n.1 z0_137 x140 S) (un2 fun t6_142 S142 => bnd (l4 + t6_142) (fun x220 => bnd (l5 + 1) (fun x222 => fX12_parcel_lp98 n f1 k x220 x222 S142))))) (fun j137 => if q118 = 0 then 
                cal (fX12_take n S l5 q109) (un2 fun r134 S134 => j137 r134 S134)
                else j137 q109 S)))
def fX12_parcel (n : Nat × Nat) (S : MS) (a1 : Int32) : Option (Int32 × MS) :=
  bnd (sI S 0 (0 : Int32)) (fun S2 => cal (fX12_isFamily n S2 a1) (fun q7 => if q7 = 0 then 
    cal (fX12_told n S2 (-2 : Int32)) (un2 fun r16 S16 => some (r16, S16))
    else bnd (-1 : Int32) (fun x21 => bnd (0 : Int32) (fun x23 => cal (fX12_parcel_lp24 n S2 a1 n.1 x21 x23 ) (fun t2_24 => if 0 ≤ t2_24 then 
        bnd (mI S2 37) (fun v88 => bnd (0 : Int32) (fun x93 => bnd (0 : Int32) (fun x96 => cal (fX12_parcel_lp98 n a1 n.1 x93 x96 S2) (un2 fun t4_98 S98 => bnd (mI S98 37) (fun v229 => if v229 = v88 then 
            cal (fX12_told n S98 (-4 : Int32)) (un2 fun r239 S239 => some (r239, S239))
            else grd (¬ (t2_24 < 0 ∨ 100 ≤ t2_24.toNatClampNeg)) (bnd (mA S98 24 t2_24.toNatClampNeg) (fun v249 => grd (¬ (t2_24 < 0 ∨ 100 ≤ t2_24.toNatClampNeg)) (bnd (sA S98 24 (upd (mA S98 24) t2_24.toNatClampNeg (v249 - (1 : Int32)))) (fun S252 => bnd (mI S252 32) (fun v258 => grd (¬ (v258 < 0 ∨ 520 ≤ v258.toNatClampNeg)) (bnd (sA S252 33 (upd (mA S252 33) v258.toNatClampNeg a1)) (fun S262 => bnd (mI S262 32) (fun v268 => bnd (mI S262 2) (fun v272 => grd (¬ (v268 < 0 ∨ 520 ≤ v268.toNatClampNeg)) (bnd (sA S262 34 (upd (mA S262 34) v268.toNatClampNeg v272)) (fun S275 => bnd (mI S275 32) (fun v281 => grd (¬ (v281 < 0 ∨ 521 ≤ v281.toNatClampNeg)) (bnd (sA S275 35 (upd (mA S275 35) v281.toNatClampNeg v88)) (fun S285 => bnd (mI S285 32) (fun v291 => grd (¬ (v291 < 0 ∨ 520 ≤ v291.toNatClampNeg)) (bnd (sA S285 36 (upd (mA S285 36) v291.toNatClampNeg t4_98)) (fun S296 => bnd (mL S296 40) (fun v299 => bnd (sL S296 40 (v299 + t4_98.toInt64)) (fun S306 => bnd (mI S306 32) (fun v311 => bnd (sI S306 32 (v311 + (1 : Int32))) (fun S316 => bnd (mI S316 32) (fun v324 => bnd (mI S316 37) (fun v328 => grd (¬ (v324 < 0 ∨ 521 ≤ v324.toNatClampNeg)) (bnd (sA S316 35 (upd (mA S316 35) v324.toNatClampNeg v328)) (fun S331 => bnd (mI S331 32) (fun v334 => cal (fX12_told n S331 (v334 - (1 : Int32))) (un2 fun r339 S339 => some (r339, S339)))))))))))))))))))))))))))))))))
        else cal (fX12_told n S2 (-3 : Int32)) (un2 fun r83 S83 => some (r83, S83)))))))
set_option maxHeartbeats 8000000 in
set_option maxRecDepth 100000 in
theorem cX12_parcel_ok (l : Launch) (D : va_G) (cI cJ : ClassId) (ad : Nat → Nat) (n : Nat × Nat) (S : MS) (a1 : Int32) {r : Int32} {T : MS} (h : fX12_parcel n S a1 = some (r, T)) : Mi l yX12_parcel wsX12_parcel (cRm 3 72 0 0) D cI cJ ad [.int a1] S (fun r1 u => r1 = r ∧ u = T) := by
  refine Mi_of (cc := cX12_parcel) (nL := 8) (ret := (some .int)) (by decide) rfl rfl (Nat.le_of_ble_eq_true rfl) ?_
  intro p e s m args below meth c A hx hb hr hlocks hml hts hown hA hK hP hD hS ls hl
  have hw : mWd D cI cJ ad A s.heap S s.heap [] := ⟨hP, hD, hS⟩
  unfold fX12_parcel at h
  have hin : ∀ w ∈ wsX120, w ∈ wsX12_parcel := fun w h => List.mem_cons_of_mem _ (List.mem_append_right _ h)
  have hl : lv_has ls 8 [(0, .ref (ad 0)), (1, .int a1)] := hl
  refine lv_aload_n hx hb dX12_parcel_0 rfl (lv_at hl 0 rfl) ?_
  refine lv_iconst (v := 0) hx hb dX12_parcel_1 (by decide) ?_
  refine N_put hx hb hts hin hown hK hw 0 (by decide) rfl rfl (index := 156) (by decide +kernel) (ty := .int) (by decide +kernel) rfl rfl (pI_0 cI cJ ad S _) dX12_parcel_2 (fun S2 H locs eS2 hw => ?_)
  have h := of_bnd h eS2
  refine lv_aload_n hx hb dX12_parcel_5 rfl (lv_at hl 0 rfl) ?_
  refine lv_iload_n hx hb dX12_parcel_6 rfl (lv_at hl 1 rfl) ?_
  obtain ⟨q7, hq7, h⟩ := of_cal h
  refine N_calli (av := [.int a1]) (rest := []) ⟨hx, hb, hml, hown, hts⟩ hA hK hw (cX12_isFamily_ok l D cI cJ ad n S2 a1 hq7) (cwV 1 hts gX12_parcel_X12_isFamily rfl rfl rfl (by decide +kernel) ⟨Nat.le_of_ble_eq_true rfl, Nat.le_of_ble_eq_true rfl⟩) rfl hl.1 rfl (Nat.le_of_ble_eq_true rfl) dX12_parcel_7 ⟨Nat.le_refl _, Nat.le_refl _⟩ (fun H locs hw => ?_)
  refine lv_if_ne (tgt := 20) hx hb dX12_parcel_10 (by decide) (fun c10 => ?_) (fun c10 => ?_)
  · have h := of_if h c10
    refine lv_iconst (v := -1) hx hb dX12_parcel_20 (by decide) ?_
    refine lv_topi (fun x21 ex21 => ?_)
    have h := of_bnd h ex21
    refine lv_istore_n (lv' := [(2, .int x21), (0, .ref (ad 0)), (1, .int a1)]) hx hb dX12_parcel_21 rfl hl (by decide) rfl (fun ls hl => ?_)
    refine lv_iconst (v := 0) hx hb dX12_parcel_22 (by decide) ?_
    refine lv_topi (fun x23 ex23 => ?_)
    have h := of_bnd h ex23
    refine lv_istore_n (lv' := [(3, .int x23), (2, .int x21), (0, .ref (ad 0)), (1, .int a1)]) hx hb dX12_parcel_23 rfl hl (by decide) rfl (fun ls hl => ?_)
    have lp24 : ∀ (f1 : Int32) (S : MS) (k : Nat) (l2 : Int32) (l3 : Int32) (q : Int32) , fX12_parcel_lp24 n S f1 k l2 l3  = some q → ∀ (H : Heap) (locs : List Loc), mWd D cI cJ ad A s.heap S H locs → ∀ ls : Array Slot, lv_has ls 8 [(0, .ref (ad 0)), (1, .int f1), (2, .int l2), (3, .int l3)] → (∀ (t2 : Int32), t2 = q → ∀ (H : Heap) (locs : List Loc), mWd D cI cJ ad A s.heap S H locs → ∀ ls : Array Slot, lv_has ls 8 [(0, .ref (ad 0)), (1, .int f1), (2, .int t2)] → W p l e (cRm 3 72 0 0) s m args below meth c H locs (0) (0) (MQ below (va_Qi (fun x u => x = r ∧ u = T) (mAft D cI cJ ad A) A) args s 0 0 A) (F0 m 76 ls [])) → W p l e (cRm 3 72 0 0) s m args below meth c H locs (0) (0) (MQ below (va_Qi (fun x u => x = r ∧ u = T) (mAft D cI cJ ad A) A) args s 0 0 A) (F0 m 24 ls []) := by
      intro f1 S k
      induction k with
      | zero => intro l2 l3 q h; rw [fX12_parcel_lp24] at h; cases h
      | succ k ih24 =>
        intro l2 l3 q h H locs hw ls hl kx24_0
        rw [fX12_parcel_lp24] at h
        refine lv_iload_n hx hb dX12_parcel_24 rfl (lv_at hl 3 rfl) ?_
        refine lv_aload_n hx hb dX12_parcel_25 rfl (lv_at hl 0 rfl) ?_
        refine N_get hx hb hts hin hown hK hw 20 (by decide) rfl (index := 209) (by decide +kernel) rfl dX12_parcel_26 ?_
        refine lv_topi (fun v26 ev26 => ?_)
        have h := of_bnd h ev26
        refine lv_icmp_ge (tgt := 76) hx hb dX12_parcel_29 (by decide) (fun c29 => ?_) (fun c29 => ?_)
        · have h := of_it h c29
          exact kx24_0 l2 (Option.some.inj h) _ _ hw ls (lv_sub hl [0, 1, 2] rfl)
        · have h := of_if h c29
          refine lv_aload_n hx hb dX12_parcel_32 rfl (lv_at hl 0 rfl) ?_
          refine lv_iload_n hx hb dX12_parcel_33 rfl (lv_at hl 3 rfl) ?_
          refine lv_iload_n hx hb dX12_parcel_34 rfl (lv_at hl 1 rfl) ?_
          refine lv_aload_n hx hb dX12_parcel_35 rfl (lv_at hl 0 rfl) ?_
          refine N_get hx hb hts hin hown hK hw 2 (by decide) rfl (index := 189) (by decide +kernel) rfl dX12_parcel_36 ?_
          refine lv_topi (fun v36 ev36 => ?_)
          have h := of_bnd h ev36
          obtain ⟨q39, hq39, h⟩ := of_cal h
          refine N_calli (av := [.int l3, .int f1, .int v36]) (rest := []) ⟨hx, hb, hml, hown, hts⟩ hA hK hw (cX12_lets_ok l D cI cJ ad n S l3 f1 v36 hq39) (cwV 3 hts gX12_parcel_X12_lets rfl rfl rfl (by decide +kernel) ⟨Nat.le_of_ble_eq_true rfl, Nat.le_of_ble_eq_true rfl⟩) rfl hl.1 rfl (Nat.le_of_ble_eq_true rfl) dX12_parcel_39 ⟨Nat.le_refl _, Nat.le_refl _⟩ (fun H locs hw => ?_)
          refine lv_if_eq (tgt := 68) hx hb dX12_parcel_42 (by decide) (fun c42 => ?_) (fun c42 => ?_)
          · have h := of_it h c42
            refine lv_iload_n hx hb dX12_parcel_68 rfl (lv_at hl 2 rfl) ?_
            refine lv_istore_n (lv' := [(2, .int l2), (0, .ref (ad 0)), (1, .int f1), (3, .int l3)]) hx hb dX12_parcel_69 rfl hl (by decide) rfl (fun ls hl => ?_)
            obtain ⟨x70, ex70⟩ : ∃ y : Int32, y = l3 + 1 := ⟨_, rfl⟩
            have h := of_bnd h ex70
            refine lv_iinc (v := x70) (lv' := [(3, .int x70), (2, .int l2), (0, .ref (ad 0)), (1, .int f1)]) hx hb dX12_parcel_70 hl (k := 3) rfl (by rw [ex70]; rfl) (by decide) rfl (fun ls hl => ?_)
            refine lv_goto (tgt := 24) hx hb dX12_parcel_73 (by decide) ?_
            exact ih24 l2 x70 _ h _ _ hw ls (lv_sub hl [2, 3, 1, 0] rfl) kx24_0
          · have h := of_if h c42
            refine lv_iload_n hx hb dX12_parcel_45 rfl (lv_at hl 2 rfl) ?_
            refine lv_if_lt (tgt := 64) hx hb dX12_parcel_46 (by decide) (fun c46 => ?_) (fun c46 => ?_)
            · have h := of_it h c46
              refine lv_iload_n hx hb dX12_parcel_64 rfl (lv_at hl 3 rfl) ?_
              refine lv_goto (tgt := 69) hx hb dX12_parcel_65 (by decide) ?_
              refine lv_istore_n (lv' := [(2, .int l3), (0, .ref (ad 0)), (1, .int f1), (3, .int l3)]) hx hb dX12_parcel_69 rfl hl (by decide) rfl (fun ls hl => ?_)
              obtain ⟨x70, ex70⟩ : ∃ y : Int32, y = l3 + 1 := ⟨_, rfl⟩
              have h := of_bnd h ex70
              refine lv_iinc (v := x70) (lv' := [(3, .int x70), (2, .int l3), (0, .ref (ad 0)), (1, .int f1)]) hx hb dX12_parcel_70 hl (k := 3) rfl (by rw [ex70]; rfl) (by decide) rfl (fun ls hl => ?_)
              refine lv_goto (tgt := 24) hx hb dX12_parcel_73 (by decide) ?_
              exact ih24 l3 x70 _ h _ _ hw ls (lv_sub hl [2, 3, 1, 0] rfl) kx24_0
            · have h := of_if h c46
              refine lv_aload_n hx hb dX12_parcel_49 rfl (lv_at hl 0 rfl) ?_
              refine N_get hx hb hts hin hown hK hw 23 (by decide) rfl (index := 59) (by decide +kernel) rfl dX12_parcel_50 ?_
              refine lv_iload_n hx hb dX12_parcel_53 rfl (lv_at hl 3 rfl) ?_
              obtain ⟨hi54, h⟩ := of_grd h
              refine va_iald hx hb hK hw.1 17 0 rfl rfl hi54 dX12_parcel_54 ?_
              refine lv_topi (fun v54 ev54 => ?_)
              have h := of_bnd h ev54
              refine lv_aload_n hx hb dX12_parcel_55 rfl (lv_at hl 0 rfl) ?_
              refine N_get hx hb hts hin hown hK hw 23 (by decide) rfl (index := 59) (by decide +kernel) rfl dX12_parcel_56 ?_
              refine lv_iload_n hx hb dX12_parcel_59 rfl (lv_at hl 2 rfl) ?_
              obtain ⟨hi60, h⟩ := of_grd h
              refine va_iald hx hb hK hw.1 17 0 rfl rfl hi60 dX12_parcel_60 ?_
              refine lv_topi (fun v60 ev60 => ?_)
              have h := of_bnd h ev60
              refine lv_icmp_ge (tgt := 68) hx hb dX12_parcel_61 (by decide) (fun c61 => ?_) (fun c61 => ?_)
              · have h := of_it h c61
                refine lv_iload_n hx hb dX12_parcel_68 rfl (lv_at hl 2 rfl) ?_
                refine lv_istore_n (lv' := [(2, .int l2), (0, .ref (ad 0)), (1, .int f1), (3, .int l3)]) hx hb dX12_parcel_69 rfl hl (by decide) rfl (fun ls hl => ?_)
                obtain ⟨x70, ex70⟩ : ∃ y : Int32, y = l3 + 1 := ⟨_, rfl⟩
                have h := of_bnd h ex70
                refine lv_iinc (v := x70) (lv' := [(3, .int x70), (2, .int l2), (0, .ref (ad 0)), (1, .int f1)]) hx hb dX12_parcel_70 hl (k := 3) rfl (by rw [ex70]; rfl) (by decide) rfl (fun ls hl => ?_)
                refine lv_goto (tgt := 24) hx hb dX12_parcel_73 (by decide) ?_
                exact ih24 l2 x70 _ h _ _ hw ls (lv_sub hl [2, 3, 1, 0] rfl) kx24_0
              · have h := of_if h c61
                refine lv_iload_n hx hb dX12_parcel_64 rfl (lv_at hl 3 rfl) ?_
                refine lv_goto (tgt := 69) hx hb dX12_parcel_65 (by decide) ?_
                refine lv_istore_n (lv' := [(2, .int l3), (0, .ref (ad 0)), (1, .int f1), (3, .int l3)]) hx hb dX12_parcel_69 rfl hl (by decide) rfl (fun ls hl => ?_)
                obtain ⟨x70, ex70⟩ : ∃ y : Int32, y = l3 + 1 := ⟨_, rfl⟩
                have h := of_bnd h ex70
                refine lv_iinc (v := x70) (lv' := [(3, .int x70), (2, .int l3), (0, .ref (ad 0)), (1, .int f1)]) hx hb dX12_parcel_70 hl (k := 3) rfl (by rw [ex70]; rfl) (by decide) rfl (fun ls hl => ?_)
                refine lv_goto (tgt := 24) hx hb dX12_parcel_73 (by decide) ?_
                exact ih24 l3 x70 _ h _ _ hw ls (lv_sub hl [2, 3, 1, 0] rfl) kx24_0
    obtain ⟨q24, hq24, h⟩ := of_cal h
    refine lp24 a1 S2 n.1 x21 x23 q24  hq24 _ _ hw ls (lv_sub hl [2, 3, 1, 0] rfl) ?_
    · intro t2_24 eq H locs hw ls hl
      subst eq
      refine lv_iload_n hx hb dX12_parcel_76 rfl (lv_at hl 2 rfl) ?_
      refine lv_if_ge (tgt := 87) hx hb dX12_parcel_77 (by decide) (fun c77 => ?_) (fun c77 => ?_)
      · have h := of_it h c77
        refine lv_aload_n hx hb dX12_parcel_87 rfl (lv_at hl 0 rfl) ?_
        refine N_get hx hb hts hin hown hK hw 37 (by decide) rfl (index := 229) (by decide +kernel) rfl dX12_parcel_88 ?_
        refine lv_topi (fun v88 ev88 => ?_)
        have h := of_bnd h ev88
        refine lv_istore_n (lv' := [(3, .int v88), (0, .ref (ad 0)), (1, .int a1), (2, .int t2_24)]) hx hb dX12_parcel_91 rfl hl (by decide) rfl (fun ls hl => ?_)
        refine lv_iconst (v := 0) hx hb dX12_parcel_92 (by decide) ?_
        refine lv_topi (fun x93 ex93 => ?_)
        have h := of_bnd h ex93
        refine lv_istore (lv' := [(4, .int x93), (3, .int v88), (0, .ref (ad 0)), (1, .int a1), (2, .int t2_24)]) hx hb dX12_parcel_93 hl (by decide) rfl (fun ls hl => ?_)
        refine lv_iconst (v := 0) hx hb dX12_parcel_95 (by decide) ?_
        refine lv_topi (fun x96 ex96 => ?_)
        have h := of_bnd h ex96
        refine lv_istore (lv' := [(5, .int x96), (4, .int x93), (3, .int v88), (0, .ref (ad 0)), (1, .int a1), (2, .int t2_24)]) hx hb dX12_parcel_96 hl (by decide) rfl (fun ls hl => ?_)
        have lp98 : ∀ (f1 : Int32) (f2 : Int32) (f3 : Int32) (k : Nat) (l4 : Int32) (l5 : Int32) (S : MS) (q : Int32 × MS) , fX12_parcel_lp98 n f1 k l4 l5 S = some q → ∀ (H : Heap) (locs : List Loc), mWd D cI cJ ad A s.heap S H locs → ∀ ls : Array Slot, lv_has ls 8 [(0, .ref (ad 0)), (1, .int f1), (2, .int f2), (3, .int f3), (4, .int l4), (5, .int l5)] → (∀ (t4 : Int32) (S1 : MS), (t4, S1) = q → ∀ (H : Heap) (locs : List Loc), mWd D cI cJ ad A s.heap S1 H locs → ∀ ls : Array Slot, lv_has ls 8 [(0, .ref (ad 0)), (1, .int f1), (2, .int f2), (3, .int f3), (4, .int t4)] → W p l e (cRm 3 72 0 0) s m args below meth c H locs (0) (0) (MQ below (va_Qi (fun x u => x = r ∧ u = T) (mAft D cI cJ ad A) A) args s 0 0 A) (F0 m 228 ls [])) → W p l e (cRm 3 72 0 0) s m args below meth c H locs (0) (0) (MQ below (va_Qi (fun x u => x = r ∧ u = T) (mAft D cI cJ ad A) A) args s 0 0 A) (F0 m 98 ls []) := by
          intro f1 f2 f3 k
          induction k with
          | zero => intro l4 l5 S q h; rw [fX12_parcel_lp98] at h; cases h
          | succ k ih98 =>
            intro l4 l5 S q h H locs hw ls hl kx98_0
            rw [fX12_parcel_lp98] at h
            refine lv_iload hx hb dX12_parcel_98 (lv_at hl 5 rfl) ?_
            refine lv_bipush (v := 10) hx hb dX12_parcel_100 (by decide) ?_
            refine lv_icmp_ge (tgt := 228) hx hb dX12_parcel_102 (by decide) (fun c102 => ?_) (fun c102 => ?_)
            · have h := of_it h c102
              exact kx98_0 l4 S (Option.some.inj h) _ _ hw ls (lv_sub hl [0, 1, 2, 3, 4] rfl)
            · have h := of_if h c102
              refine lv_aload_n hx hb dX12_parcel_105 rfl (lv_at hl 0 rfl) ?_
              refine lv_iload_n hx hb dX12_parcel_106 rfl (lv_at hl 1 rfl) ?_
              refine lv_iload hx hb dX12_parcel_107 (lv_at hl 5 rfl) ?_
              obtain ⟨q109, hq109, h⟩ := of_cal h
              refine N_calli (av := [.int f1, .int l5]) (rest := []) ⟨hx, hb, hml, hown, hts⟩ hA hK hw (cX12_needOf_ok l D cI cJ ad n S f1 l5 hq109) (cwV 2 hts gX12_parcel_X12_needOf rfl rfl rfl (by decide +kernel) ⟨Nat.le_of_ble_eq_true rfl, Nat.le_of_ble_eq_true rfl⟩) rfl hl.1 rfl (Nat.le_of_ble_eq_true rfl) dX12_parcel_109 ⟨Nat.le_refl _, Nat.le_refl _⟩ (fun H locs hw => ?_)
              refine lv_istore (lv' := [(6, .int q109), (0, .ref (ad 0)), (1, .int f1), (2, .int f2), (3, .int f3), (4, .int l4), (5, .int l5)]) hx hb dX12_parcel_112 hl (by decide) rfl (fun ls hl => ?_)
              refine lv_aload_n hx hb dX12_parcel_114 rfl (lv_at hl 1 rfl) ?_
              refine lv_iload_n hx hb dX12_parcel_115 rfl (lv_at hl 2 rfl) ?_
              refine lv_iload hx hb dX12_parcel_116 (lv_at hl 6 rfl) ?_
              obtain ⟨q118, hq118, h⟩ := of_cal h
              refine N_calli (av := [.int f1, .int l5]) (rest := []) ⟨hx, hb, hml, hown, hts⟩ hA hK hw (cX12_isBarred_ok l D cI cJ ad n S f1 l5 hq118) (cwV 2 hts gX12_parcel_X12_isBarred rfl rfl rfl (by decide +kernel) ⟨Nat.le_of_ble_eq_true rfl, Nat.le_of_ble_eq_true rfl⟩) rfl hl.1 rfl (Nat.le_of_ble_eq_true rfl) dX12_parcel_118 ⟨Nat.le_refl _, Nat.le_refl _⟩ (fun H locs hw => ?_)
              obtain ⟨j137, ej137, h⟩ := of_bndE h
              have hj137 : ∀ (z0_137 : Int32) (S : MS), j137 z0_137 S = some q → ∀ (H : Heap) (locs : List Loc), mWd D cI cJ ad A s.heap S H locs → ∀ ls : Array Slot, lv_has ls 8 [(0, .ref (ad 0)), (1, .int f1), (2, .int f2), (3, .int f3), (4, .int l4), (5, .int l5)] → W p l e (cRm 3 72 0 0) s m args below meth c H locs (0) (0) (MQ below (va_Qi (fun x u => x = r ∧ u = T) (mAft D cI cJ ad A) A) args s 0 0 A) (F0 m 137 ls [.int z0_137]) := by
                intro z0_137 S h H locs hw ls hl
                rw [ej137] at h
                dsimp only at h
                refine lv_istore (lv' := [(6, .int z0_137), (0, .ref (ad 0)), (1, .int f1), (2, .int f2), (3, .int f3), (4, .int l4), (5, .int l5)]) hx hb dX12_parcel_137 hl (by decide) rfl (fun ls hl => ?_)
                refine lv_iconst (v := 0) hx hb dX12_parcel_139 (by decide) ?_
                refine lv_topi (fun x140 ex140 => ?_)
                have h := of_bnd h ex140
                refine lv_istore (lv' := [(7, .int x140), (6, .int z0_137), (0, .ref (ad 0)), (1, .int f1), (2, .int f2), (3, .int f3), (4, .int l4), (5, .int l5)]) hx hb dX12_parcel_140 hl (by decide) rfl (fun ls hl => ?_)
                have lp142 : ∀ (f1 : Int32) (f2 : Int32) (f3 : Int32) (f4 : Int32) (f5 : Int32) (k : Nat) (l6 : Int32) (l7 : Int32) (S : MS) (q : Int32 × MS) , fX12_parcel_lp142 n f1 f5 k l6 l7 S = some q → ∀ (H : Heap) (locs : List Loc), mWd D cI cJ ad A s.heap S H locs → ∀ ls : Array Slot, lv_has ls 8 [(0, .ref (ad 0)), (1, .int f1), (2, .int f2), (3, .int f3), (4, .int f4), (5, .int f5), (6, .int l6), (7, .int l7)] → (∀ (t6 : Int32) (S1 : MS), (t6, S1) = q → ∀ (H : Heap) (locs : List Loc), mWd D cI cJ ad A s.heap S1 H locs → ∀ ls : Array Slot, lv_has ls 8 [(0, .ref (ad 0)), (1, .int f1), (2, .int f2), (3, .int f3), (4, .int f4), (5, .int f5), (6, .int t6)] → W p l e (cRm 3 72 0 0) s m args below meth c H locs (0) (0) (MQ below (va_Qi (fun x u => x = r ∧ u = T) (mAft D cI cJ ad A) A) args s 0 0 A) (F0 m 215 ls [])) → W p l e (cRm 3 72 0 0) s m args below meth c H locs (0) (0) (MQ below (va_Qi (fun x u => x = r ∧ u = T) (mAft D cI cJ ad A) A) args s 0 0 A) (F0 m 142 ls []) := by
                  intro f1 f2 f3 f4 f5 k
                  induction k with
                  | zero => intro l6 l7 S q h; rw [fX12_parcel_lp142] at h; cases h
                  | succ k ih142 =>
                    intro l6 l7 S q h H locs hw ls hl kx142_0
                    rw [fX12_parcel_lp142] at h
                    refine lv_iload hx hb dX12_parcel_142 (lv_at hl 7 rfl) ?_
                    refine lv_aload_n hx hb dX12_parcel_144 rfl (lv_at hl 0 rfl) ?_
                    refine N_get hx hb hts hin hown hK hw 25 (by decide) rfl (index := 216) (by decide +kernel) rfl dX12_parcel_145 ?_
                    refine lv_topi (fun v145 ev145 => ?_)
                    have h := of_bnd h ev145
                    refine lv_icmp_ge (tgt := 215) hx hb dX12_parcel_148 (by decide) (fun c148 => ?_) (fun c148 => ?_)
                    · have h := of_it h c148
                      exact kx142_0 l6 S (Option.some.inj h) _ _ hw ls (lv_sub hl [0, 1, 2, 3, 4, 5, 6] rfl)
                    · have h := of_if h c148
                      refine lv_iload hx hb dX12_parcel_151 (lv_at hl 6 rfl) ?_
                      refine lv_if_le (tgt := 215) hx hb dX12_parcel_153 (by decide) (fun c153 => ?_) (fun c153 => ?_)
                      · have h := of_it h c153
                        exact kx142_0 l6 S (Option.some.inj h) _ _ hw ls (lv_sub hl [0, 1, 2, 3, 4, 5, 6] rfl)
                      · have h := of_if h c153
                        refine lv_aload_n hx hb dX12_parcel_156 rfl (lv_at hl 0 rfl) ?_
                        refine N_get hx hb hts hin hown hK hw 26 (by decide) rfl (index := 65) (by decide +kernel) rfl dX12_parcel_157 ?_
                        refine lv_iload hx hb dX12_parcel_160 (lv_at hl 7 rfl) ?_
                        obtain ⟨hi162, h⟩ := of_grd h
                        refine va_iald hx hb hK hw.1 19 0 rfl rfl hi162 dX12_parcel_162 ?_
                        refine lv_topi (fun v162 ev162 => ?_)
                        have h := of_bnd h ev162
                        refine lv_iconst (v := 2) hx hb dX12_parcel_163 (by decide) ?_
                        refine lv_icmp_ne (tgt := 209) hx hb dX12_parcel_164 (by decide) (fun c164 => ?_) (fun c164 => ?_)
                        · have h := of_if h c164
                          obtain ⟨x209, ex209⟩ : ∃ y : Int32, y = l7 + 1 := ⟨_, rfl⟩
                          have h := of_bnd h ex209
                          refine lv_iinc (v := x209) (lv' := [(7, .int x209), (0, .ref (ad 0)), (1, .int f1), (2, .int f2), (3, .int f3), (4, .int f4), (5, .int f5), (6, .int l6)]) hx hb dX12_parcel_209 hl (k := 7) rfl (by rw [ex209]; rfl) (by decide) rfl (fun ls hl => ?_)
                          refine lv_goto (tgt := 142) hx hb dX12_parcel_212 (by decide) ?_
                          exact ih142 l6 x209 S _ h _ _ hw ls (lv_sub hl [1, 2, 3, 4, 5, 6, 7, 0] rfl) kx142_0
                        · have h := of_it h c164
                          refine lv_aload_n hx hb dX12_parcel_167 rfl (lv_at hl 0 rfl) ?_
                          refine N_get hx hb hts hin hown hK hw 27 (by decide) rfl (index := 68) (by decide +kernel) rfl dX12_parcel_168 ?_
                          refine lv_iload hx hb dX12_parcel_171 (lv_at hl 7 rfl) ?_
                          obtain ⟨hi173, h⟩ := of_grd h
                          refine va_iald hx hb hK hw.1 20 0 rfl rfl hi173 dX12_parcel_173 ?_
                          refine lv_topi (fun v173 ev173 => ?_)
                          have h := of_bnd h ev173
                          refine lv_iload hx hb dX12_parcel_174 (lv_at hl 5 rfl) ?_
                          refine lv_icmp_ne (tgt := 209) hx hb dX12_parcel_176 (by decide) (fun c176 => ?_) (fun c176 => ?_)
                          · have h := of_if h c176
                            obtain ⟨x209, ex209⟩ : ∃ y : Int32, y = l7 + 1 := ⟨_, rfl⟩
                            have h := of_bnd h ex209
                            refine lv_iinc (v := x209) (lv' := [(7, .int x209), (0, .ref (ad 0)), (1, .int f1), (2, .int f2), (3, .int f3), (4, .int f4), (5, .int f5), (6, .int l6)]) hx hb dX12_parcel_209 hl (k := 7) rfl (by rw [ex209]; rfl) (by decide) rfl (fun ls hl => ?_)
                            refine lv_goto (tgt := 142) hx hb dX12_parcel_212 (by decide) ?_
                            exact ih142 l6 x209 S _ h _ _ hw ls (lv_sub hl [1, 2, 3, 4, 5, 6, 7, 0] rfl) kx142_0
                          · have h := of_it h c176
                            refine lv_aload_n hx hb dX12_parcel_179 rfl (lv_at hl 0 rfl) ?_
                            refine lv_iload_n hx hb dX12_parcel_180 rfl (lv_at hl 1 rfl) ?_
                            refine lv_aload_n hx hb dX12_parcel_181 rfl (lv_at hl 0 rfl) ?_
                            refine N_get hx hb hts hin hown hK hw 28 (by decide) rfl (index := 71) (by decide +kernel) rfl dX12_parcel_182 ?_
                            refine lv_iload hx hb dX12_parcel_185 (lv_at hl 7 rfl) ?_
                            obtain ⟨hi187, h⟩ := of_grd h
                            refine va_iald hx hb hK hw.1 21 0 rfl rfl hi187 dX12_parcel_187 ?_
                            refine lv_topi (fun v187 ev187 => ?_)
                            have h := of_bnd h ev187
                            obtain ⟨q188, hq188, h⟩ := of_cal h
                            refine N_calli (av := [.int f1, .int v187]) (rest := []) ⟨hx, hb, hml, hown, hts⟩ hA hK hw (cX12_isBarred_ok l D cI cJ ad n S f1 v187 hq188) (cwV 2 hts gX12_parcel_X12_isBarred rfl rfl rfl (by decide +kernel) ⟨Nat.le_of_ble_eq_true rfl, Nat.le_of_ble_eq_true rfl⟩) rfl hl.1 rfl (Nat.le_of_ble_eq_true rfl) dX12_parcel_188 ⟨Nat.le_refl _, Nat.le_refl _⟩ (fun H locs hw => ?_)
                            refine lv_if_ne (tgt := 209) hx hb dX12_parcel_191 (by decide) (fun c191 => ?_) (fun c191 => ?_)
                            · have h := of_if h c191
                              obtain ⟨x209, ex209⟩ : ∃ y : Int32, y = l7 + 1 := ⟨_, rfl⟩
                              have h := of_bnd h ex209
                              refine lv_iinc (v := x209) (lv' := [(7, .int x209), (0, .ref (ad 0)), (1, .int f1), (2, .int f2), (3, .int f3), (4, .int f4), (5, .int f5), (6, .int l6)]) hx hb dX12_parcel_209 hl (k := 7) rfl (by rw [ex209]; rfl) (by decide) rfl (fun ls hl => ?_)
                              refine lv_goto (tgt := 142) hx hb dX12_parcel_212 (by decide) ?_
                              exact ih142 l6 x209 S _ h _ _ hw ls (lv_sub hl [1, 2, 3, 4, 5, 6, 7, 0] rfl) kx142_0
                            · have h := of_it h c191
                              refine lv_aload_n hx hb dX12_parcel_194 rfl (lv_at hl 0 rfl) ?_
                              refine lv_aload_n hx hb dX12_parcel_195 rfl (lv_at hl 0 rfl) ?_
                              refine N_get hx hb hts hin hown hK hw 28 (by decide) rfl (index := 71) (by decide +kernel) rfl dX12_parcel_196 ?_
                              refine lv_iload hx hb dX12_parcel_199 (lv_at hl 7 rfl) ?_
                              obtain ⟨hi201, h⟩ := of_grd h
                              refine va_iald hx hb hK hw.1 21 0 rfl rfl hi201 dX12_parcel_201 ?_
                              refine lv_topi (fun v201 ev201 => ?_)
                              have h := of_bnd h ev201
                              refine lv_iload hx hb dX12_parcel_202 (lv_at hl 6 rfl) ?_
                              obtain ⟨q204, hq204, h⟩ := of_cal h
                              obtain ⟨r204, S204⟩ := q204
                              have h := of_un2 h
                              refine N_calli (av := [.int v201, .int l6]) (rest := []) ⟨hx, hb, hml, hown, hts⟩ hA hK hw (cX12_take_ok l D cI cJ ad n S v201 l6 hq204) (cwV 2 hts gX12_parcel_X12_take rfl rfl rfl (by decide +kernel) ⟨Nat.le_of_ble_eq_true rfl, Nat.le_of_ble_eq_true rfl⟩) rfl hl.1 rfl (Nat.le_of_ble_eq_true rfl) dX12_parcel_204 ⟨Nat.le_refl _, Nat.le_refl _⟩ (fun H locs hw => ?_)
                              refine lv_istore (lv' := [(6, .int r204), (0, .ref (ad 0)), (1, .int f1), (2, .int f2), (3, .int f3), (4, .int f4), (5, .int f5), (7, .int l7)]) hx hb dX12_parcel_207 hl (by decide) rfl (fun ls hl => ?_)
                              obtain ⟨x209, ex209⟩ : ∃ y : Int32, y = l7 + 1 := ⟨_, rfl⟩
                              have h := of_bnd h ex209
                              refine lv_iinc (v := x209) (lv' := [(7, .int x209), (6, .int r204), (0, .ref (ad 0)), (1, .int f1), (2, .int f2), (3, .int f3), (4, .int f4), (5, .int f5)]) hx hb dX12_parcel_209 hl (k := 7) rfl (by rw [ex209]; rfl) (by decide) rfl (fun ls hl => ?_)
                              refine lv_goto (tgt := 142) hx hb dX12_parcel_212 (by decide) ?_
                              exact ih142 r204 x209 S204 _ h _ _ hw ls (lv_sub hl [2, 3, 4, 5, 6, 7, 1, 0] rfl) kx142_0
                obtain ⟨q142, hq142, h⟩ := of_cal h
                refine lp142 f1 f2 f3 l4 l5 n.1 z0_137 x140 S q142  hq142 _ _ hw ls (lv_sub hl [2, 3, 4, 5, 6, 7, 1, 0] rfl) ?_
                · intro t6_142 S142 eq H locs hw ls hl
                  subst eq
                  have h := of_un2 h
                  refine lv_iload hx hb dX12_parcel_215 (lv_at hl 4 rfl) ?_
                  refine lv_iload hx hb dX12_parcel_217 (lv_at hl 6 rfl) ?_
                  refine lv_iadd hx hb dX12_parcel_219 ?_
                  refine lv_topi (fun x220 ex220 => ?_)
                  have h := of_bnd h ex220
                  refine lv_istore (lv' := [(4, .int x220), (0, .ref (ad 0)), (1, .int f1), (2, .int f2), (3, .int f3), (5, .int l5), (6, .int t6_142)]) hx hb dX12_parcel_220 hl (by decide) rfl (fun ls hl => ?_)
                  obtain ⟨x222, ex222⟩ : ∃ y : Int32, y = l5 + 1 := ⟨_, rfl⟩
                  have h := of_bnd h ex222
                  refine lv_iinc (v := x222) (lv' := [(5, .int x222), (4, .int x220), (0, .ref (ad 0)), (1, .int f1), (2, .int f2), (3, .int f3), (6, .int t6_142)]) hx hb dX12_parcel_222 hl (k := 5) rfl (by rw [ex222]; rfl) (by decide) rfl (fun ls hl => ?_)
                  refine lv_goto (tgt := 98) hx hb dX12_parcel_225 (by decide) ?_
                  exact ih98 x220 x222 S142 _ h _ _ hw ls (lv_sub hl [2, 3, 4, 5, 1, 0] rfl) kx98_0
              refine lv_if_eq (tgt := 129) hx hb dX12_parcel_121 (by decide) (fun c121 => ?_) (fun c121 => ?_)
              · have h := of_it h c121
                refine lv_aload_n hx hb dX12_parcel_129 rfl (lv_at hl 1 rfl) ?_
                refine lv_iload hx hb dX12_parcel_130 (lv_at hl 6 rfl) ?_
                refine lv_iload hx hb dX12_parcel_132 (lv_at hl 0 rfl) ?_
                obtain ⟨q134, hq134, h⟩ := of_cal h
                obtain ⟨r134, S134⟩ := q134
                have h := of_un2 h
                refine N_calli (av := [.int l5, .int q109]) (rest := []) ⟨hx, hb, hml, hown, hts⟩ hA hK hw (cX12_take_ok l D cI cJ ad n S l5 q109 hq134) (cwV 2 hts gX12_parcel_X12_take rfl rfl rfl (by decide +kernel) ⟨Nat.le_of_ble_eq_true rfl, Nat.le_of_ble_eq_true rfl⟩) rfl hl.1 rfl (Nat.le_of_ble_eq_true rfl) dX12_parcel_134 ⟨Nat.le_refl _, Nat.le_refl _⟩ (fun H locs hw => ?_)
                exact hj137 r134 S134 h _ _ hw ls (lv_sub hl [1, 2, 3, 4, 5, 6] rfl)
              · have h := of_if h c121
                refine lv_iload hx hb dX12_parcel_124 (lv_at hl 0 rfl) ?_
                refine lv_goto (tgt := 137) hx hb dX12_parcel_126 (by decide) ?_
                exact hj137 q109 S h _ _ hw ls (lv_sub hl [1, 2, 3, 4, 5, 6] rfl)
        obtain ⟨q98, hq98, h⟩ := of_cal h
        refine lp98 a1 t2_24 v88 n.1 x93 x96 S2 q98  hq98 _ _ hw ls (lv_sub hl [3, 4, 5, 2, 1, 0] rfl) ?_
        · intro t4_98 S98 eq H locs hw ls hl
          subst eq
          have h := of_un2 h
          refine lv_aload_n hx hb dX12_parcel_228 rfl (lv_at hl 0 rfl) ?_
          refine N_get hx hb hts hin hown hK hw 37 (by decide) rfl (index := 229) (by decide +kernel) rfl dX12_parcel_229 ?_
          refine lv_topi (fun v229 ev229 => ?_)
          have h := of_bnd h ev229
          refine lv_iload_n hx hb dX12_parcel_232 rfl (lv_at hl 3 rfl) ?_
          refine lv_icmp_ne (tgt := 243) hx hb dX12_parcel_233 (by decide) (fun c233 => ?_) (fun c233 => ?_)
          · have h := of_if h c233
            refine lv_aload_n hx hb dX12_parcel_243 rfl (lv_at hl 0 rfl) ?_
            refine N_get hx hb hts hin hown hK hw 24 (by decide) rfl (index := 62) (by decide +kernel) rfl dX12_parcel_244 ?_
            refine lv_iload_n hx hb dX12_parcel_247 rfl (lv_at hl 2 rfl) ?_
            refine lv_dup2_11 hx hb dX12_parcel_248 rfl rfl ?_
            obtain ⟨hi249, h⟩ := of_grd h
            refine va_iald hx hb hK hw.1 18 0 rfl rfl hi249 dX12_parcel_249 ?_
            refine lv_topi (fun v249 ev249 => ?_)
            have h := of_bnd h ev249
            refine lv_iconst (v := 1) hx hb dX12_parcel_250 (by decide) ?_
            refine lv_isub hx hb dX12_parcel_251 ?_
            obtain ⟨hi252, h⟩ := of_grd h
            refine N_iast hx hb hK hw 18 rfl hi252 (pA_24 cI cJ ad S98 _) dX12_parcel_252 (fun S252 H locs eS252 hw => ?_)
            have h := of_bnd h eS252
            refine lv_aload_n hx hb dX12_parcel_253 rfl (lv_at hl 0 rfl) ?_
            refine N_get hx hb hts hin hown hK hw 33 (by decide) rfl (index := 80) (by decide +kernel) rfl dX12_parcel_254 ?_
            refine lv_aload_n hx hb dX12_parcel_257 rfl (lv_at hl 0 rfl) ?_
            refine N_get hx hb hts hin hown hK hw 32 (by decide) rfl (index := 239) (by decide +kernel) rfl dX12_parcel_258 ?_
            refine lv_topi (fun v258 ev258 => ?_)
            have h := of_bnd h ev258
            refine lv_iload_n hx hb dX12_parcel_261 rfl (lv_at hl 1 rfl) ?_
            obtain ⟨hi262, h⟩ := of_grd h
            refine N_iast hx hb hK hw 24 rfl hi262 (pA_33 cI cJ ad S252 _) dX12_parcel_262 (fun S262 H locs eS262 hw => ?_)
            have h := of_bnd h eS262
            refine lv_aload_n hx hb dX12_parcel_263 rfl (lv_at hl 0 rfl) ?_
            refine N_get hx hb hts hin hown hK hw 34 (by decide) rfl (index := 83) (by decide +kernel) rfl dX12_parcel_264 ?_
            refine lv_aload_n hx hb dX12_parcel_267 rfl (lv_at hl 0 rfl) ?_
            refine N_get hx hb hts hin hown hK hw 32 (by decide) rfl (index := 239) (by decide +kernel) rfl dX12_parcel_268 ?_
            refine lv_topi (fun v268 ev268 => ?_)
            have h := of_bnd h ev268
            refine lv_aload_n hx hb dX12_parcel_271 rfl (lv_at hl 0 rfl) ?_
            refine N_get hx hb hts hin hown hK hw 2 (by decide) rfl (index := 189) (by decide +kernel) rfl dX12_parcel_272 ?_
            refine lv_topi (fun v272 ev272 => ?_)
            have h := of_bnd h ev272
            obtain ⟨hi275, h⟩ := of_grd h
            refine N_iast hx hb hK hw 25 rfl hi275 (pA_34 cI cJ ad S262 _) dX12_parcel_275 (fun S275 H locs eS275 hw => ?_)
            have h := of_bnd h eS275
            refine lv_aload_n hx hb dX12_parcel_276 rfl (lv_at hl 0 rfl) ?_
            refine N_get hx hb hts hin hown hK hw 35 (by decide) rfl (index := 86) (by decide +kernel) rfl dX12_parcel_277 ?_
            refine lv_aload_n hx hb dX12_parcel_280 rfl (lv_at hl 0 rfl) ?_
            refine N_get hx hb hts hin hown hK hw 32 (by decide) rfl (index := 239) (by decide +kernel) rfl dX12_parcel_281 ?_
            refine lv_topi (fun v281 ev281 => ?_)
            have h := of_bnd h ev281
            refine lv_iload_n hx hb dX12_parcel_284 rfl (lv_at hl 3 rfl) ?_
            obtain ⟨hi285, h⟩ := of_grd h
            refine N_iast hx hb hK hw 26 rfl hi285 (pA_35 cI cJ ad S275 _) dX12_parcel_285 (fun S285 H locs eS285 hw => ?_)
            have h := of_bnd h eS285
            refine lv_aload_n hx hb dX12_parcel_286 rfl (lv_at hl 0 rfl) ?_
            refine N_get hx hb hts hin hown hK hw 36 (by decide) rfl (index := 89) (by decide +kernel) rfl dX12_parcel_287 ?_
            refine lv_aload_n hx hb dX12_parcel_290 rfl (lv_at hl 0 rfl) ?_
            refine N_get hx hb hts hin hown hK hw 32 (by decide) rfl (index := 239) (by decide +kernel) rfl dX12_parcel_291 ?_
            refine lv_topi (fun v291 ev291 => ?_)
            have h := of_bnd h ev291
            refine lv_iload hx hb dX12_parcel_294 (lv_at hl 4 rfl) ?_
            obtain ⟨hi296, h⟩ := of_grd h
            refine N_iast hx hb hK hw 27 rfl hi296 (pA_36 cI cJ ad S285 _) dX12_parcel_296 (fun S296 H locs eS296 hw => ?_)
            have h := of_bnd h eS296
            refine lv_aload_n hx hb dX12_parcel_297 rfl (lv_at hl 0 rfl) ?_
            refine lv_dup hx hb dX12_parcel_298 rfl ?_
            refine N_get hx hb hts hin hown hK hw 40 (by decide) rfl (index := 242) (by decide +kernel) rfl dX12_parcel_299 ?_
            refine lv_topl (fun v299 ev299 => ?_)
            have h := of_bnd h ev299
            refine lv_iload hx hb dX12_parcel_302 (lv_at hl 4 rfl) ?_
            refine lv_i2l hx hb dX12_parcel_304 rfl ?_
            refine lv_ladd hx hb dX12_parcel_305 ?_
            refine N_put hx hb hts hin hown hK hw 40 (by decide) rfl rfl (index := 242) (by decide +kernel) (ty := .long) (by decide +kernel) rfl rfl (pI_40 cI cJ ad S296 _) dX12_parcel_306 (fun S306 H locs eS306 hw => ?_)
            have h := of_bnd h eS306
            refine lv_aload_n hx hb dX12_parcel_309 rfl (lv_at hl 0 rfl) ?_
            refine lv_dup hx hb dX12_parcel_310 rfl ?_
            refine N_get hx hb hts hin hown hK hw 32 (by decide) rfl (index := 239) (by decide +kernel) rfl dX12_parcel_311 ?_
            refine lv_topi (fun v311 ev311 => ?_)
            have h := of_bnd h ev311
            refine lv_iconst (v := 1) hx hb dX12_parcel_314 (by decide) ?_
            refine lv_iadd hx hb dX12_parcel_315 ?_
            refine N_put hx hb hts hin hown hK hw 32 (by decide) rfl rfl (index := 239) (by decide +kernel) (ty := .int) (by decide +kernel) rfl rfl (pI_32 cI cJ ad S306 _) dX12_parcel_316 (fun S316 H locs eS316 hw => ?_)
            have h := of_bnd h eS316
            refine lv_aload_n hx hb dX12_parcel_319 rfl (lv_at hl 0 rfl) ?_
            refine N_get hx hb hts hin hown hK hw 35 (by decide) rfl (index := 86) (by decide +kernel) rfl dX12_parcel_320 ?_
            refine lv_aload_n hx hb dX12_parcel_323 rfl (lv_at hl 0 rfl) ?_
            refine N_get hx hb hts hin hown hK hw 32 (by decide) rfl (index := 239) (by decide +kernel) rfl dX12_parcel_324 ?_
            refine lv_topi (fun v324 ev324 => ?_)
            have h := of_bnd h ev324
            refine lv_aload_n hx hb dX12_parcel_327 rfl (lv_at hl 0 rfl) ?_
            refine N_get hx hb hts hin hown hK hw 37 (by decide) rfl (index := 229) (by decide +kernel) rfl dX12_parcel_328 ?_
            refine lv_topi (fun v328 ev328 => ?_)
            have h := of_bnd h ev328
            obtain ⟨hi331, h⟩ := of_grd h
            refine N_iast hx hb hK hw 26 rfl hi331 (pA_35 cI cJ ad S316 _) dX12_parcel_331 (fun S331 H locs eS331 hw => ?_)
            have h := of_bnd h eS331
            refine lv_aload_n hx hb dX12_parcel_332 rfl (lv_at hl 0 rfl) ?_
            refine lv_aload_n hx hb dX12_parcel_333 rfl (lv_at hl 0 rfl) ?_
            refine N_get hx hb hts hin hown hK hw 32 (by decide) rfl (index := 239) (by decide +kernel) rfl dX12_parcel_334 ?_
            refine lv_topi (fun v334 ev334 => ?_)
            have h := of_bnd h ev334
            refine lv_iconst (v := 1) hx hb dX12_parcel_337 (by decide) ?_
            refine lv_isub hx hb dX12_parcel_338 ?_
            obtain ⟨q339, hq339, h⟩ := of_cal h
            obtain ⟨r339, S339⟩ := q339
            have h := of_un2 h
            refine N_calli (av := [.int (v334 - (1 : Int32))]) (rest := []) ⟨hx, hb, hml, hown, hts⟩ hA hK hw (cX12_told_ok l D cI cJ ad n S331 (v334 - (1 : Int32)) hq339) (cwV 1 hts gX12_parcel_X12_told rfl rfl rfl (by decide +kernel) ⟨Nat.le_of_ble_eq_true rfl, Nat.le_of_ble_eq_true rfl⟩) rfl hl.1 rfl (Nat.le_of_ble_eq_true rfl) dX12_parcel_339 ⟨Nat.le_refl _, Nat.le_refl _⟩ (fun H locs hw => ?_)
            obtain ⟨rfl, rfl⟩ := of_ret2 h
            exact M_iret hx hb hr hlocks hK hw.1 hw.2.1 hw.2.2 dX12_parcel_342 ⟨rfl, rfl⟩
          · have h := of_it h c233
            refine lv_aload_n hx hb dX12_parcel_236 rfl (lv_at hl 0 rfl) ?_
            refine lv_bipush (v := -4) hx hb dX12_parcel_237 (by decide) ?_
            obtain ⟨q239, hq239, h⟩ := of_cal h
            obtain ⟨r239, S239⟩ := q239
            have h := of_un2 h
            refine N_calli (av := [.int (-4 : Int32)]) (rest := []) ⟨hx, hb, hml, hown, hts⟩ hA hK hw (cX12_told_ok l D cI cJ ad n S98 (-4 : Int32) hq239) (cwV 1 hts gX12_parcel_X12_told rfl rfl rfl (by decide +kernel) ⟨Nat.le_of_ble_eq_true rfl, Nat.le_of_ble_eq_true rfl⟩) rfl hl.1 rfl (Nat.le_of_ble_eq_true rfl) dX12_parcel_239 ⟨Nat.le_refl _, Nat.le_refl _⟩ (fun H locs hw => ?_)
            obtain ⟨rfl, rfl⟩ := of_ret2 h
            exact M_iret hx hb hr hlocks hK hw.1 hw.2.1 hw.2.2 dX12_parcel_242 ⟨rfl, rfl⟩
      · have h := of_if h c77
        refine lv_aload_n hx hb dX12_parcel_80 rfl (lv_at hl 0 rfl) ?_
        refine lv_bipush (v := -3) hx hb dX12_parcel_81 (by decide) ?_
        obtain ⟨q83, hq83, h⟩ := of_cal h
        obtain ⟨r83, S83⟩ := q83
        have h := of_un2 h
        refine N_calli (av := [.int (-3 : Int32)]) (rest := []) ⟨hx, hb, hml, hown, hts⟩ hA hK hw (cX12_told_ok l D cI cJ ad n S2 (-3 : Int32) hq83) (cwV 1 hts gX12_parcel_X12_told rfl rfl rfl (by decide +kernel) ⟨Nat.le_of_ble_eq_true rfl, Nat.le_of_ble_eq_true rfl⟩) rfl hl.1 rfl (Nat.le_of_ble_eq_true rfl) dX12_parcel_83 ⟨Nat.le_refl _, Nat.le_refl _⟩ (fun H locs hw => ?_)
        obtain ⟨rfl, rfl⟩ := of_ret2 h
        exact M_iret hx hb hr hlocks hK hw.1 hw.2.1 hw.2.2 dX12_parcel_86 ⟨rfl, rfl⟩
  · have h := of_it h c10
    refine lv_aload_n hx hb dX12_parcel_13 rfl (lv_at hl 0 rfl) ?_
    refine lv_bipush (v := -2) hx hb dX12_parcel_14 (by decide) ?_
    obtain ⟨q16, hq16, h⟩ := of_cal h
    obtain ⟨r16, S16⟩ := q16
    have h := of_un2 h
    refine N_calli (av := [.int (-2 : Int32)]) (rest := []) ⟨hx, hb, hml, hown, hts⟩ hA hK hw (cX12_told_ok l D cI cJ ad n S2 (-2 : Int32) hq16) (cwV 1 hts gX12_parcel_X12_told rfl rfl rfl (by decide +kernel) ⟨Nat.le_of_ble_eq_true rfl, Nat.le_of_ble_eq_true rfl⟩) rfl hl.1 rfl (Nat.le_of_ble_eq_true rfl) dX12_parcel_16 ⟨Nat.le_refl _, Nat.le_refl _⟩ (fun H locs hw => ?_)
    obtain ⟨rfl, rfl⟩ := of_ret2 h
    exact M_iret hx hb hr hlocks hK hw.1 hw.2.1 hw.2.2 dX12_parcel_19 ⟨rfl, rfl⟩

def fX12_of_lp99 (n : Nat × Nat) (S : MS) (f3 : Int32) (f4 : Int32) : Nat → Int32 → Int32 → Option (Int32)
  | 0, _, _ => none
  | k + 1, l5, l6 =>
    if f4 ≤ l6 then 
            some l5
            else grd (¬ ((f3 + l6) < 0 ∨ 24000 ≤ (f3 + l6).toNatClampNeg)) (bnd (mA S 39 (f3 + l6).toNatClampNeg) (fun v116 => bnd (l5 + v116) (fun x118 => bnd (l6 + 1) (fun x120 => fX12_of_lp99 n S f3 f4 k x118 x120 ))))
def fX12_of (n : Nat × Nat) (S : MS) (a1 : Int32) (a2 : Int32) : Option (Int32 × MS) :=
  bnd (sI S 0 (0 : Int32)) (fun S2 => bnd (mI S2 32) (fun v9 => bnd (fX12_in a1.toInt64 (0 : Int64) (v9.toInt64 - (1 : Int64))) (fun r15 => if r15 = 0 then 
    some ((-1 : Int32), S2)
    else grd (¬ (a1 < 0 ∨ 521 ≤ a1.toNatClampNeg)) (bnd (mA S2 35 a1.toNatClampNeg) (fun v28 => grd (¬ ((a1 + (1 : Int32)) < 0 ∨ 521 ≤ (a1 + (1 : Int32)).toNatClampNeg)) (bnd (mA S2 35 (a1 + (1 : Int32)).toNatClampNeg) (fun v37 => bnd (v37 - v28) (fun x40 => if a2 = 0 then grd (¬ (a1 < 0 ∨ 520 ≤ a1.toNatClampNeg)) (bnd (mA S2 33 a1.toNatClampNeg) (fun v81 => some (v81, S2))) else if a2 = 1 then grd (¬ (a1 < 0 ∨ 520 ≤ a1.toNatClampNeg)) (bnd (mA S2 34 a1.toNatClampNeg) (fun v88 => some (v88, S2))) else if a2 = 2 then some (x40, S2) else if a2 = 3 then bnd (0 : Int32) (fun x94 => bnd (0 : Int32) (fun x97 => cal (fX12_of_lp99 n S2 v28 x40 n.1 x94 x97 ) (fun t5_99 => some (t5_99, S2)))) else if a2 = 4 then grd (¬ (a1 < 0 ∨ 520 ≤ a1.toNatClampNeg)) (bnd (mA S2 36 a1.toNatClampNeg) (fun v134 => some (v134, S2))) else bnd (fX12_in a2.toInt64 (10 : Int64) (399 : Int64)) (fun r144 => if r144 = 0 then 
      if a2 < (400 : Int32) then 
        some ((-1 : Int32), S2)
        else if x40 ≤ (a2 - (400 : Int32)) then 
          some ((-1 : Int32), S2)
          else grd (¬ (((v28 + a2) - (400 : Int32)) < 0 ∨ 24000 ≤ ((v28 + a2) - (400 : Int32)).toNatClampNeg)) (bnd (mA S2 39 ((v28 + a2) - (400 : Int32)).toNatClampNeg) (fun v203 => some (v203, S2)))
      else if x40 ≤ (a2 - (10 : Int32)) then 
        some ((-1 : Int32), S2)
        else grd (¬ (((v28 + a2) - (10 : Int32)) < 0 ∨ 24000 ≤ ((v28 + a2) - (10 : Int32)).toNatClampNeg)) (bnd (mA S2 38 ((v28 + a2) - (10 : Int32)).toNatClampNeg) (fun v169 => some (v169, S2))))))))))))
set_option maxHeartbeats 8000000 in
set_option maxRecDepth 100000 in
theorem cX12_of_ok (l : Launch) (D : va_G) (cI cJ : ClassId) (ad : Nat → Nat) (n : Nat × Nat) (S : MS) (a1 : Int32) (a2 : Int32) {r : Int32} {T : MS} (h : fX12_of n S a1 a2 = some (r, T)) : Mi l yX12_of wsX12_of (cRm 1 25 0 0) D cI cJ ad [.int a1, .int a2] S (fun r1 u => r1 = r ∧ u = T) := by
  refine Mi_of (cc := cX12_of) (nL := 7) (ret := (some .int)) (by decide) rfl rfl (Nat.le_of_ble_eq_true rfl) ?_
  intro p e s m args below meth c A hx hb hr hlocks hml hts hown hA hK hP hD hS ls hl
  have hw : mWd D cI cJ ad A s.heap S s.heap [] := ⟨hP, hD, hS⟩
  unfold fX12_of at h
  have hin : ∀ w ∈ wsX120, w ∈ wsX12_of := fun w h => List.mem_cons_of_mem _ (List.mem_append_right _ h)
  have hl : lv_has ls 7 [(0, .ref (ad 0)), (1, .int a1), (2, .int a2)] := hl
  refine lv_aload_n hx hb dX12_of_0 rfl (lv_at hl 0 rfl) ?_
  refine lv_iconst (v := 0) hx hb dX12_of_1 (by decide) ?_
  refine N_put hx hb hts hin hown hK hw 0 (by decide) rfl rfl (index := 156) (by decide +kernel) (ty := .int) (by decide +kernel) rfl rfl (pI_0 cI cJ ad S _) dX12_of_2 (fun S2 H locs eS2 hw => ?_)
  have h := of_bnd h eS2
  refine lv_iload_n hx hb dX12_of_5 rfl (lv_at hl 1 rfl) ?_
  refine lv_i2l hx hb dX12_of_6 rfl ?_
  refine lv_lconst (v := 0) hx hb dX12_of_7 (by decide) ?_
  refine lv_aload_n hx hb dX12_of_8 rfl (lv_at hl 0 rfl) ?_
  refine N_get hx hb hts hin hown hK hw 32 (by decide) rfl (index := 239) (by decide +kernel) rfl dX12_of_9 ?_
  refine lv_topi (fun v9 ev9 => ?_)
  have h := of_bnd h ev9
  refine lv_i2l hx hb dX12_of_12 rfl ?_
  refine lv_lconst (v := 1) hx hb dX12_of_13 (by decide) ?_
  refine lv_lsub hx hb dX12_of_14 ?_
  refine C_s (va_runS (As := [.long a1.toInt64, .long (0 : Int64), .long (v9.toInt64 - (1 : Int64))]) (rest := []) ⟨hx, hb, hml, hown, hts⟩ (cX12_in_ok l a1.toInt64 (0 : Int64) (v9.toInt64 - (1 : Int64))) (va_cwS 3 hts gX12_of_X12_in rfl rfl rfl (by decide +kernel) ⟨Nat.le_of_ble_eq_true rfl, Nat.le_of_ble_eq_true rfl⟩) ⟨fun a U g mk q => ⟨q.1, trivial⟩, fun U hU hW => ⟨rfl, trivial⟩⟩ rfl rfl hl.1 rfl (lv_room (Nat.le_of_ble_eq_true rfl)) dX12_of_15 ⟨Nat.le_refl _, Nat.le_refl _⟩) (fun r15 er15 => ?_)
  have h := of_bnd h er15
  refine lv_if_ne (tgt := 23) hx hb dX12_of_18 (by decide) (fun c18 => ?_) (fun c18 => ?_)
  · have h := of_if h c18
    refine lv_aload_n hx hb dX12_of_23 rfl (lv_at hl 0 rfl) ?_
    refine N_get hx hb hts hin hown hK hw 35 (by decide) rfl (index := 86) (by decide +kernel) rfl dX12_of_24 ?_
    refine lv_iload_n hx hb dX12_of_27 rfl (lv_at hl 1 rfl) ?_
    obtain ⟨hi28, h⟩ := of_grd h
    refine va_iald hx hb hK hw.1 26 0 rfl rfl hi28 dX12_of_28 ?_
    refine lv_topi (fun v28 ev28 => ?_)
    have h := of_bnd h ev28
    refine lv_istore_n (lv' := [(3, .int v28), (0, .ref (ad 0)), (1, .int a1), (2, .int a2)]) hx hb dX12_of_29 rfl hl (by decide) rfl (fun ls hl => ?_)
    refine lv_aload_n hx hb dX12_of_30 rfl (lv_at hl 1 rfl) ?_
    refine N_get hx hb hts hin hown hK hw 35 (by decide) rfl (index := 86) (by decide +kernel) rfl dX12_of_31 ?_
    refine lv_iload_n hx hb dX12_of_34 rfl (lv_at hl 2 rfl) ?_
    refine lv_iconst (v := 1) hx hb dX12_of_35 (by decide) ?_
    refine lv_iadd hx hb dX12_of_36 ?_
    obtain ⟨hi37, h⟩ := of_grd h
    refine va_iald hx hb hK hw.1 26 0 rfl rfl hi37 dX12_of_37 ?_
    refine lv_topi (fun v37 ev37 => ?_)
    have h := of_bnd h ev37
    refine lv_iload_n hx hb dX12_of_38 rfl (lv_at hl 0 rfl) ?_
    refine lv_isub hx hb dX12_of_39 ?_
    refine lv_topi (fun x40 ex40 => ?_)
    have h := of_bnd h ex40
    refine lv_istore (lv' := [(4, .int x40), (3, .int v28), (0, .ref (ad 0)), (1, .int a1), (2, .int a2)]) hx hb dX12_of_40 hl (by decide) rfl (fun ls hl => ?_)
    refine lv_iload_n hx hb dX12_of_42 rfl (lv_at hl 4 rfl) ?_
    by_cases c43_0 : a2 = 0
    · have h := of_it h c43_0
      refine lv_tableIn (tgt := 76) hx hb dX12_of_43 (by rw [c43_0]; decide) (by rw [c43_0]; decide) (by rw [c43_0]; rfl) (by decide) ?_
      refine lv_aload_n hx hb dX12_of_76 rfl (lv_at hl 2 rfl) ?_
      refine N_get hx hb hts hin hown hK hw 33 (by decide) rfl (index := 80) (by decide +kernel) rfl dX12_of_77 ?_
      refine lv_iload_n hx hb dX12_of_80 rfl (lv_at hl 3 rfl) ?_
      obtain ⟨hi81, h⟩ := of_grd h
      refine va_iald hx hb hK hw.1 24 0 rfl rfl hi81 dX12_of_81 ?_
      refine lv_topi (fun v81 ev81 => ?_)
      have h := of_bnd h ev81
      obtain ⟨rfl, rfl⟩ := of_ret2 h
      exact M_iret hx hb hr hlocks hK hw.1 hw.2.1 hw.2.2 dX12_of_82 ⟨rfl, rfl⟩
    have h := of_if h c43_0
    by_cases c43_1 : a2 = 1
    · have h := of_it h c43_1
      refine lv_tableIn (tgt := 83) hx hb dX12_of_43 (by rw [c43_1]; decide) (by rw [c43_1]; decide) (by rw [c43_1]; rfl) (by decide) ?_
      refine lv_aload_n hx hb dX12_of_83 rfl (lv_at hl 2 rfl) ?_
      refine N_get hx hb hts hin hown hK hw 34 (by decide) rfl (index := 83) (by decide +kernel) rfl dX12_of_84 ?_
      refine lv_iload_n hx hb dX12_of_87 rfl (lv_at hl 3 rfl) ?_
      obtain ⟨hi88, h⟩ := of_grd h
      refine va_iald hx hb hK hw.1 25 0 rfl rfl hi88 dX12_of_88 ?_
      refine lv_topi (fun v88 ev88 => ?_)
      have h := of_bnd h ev88
      obtain ⟨rfl, rfl⟩ := of_ret2 h
      exact M_iret hx hb hr hlocks hK hw.1 hw.2.1 hw.2.2 dX12_of_89 ⟨rfl, rfl⟩
    have h := of_if h c43_1
    by_cases c43_2 : a2 = 2
    · have h := of_it h c43_2
      refine lv_tableIn (tgt := 90) hx hb dX12_of_43 (by rw [c43_2]; decide) (by rw [c43_2]; decide) (by rw [c43_2]; rfl) (by decide) ?_
      refine lv_iload hx hb dX12_of_90 (lv_at hl 0 rfl) ?_
      obtain ⟨rfl, rfl⟩ := of_ret2 h
      exact M_iret hx hb hr hlocks hK hw.1 hw.2.1 hw.2.2 dX12_of_92 ⟨rfl, rfl⟩
    have h := of_if h c43_2
    by_cases c43_3 : a2 = 3
    · have h := of_it h c43_3
      refine lv_tableIn (tgt := 93) hx hb dX12_of_43 (by rw [c43_3]; decide) (by rw [c43_3]; decide) (by rw [c43_3]; rfl) (by decide) ?_
      refine lv_iconst (v := 0) hx hb dX12_of_93 (by decide) ?_
      refine lv_topi (fun x94 ex94 => ?_)
      have h := of_bnd h ex94
      refine lv_istore (lv' := [(5, .int x94), (4, .int x40), (3, .int v28), (0, .ref (ad 0)), (1, .int a1), (2, .int a2)]) hx hb dX12_of_94 hl (by decide) rfl (fun ls hl => ?_)
      refine lv_iconst (v := 0) hx hb dX12_of_96 (by decide) ?_
      refine lv_topi (fun x97 ex97 => ?_)
      have h := of_bnd h ex97
      refine lv_istore (lv' := [(6, .int x97), (5, .int x94), (4, .int x40), (3, .int v28), (0, .ref (ad 0)), (1, .int a1), (2, .int a2)]) hx hb dX12_of_97 hl (by decide) rfl (fun ls hl => ?_)
      have lp99 : ∀ (f3 : Int32) (f4 : Int32) (S : MS) (k : Nat) (l5 : Int32) (l6 : Int32) (q : Int32) , fX12_of_lp99 n S f3 f4 k l5 l6  = some q → ∀ (H : Heap) (locs : List Loc), mWd D cI cJ ad A s.heap S H locs → ∀ ls : Array Slot, lv_has ls 7 [(0, .ref (ad 0)), (3, .int f3), (4, .int f4), (5, .int l5), (6, .int l6)] → (∀ (t5 : Int32), t5 = q → ∀ (H : Heap) (locs : List Loc), mWd D cI cJ ad A s.heap S H locs → ∀ ls : Array Slot, lv_has ls 7 [(5, .int t5)] → W p l e (cRm 1 25 0 0) s m args below meth c H locs (0) (0) (MQ below (va_Qi (fun x u => x = r ∧ u = T) (mAft D cI cJ ad A) A) args s 0 0 A) (F0 m 126 ls [])) → W p l e (cRm 1 25 0 0) s m args below meth c H locs (0) (0) (MQ below (va_Qi (fun x u => x = r ∧ u = T) (mAft D cI cJ ad A) A) args s 0 0 A) (F0 m 99 ls []) := by
        intro f3 f4 S k
        induction k with
        | zero => intro l5 l6 q h; rw [fX12_of_lp99] at h; cases h
        | succ k ih99 =>
          intro l5 l6 q h H locs hw ls hl kx99_0
          rw [fX12_of_lp99] at h
          refine lv_iload hx hb dX12_of_99 (lv_at hl 4 rfl) ?_
          refine lv_iload hx hb dX12_of_101 (lv_at hl 2 rfl) ?_
          refine lv_icmp_ge (tgt := 126) hx hb dX12_of_103 (by decide) (fun c103 => ?_) (fun c103 => ?_)
          · have h := of_it h c103
            exact kx99_0 l5 (Option.some.inj h) _ _ hw ls (lv_sub hl [3] rfl)
          · have h := of_if h c103
            refine lv_iload hx hb dX12_of_106 (lv_at hl 3 rfl) ?_
            refine lv_aload_n hx hb dX12_of_108 rfl (lv_at hl 0 rfl) ?_
            refine N_get hx hb hts hin hown hK hw 39 (by decide) rfl (index := 95) (by decide +kernel) rfl dX12_of_109 ?_
            refine lv_iload_n hx hb dX12_of_112 rfl (lv_at hl 1 rfl) ?_
            refine lv_iload hx hb dX12_of_113 (lv_at hl 4 rfl) ?_
            refine lv_iadd hx hb dX12_of_115 ?_
            obtain ⟨hi116, h⟩ := of_grd h
            refine va_iald hx hb hK hw.1 29 0 rfl rfl hi116 dX12_of_116 ?_
            refine lv_topi (fun v116 ev116 => ?_)
            have h := of_bnd h ev116
            refine lv_iadd hx hb dX12_of_117 ?_
            refine lv_topi (fun x118 ex118 => ?_)
            have h := of_bnd h ex118
            refine lv_istore (lv' := [(5, .int x118), (0, .ref (ad 0)), (3, .int f3), (4, .int f4), (6, .int l6)]) hx hb dX12_of_118 hl (by decide) rfl (fun ls hl => ?_)
            obtain ⟨x120, ex120⟩ : ∃ y : Int32, y = l6 + 1 := ⟨_, rfl⟩
            have h := of_bnd h ex120
            refine lv_iinc (v := x120) (lv' := [(6, .int x120), (5, .int x118), (0, .ref (ad 0)), (3, .int f3), (4, .int f4)]) hx hb dX12_of_120 hl (k := 4) rfl (by rw [ex120]; rfl) (by decide) rfl (fun ls hl => ?_)
            refine lv_goto (tgt := 99) hx hb dX12_of_123 (by decide) ?_
            exact ih99 x118 x120 _ h _ _ hw ls (lv_sub hl [2, 3, 4, 1, 0] rfl) kx99_0
      obtain ⟨q99, hq99, h⟩ := of_cal h
      refine lp99 v28 x40 S2 n.1 x94 x97 q99  hq99 _ _ hw ls (lv_sub hl [4, 3, 2, 1, 0] rfl) ?_
      · intro t5_99 eq H locs hw ls hl
        subst eq
        refine lv_iload hx hb dX12_of_126 (lv_at hl 0 rfl) ?_
        obtain ⟨rfl, rfl⟩ := of_ret2 h
        exact M_iret hx hb hr hlocks hK hw.1 hw.2.1 hw.2.2 dX12_of_128 ⟨rfl, rfl⟩
    have h := of_if h c43_3
    by_cases c43_4 : a2 = 4
    · have h := of_it h c43_4
      refine lv_tableIn (tgt := 129) hx hb dX12_of_43 (by rw [c43_4]; decide) (by rw [c43_4]; decide) (by rw [c43_4]; rfl) (by decide) ?_
      refine lv_aload_n hx hb dX12_of_129 rfl (lv_at hl 2 rfl) ?_
      refine N_get hx hb hts hin hown hK hw 36 (by decide) rfl (index := 89) (by decide +kernel) rfl dX12_of_130 ?_
      refine lv_iload_n hx hb dX12_of_133 rfl (lv_at hl 3 rfl) ?_
      obtain ⟨hi134, h⟩ := of_grd h
      refine va_iald hx hb hK hw.1 27 0 rfl rfl hi134 dX12_of_134 ?_
      refine lv_topi (fun v134 ev134 => ?_)
      have h := of_bnd h ev134
      obtain ⟨rfl, rfl⟩ := of_ret2 h
      exact M_iret hx hb hr hlocks hK hw.1 hw.2.1 hw.2.2 dX12_of_135 ⟨rfl, rfl⟩
    have h := of_if h c43_4
    refine lv_tableOut (tgt := 136) hx hb dX12_of_43 ?_ (by decide) ?_
    · refine sw_out (0) (4) a2 (by decide) (fun k h1 h2 => ?_)
      have h3 : k = 0 ∨ k = 1 ∨ k = 2 ∨ k = 3 ∨ k = 4 := by omega
      rcases h3 with rfl | rfl | rfl | rfl | rfl <;> first | exact c43_0 | exact c43_1 | exact c43_2 | exact c43_3 | exact c43_4
    refine lv_iload_n hx hb dX12_of_136 rfl (lv_at hl 4 rfl) ?_
    refine lv_i2l hx hb dX12_of_137 rfl ?_
    refine lv_ldc2 (v := 10) hx hb hown (hts (.constantLong RX12 246 (10)) (by decide +kernel)) dX12_of_138 ?_
    refine lv_ldc2 (v := 399) hx hb hown (hts (.constantLong RX12 248 (399)) (by decide +kernel)) dX12_of_141 ?_
    refine C_s (va_runS (As := [.long a2.toInt64, .long (10 : Int64), .long (399 : Int64)]) (rest := []) ⟨hx, hb, hml, hown, hts⟩ (cX12_in_ok l a2.toInt64 (10 : Int64) (399 : Int64)) (va_cwS 3 hts gX12_of_X12_in rfl rfl rfl (by decide +kernel) ⟨Nat.le_of_ble_eq_true rfl, Nat.le_of_ble_eq_true rfl⟩) ⟨fun a U g mk q => ⟨q.1, trivial⟩, fun U hU hW => ⟨rfl, trivial⟩⟩ rfl rfl hl.1 rfl (lv_room (Nat.le_of_ble_eq_true rfl)) dX12_of_144 ⟨Nat.le_refl _, Nat.le_refl _⟩) (fun r144 er144 => ?_)
    have h := of_bnd h er144
    refine lv_if_eq (tgt := 175) hx hb dX12_of_147 (by decide) (fun c147 => ?_) (fun c147 => ?_)
    · have h := of_it h c147
      refine lv_iload_n hx hb dX12_of_175 rfl (lv_at hl 4 rfl) ?_
      refine lv_sipush (v := 400) hx hb dX12_of_176 (by decide) ?_
      refine lv_icmp_lt (tgt := 207) hx hb dX12_of_179 (by decide) (fun c179 => ?_) (fun c179 => ?_)
      · have h := of_it h c179
        refine lv_iconst (v := -1) hx hb dX12_of_207 (by decide) ?_
        obtain ⟨rfl, rfl⟩ := of_ret2 h
        exact M_iret hx hb hr hlocks hK hw.1 hw.2.1 hw.2.2 dX12_of_208 ⟨rfl, rfl⟩
      · have h := of_if h c179
        refine lv_iload_n hx hb dX12_of_182 rfl (lv_at hl 4 rfl) ?_
        refine lv_sipush (v := 400) hx hb dX12_of_183 (by decide) ?_
        refine lv_isub hx hb dX12_of_186 ?_
        refine lv_iload hx hb dX12_of_187 (lv_at hl 0 rfl) ?_
        refine lv_icmp_ge (tgt := 207) hx hb dX12_of_189 (by decide) (fun c189 => ?_) (fun c189 => ?_)
        · have h := of_it h c189
          refine lv_iconst (v := -1) hx hb dX12_of_207 (by decide) ?_
          obtain ⟨rfl, rfl⟩ := of_ret2 h
          exact M_iret hx hb hr hlocks hK hw.1 hw.2.1 hw.2.2 dX12_of_208 ⟨rfl, rfl⟩
        · have h := of_if h c189
          refine lv_aload_n hx hb dX12_of_192 rfl (lv_at hl 2 rfl) ?_
          refine N_get hx hb hts hin hown hK hw 39 (by decide) rfl (index := 95) (by decide +kernel) rfl dX12_of_193 ?_
          refine lv_iload_n hx hb dX12_of_196 rfl (lv_at hl 1 rfl) ?_
          refine lv_iload_n hx hb dX12_of_197 rfl (lv_at hl 4 rfl) ?_
          refine lv_iadd hx hb dX12_of_198 ?_
          refine lv_sipush (v := 400) hx hb dX12_of_199 (by decide) ?_
          refine lv_isub hx hb dX12_of_202 ?_
          obtain ⟨hi203, h⟩ := of_grd h
          refine va_iald hx hb hK hw.1 29 0 rfl rfl hi203 dX12_of_203 ?_
          refine lv_topi (fun v203 ev203 => ?_)
          have h := of_bnd h ev203
          refine lv_goto (tgt := 208) hx hb dX12_of_204 (by decide) ?_
          obtain ⟨rfl, rfl⟩ := of_ret2 h
          exact M_iret hx hb hr hlocks hK hw.1 hw.2.1 hw.2.2 dX12_of_208 ⟨rfl, rfl⟩
    · have h := of_if h c147
      refine lv_iload_n hx hb dX12_of_150 rfl (lv_at hl 4 rfl) ?_
      refine lv_bipush (v := 10) hx hb dX12_of_151 (by decide) ?_
      refine lv_isub hx hb dX12_of_153 ?_
      refine lv_iload hx hb dX12_of_154 (lv_at hl 0 rfl) ?_
      refine lv_icmp_ge (tgt := 173) hx hb dX12_of_156 (by decide) (fun c156 => ?_) (fun c156 => ?_)
      · have h := of_it h c156
        refine lv_iconst (v := -1) hx hb dX12_of_173 (by decide) ?_
        obtain ⟨rfl, rfl⟩ := of_ret2 h
        exact M_iret hx hb hr hlocks hK hw.1 hw.2.1 hw.2.2 dX12_of_174 ⟨rfl, rfl⟩
      · have h := of_if h c156
        refine lv_aload_n hx hb dX12_of_159 rfl (lv_at hl 2 rfl) ?_
        refine N_get hx hb hts hin hown hK hw 38 (by decide) rfl (index := 92) (by decide +kernel) rfl dX12_of_160 ?_
        refine lv_iload_n hx hb dX12_of_163 rfl (lv_at hl 1 rfl) ?_
        refine lv_iload_n hx hb dX12_of_164 rfl (lv_at hl 4 rfl) ?_
        refine lv_iadd hx hb dX12_of_165 ?_
        refine lv_bipush (v := 10) hx hb dX12_of_166 (by decide) ?_
        refine lv_isub hx hb dX12_of_168 ?_
        obtain ⟨hi169, h⟩ := of_grd h
        refine va_iald hx hb hK hw.1 28 0 rfl rfl hi169 dX12_of_169 ?_
        refine lv_topi (fun v169 ev169 => ?_)
        have h := of_bnd h ev169
        refine lv_goto (tgt := 174) hx hb dX12_of_170 (by decide) ?_
        obtain ⟨rfl, rfl⟩ := of_ret2 h
        exact M_iret hx hb hr hlocks hK hw.1 hw.2.1 hw.2.2 dX12_of_174 ⟨rfl, rfl⟩
  · have h := of_it h c18
    refine lv_iconst (v := -1) hx hb dX12_of_21 (by decide) ?_
    obtain ⟨rfl, rfl⟩ := of_ret2 h
    exact M_iret hx hb hr hlocks hK hw.1 hw.2.1 hw.2.2 dX12_of_22 ⟨rfl, rfl⟩

def fX12_go_lp47 (n : Nat × Nat) : Nat → Int32 → MS → Option (MS)
  | 0, _, _ => none
  | k + 1, l2, S =>
    bnd (mI S 4) (fun v49 => if v49 ≤ l2 then 
            some S
            else grd (¬ (l2 < 0 ∨ 200 ≤ l2.toNatClampNeg)) (bnd (mA S 7 l2.toNatClampNeg) (fun v60 => bnd (mI S 2) (fun v62 => if v62 ≤ v60 then 
              bnd (l2 + 1) (fun x90 => fX12_go_lp47 n k x90 S)
              else grd (¬ (l2 < 0 ∨ 200 ≤ l2.toNatClampNeg)) (bnd (mA S 12 l2.toNatClampNeg) (fun v74 => grd (¬ (l2 < 0 ∨ 200 ≤ l2.toNatClampNeg)) (bnd (mA S 9 l2.toNatClampNeg) (fun v80 => grd (¬ (l2 < 0 ∨ 200 ≤ l2.toNatClampNeg)) (bnd (sA S 12 (upd (mA S 12) l2.toNatClampNeg (v74 + v80))) (fun S82 => grd (¬ (l2 < 0 ∨ 200 ≤ l2.toNatClampNeg)) (bnd (sA S82 9 (upd (mA S82 9) l2.toNatClampNeg (0 : Int32))) (fun S89 => bnd (l2 + 1) (fun x90 => fX12_go_lp47 n k x90 S89)))))))))))))
def fX12_go (n : Nat × Nat) (S : MS) (a1 : Int32) : Option (Int32 × MS) :=
  bnd (sI S 0 (0 : Int32)) (fun S2 => bnd (fX12_in a1.toInt64 (1 : Int64) (60 : Int64)) (fun r11 => if r11 = 0 then 
    cal (fX12_told n S2 (-1 : Int32)) (un2 fun r31 S31 => some (r31, S31))
    else bnd (mI S2 2) (fun v18 => if (v18 + a1) ≤ (500 : Int32) then 
      bnd (mI S2 2) (fun v37 => bnd (sI S2 2 (v37 + a1)) (fun S42 => bnd (0 : Int32) (fun x46 => cal (fX12_go_lp47 n n.1 x46 S42) (fun S47 => bnd (mI S47 2) (fun v98 => cal (fX12_told n S47 v98) (un2 fun r101 S101 => some (r101, S101)))))))
      else cal (fX12_told n S2 (-1 : Int32)) (un2 fun r31 S31 => some (r31, S31)))))
set_option maxHeartbeats 8000000 in
set_option maxRecDepth 100000 in
theorem cX12_go_ok (l : Launch) (D : va_G) (cI cJ : ClassId) (ad : Nat → Nat) (n : Nat × Nat) (S : MS) (a1 : Int32) {r : Int32} {T : MS} (h : fX12_go n S a1 = some (r, T)) : Mi l yX12_go wsX12_go (cRm 1 25 0 0) D cI cJ ad [.int a1] S (fun r1 u => r1 = r ∧ u = T) := by
  refine Mi_of (cc := cX12_go) (nL := 3) (ret := (some .int)) (by decide) rfl rfl (Nat.le_of_ble_eq_true rfl) ?_
  intro p e s m args below meth c A hx hb hr hlocks hml hts hown hA hK hP hD hS ls hl
  have hw : mWd D cI cJ ad A s.heap S s.heap [] := ⟨hP, hD, hS⟩
  unfold fX12_go at h
  have hin : ∀ w ∈ wsX120, w ∈ wsX12_go := fun w h => List.mem_cons_of_mem _ (List.mem_append_right _ h)
  have hl : lv_has ls 3 [(0, .ref (ad 0)), (1, .int a1)] := hl
  refine lv_aload_n hx hb dX12_go_0 rfl (lv_at hl 0 rfl) ?_
  refine lv_iconst (v := 0) hx hb dX12_go_1 (by decide) ?_
  refine N_put hx hb hts hin hown hK hw 0 (by decide) rfl rfl (index := 156) (by decide +kernel) (ty := .int) (by decide +kernel) rfl rfl (pI_0 cI cJ ad S _) dX12_go_2 (fun S2 H locs eS2 hw => ?_)
  have h := of_bnd h eS2
  refine lv_iload_n hx hb dX12_go_5 rfl (lv_at hl 1 rfl) ?_
  refine lv_i2l hx hb dX12_go_6 rfl ?_
  refine lv_lconst (v := 1) hx hb dX12_go_7 (by decide) ?_
  refine lv_ldc2 (v := 60) hx hb hown (hts (.constantLong RX12 250 (60)) (by decide +kernel)) dX12_go_8 ?_
  refine C_s (va_runS (As := [.long a1.toInt64, .long (1 : Int64), .long (60 : Int64)]) (rest := []) ⟨hx, hb, hml, hown, hts⟩ (cX12_in_ok l a1.toInt64 (1 : Int64) (60 : Int64)) (va_cwS 3 hts gX12_go_X12_in rfl rfl rfl (by decide +kernel) ⟨Nat.le_of_ble_eq_true rfl, Nat.le_of_ble_eq_true rfl⟩) ⟨fun a U g mk q => ⟨q.1, trivial⟩, fun U hU hW => ⟨rfl, trivial⟩⟩ rfl rfl hl.1 rfl (lv_room (Nat.le_of_ble_eq_true rfl)) dX12_go_11 ⟨Nat.le_refl _, Nat.le_refl _⟩) (fun r11 er11 => ?_)
  have h := of_bnd h er11
  refine lv_if_eq (tgt := 29) hx hb dX12_go_14 (by decide) (fun c14 => ?_) (fun c14 => ?_)
  · have h := of_it h c14
    refine lv_aload_n hx hb dX12_go_29 rfl (lv_at hl 0 rfl) ?_
    refine lv_iconst (v := -1) hx hb dX12_go_30 (by decide) ?_
    obtain ⟨q31, hq31, h⟩ := of_cal h
    obtain ⟨r31, S31⟩ := q31
    have h := of_un2 h
    refine N_calli (av := [.int (-1 : Int32)]) (rest := []) ⟨hx, hb, hml, hown, hts⟩ hA hK hw (cX12_told_ok l D cI cJ ad n S2 (-1 : Int32) hq31) (cwV 1 hts gX12_go_X12_told rfl rfl rfl (by decide +kernel) ⟨Nat.le_of_ble_eq_true rfl, Nat.le_of_ble_eq_true rfl⟩) rfl hl.1 rfl (Nat.le_of_ble_eq_true rfl) dX12_go_31 ⟨Nat.le_refl _, Nat.le_refl _⟩ (fun H locs hw => ?_)
    obtain ⟨rfl, rfl⟩ := of_ret2 h
    exact M_iret hx hb hr hlocks hK hw.1 hw.2.1 hw.2.2 dX12_go_34 ⟨rfl, rfl⟩
  · have h := of_if h c14
    refine lv_aload_n hx hb dX12_go_17 rfl (lv_at hl 0 rfl) ?_
    refine N_get hx hb hts hin hown hK hw 2 (by decide) rfl (index := 189) (by decide +kernel) rfl dX12_go_18 ?_
    refine lv_topi (fun v18 ev18 => ?_)
    have h := of_bnd h ev18
    refine lv_iload_n hx hb dX12_go_21 rfl (lv_at hl 1 rfl) ?_
    refine lv_iadd hx hb dX12_go_22 ?_
    refine lv_sipush (v := 500) hx hb dX12_go_23 (by decide) ?_
    refine lv_icmp_le (tgt := 35) hx hb dX12_go_26 (by decide) (fun c26 => ?_) (fun c26 => ?_)
    · have h := of_it h c26
      refine lv_aload_n hx hb dX12_go_35 rfl (lv_at hl 0 rfl) ?_
      refine lv_dup hx hb dX12_go_36 rfl ?_
      refine N_get hx hb hts hin hown hK hw 2 (by decide) rfl (index := 189) (by decide +kernel) rfl dX12_go_37 ?_
      refine lv_topi (fun v37 ev37 => ?_)
      have h := of_bnd h ev37
      refine lv_iload_n hx hb dX12_go_40 rfl (lv_at hl 1 rfl) ?_
      refine lv_iadd hx hb dX12_go_41 ?_
      refine N_put hx hb hts hin hown hK hw 2 (by decide) rfl rfl (index := 189) (by decide +kernel) (ty := .int) (by decide +kernel) rfl rfl (pI_2 cI cJ ad S2 _) dX12_go_42 (fun S42 H locs eS42 hw => ?_)
      have h := of_bnd h eS42
      refine lv_iconst (v := 0) hx hb dX12_go_45 (by decide) ?_
      refine lv_topi (fun x46 ex46 => ?_)
      have h := of_bnd h ex46
      refine lv_istore_n (lv' := [(2, .int x46), (0, .ref (ad 0)), (1, .int a1)]) hx hb dX12_go_46 rfl hl (by decide) rfl (fun ls hl => ?_)
      have lp47 : ∀ (k : Nat) (l2 : Int32) (S : MS) (q : MS) , fX12_go_lp47 n k l2 S = some q → ∀ (H : Heap) (locs : List Loc), mWd D cI cJ ad A s.heap S H locs → ∀ ls : Array Slot, lv_has ls 3 [(0, .ref (ad 0)), (2, .int l2)] → (∀  (S1 : MS), S1 = q → ∀ (H : Heap) (locs : List Loc), mWd D cI cJ ad A s.heap S1 H locs → ∀ ls : Array Slot, lv_has ls 3 [(0, .ref (ad 0))] → W p l e (cRm 1 25 0 0) s m args below meth c H locs (0) (0) (MQ below (va_Qi (fun x u => x = r ∧ u = T) (mAft D cI cJ ad A) A) args s 0 0 A) (F0 m 96 ls [])) → W p l e (cRm 1 25 0 0) s m args below meth c H locs (0) (0) (MQ below (va_Qi (fun x u => x = r ∧ u = T) (mAft D cI cJ ad A) A) args s 0 0 A) (F0 m 47 ls []) := by
        intro k
        induction k with
        | zero => intro l2 S q h; rw [fX12_go_lp47] at h; cases h
        | succ k ih47 =>
          intro l2 S q h H locs hw ls hl kx47_0
          rw [fX12_go_lp47] at h
          refine lv_iload_n hx hb dX12_go_47 rfl (lv_at hl 1 rfl) ?_
          refine lv_aload_n hx hb dX12_go_48 rfl (lv_at hl 0 rfl) ?_
          refine N_get hx hb hts hin hown hK hw 4 (by decide) rfl (index := 168) (by decide +kernel) rfl dX12_go_49 ?_
          refine lv_topi (fun v49 ev49 => ?_)
          have h := of_bnd h ev49
          refine lv_icmp_ge (tgt := 96) hx hb dX12_go_52 (by decide) (fun c52 => ?_) (fun c52 => ?_)
          · have h := of_it h c52
            exact kx47_0 S (Option.some.inj h) _ _ hw ls (lv_sub hl [0] rfl)
          · have h := of_if h c52
            refine lv_aload_n hx hb dX12_go_55 rfl (lv_at hl 0 rfl) ?_
            refine N_get hx hb hts hin hown hK hw 7 (by decide) rfl (index := 19) (by decide +kernel) rfl dX12_go_56 ?_
            refine lv_iload_n hx hb dX12_go_59 rfl (lv_at hl 1 rfl) ?_
            obtain ⟨hi60, h⟩ := of_grd h
            refine va_iald hx hb hK hw.1 4 0 rfl rfl hi60 dX12_go_60 ?_
            refine lv_topi (fun v60 ev60 => ?_)
            have h := of_bnd h ev60
            refine lv_aload_n hx hb dX12_go_61 rfl (lv_at hl 0 rfl) ?_
            refine N_get hx hb hts hin hown hK hw 2 (by decide) rfl (index := 189) (by decide +kernel) rfl dX12_go_62 ?_
            refine lv_topi (fun v62 ev62 => ?_)
            have h := of_bnd h ev62
            refine lv_icmp_ge (tgt := 90) hx hb dX12_go_65 (by decide) (fun c65 => ?_) (fun c65 => ?_)
            · have h := of_it h c65
              obtain ⟨x90, ex90⟩ : ∃ y : Int32, y = l2 + 1 := ⟨_, rfl⟩
              have h := of_bnd h ex90
              refine lv_iinc (v := x90) (lv' := [(2, .int x90), (0, .ref (ad 0))]) hx hb dX12_go_90 hl (k := 1) rfl (by rw [ex90]; rfl) (by decide) rfl (fun ls hl => ?_)
              refine lv_goto (tgt := 47) hx hb dX12_go_93 (by decide) ?_
              exact ih47 x90 S _ h _ _ hw ls (lv_sub hl [1, 0] rfl) kx47_0
            · have h := of_if h c65
              refine lv_aload_n hx hb dX12_go_68 rfl (lv_at hl 0 rfl) ?_
              refine N_get hx hb hts hin hown hK hw 12 (by decide) rfl (index := 34) (by decide +kernel) rfl dX12_go_69 ?_
              refine lv_iload_n hx hb dX12_go_72 rfl (lv_at hl 1 rfl) ?_
              refine lv_dup2_11 hx hb dX12_go_73 rfl rfl ?_
              obtain ⟨hi74, h⟩ := of_grd h
              refine va_iald hx hb hK hw.1 9 0 rfl rfl hi74 dX12_go_74 ?_
              refine lv_topi (fun v74 ev74 => ?_)
              have h := of_bnd h ev74
              refine lv_aload_n hx hb dX12_go_75 rfl (lv_at hl 0 rfl) ?_
              refine N_get hx hb hts hin hown hK hw 9 (by decide) rfl (index := 25) (by decide +kernel) rfl dX12_go_76 ?_
              refine lv_iload_n hx hb dX12_go_79 rfl (lv_at hl 1 rfl) ?_
              obtain ⟨hi80, h⟩ := of_grd h
              refine va_iald hx hb hK hw.1 6 0 rfl rfl hi80 dX12_go_80 ?_
              refine lv_topi (fun v80 ev80 => ?_)
              have h := of_bnd h ev80
              refine lv_iadd hx hb dX12_go_81 ?_
              obtain ⟨hi82, h⟩ := of_grd h
              refine N_iast hx hb hK hw 9 rfl hi82 (pA_12 cI cJ ad S _) dX12_go_82 (fun S82 H locs eS82 hw => ?_)
              have h := of_bnd h eS82
              refine lv_aload_n hx hb dX12_go_83 rfl (lv_at hl 0 rfl) ?_
              refine N_get hx hb hts hin hown hK hw 9 (by decide) rfl (index := 25) (by decide +kernel) rfl dX12_go_84 ?_
              refine lv_iload_n hx hb dX12_go_87 rfl (lv_at hl 1 rfl) ?_
              refine lv_iconst (v := 0) hx hb dX12_go_88 (by decide) ?_
              obtain ⟨hi89, h⟩ := of_grd h
              refine N_iast hx hb hK hw 6 rfl hi89 (pA_9 cI cJ ad S82 _) dX12_go_89 (fun S89 H locs eS89 hw => ?_)
              have h := of_bnd h eS89
              obtain ⟨x90, ex90⟩ : ∃ y : Int32, y = l2 + 1 := ⟨_, rfl⟩
              have h := of_bnd h ex90
              refine lv_iinc (v := x90) (lv' := [(2, .int x90), (0, .ref (ad 0))]) hx hb dX12_go_90 hl (k := 1) rfl (by rw [ex90]; rfl) (by decide) rfl (fun ls hl => ?_)
              refine lv_goto (tgt := 47) hx hb dX12_go_93 (by decide) ?_
              exact ih47 x90 S89 _ h _ _ hw ls (lv_sub hl [1, 0] rfl) kx47_0
      obtain ⟨q47, hq47, h⟩ := of_cal h
      refine lp47 n.1 x46 S42 q47  hq47 _ _ hw ls (lv_sub hl [1, 0] rfl) ?_
      · intro S47 eq H locs hw ls hl
        subst eq
        refine lv_aload_n hx hb dX12_go_96 rfl (lv_at hl 0 rfl) ?_
        refine lv_aload_n hx hb dX12_go_97 rfl (lv_at hl 0 rfl) ?_
        refine N_get hx hb hts hin hown hK hw 2 (by decide) rfl (index := 189) (by decide +kernel) rfl dX12_go_98 ?_
        refine lv_topi (fun v98 ev98 => ?_)
        have h := of_bnd h ev98
        obtain ⟨q101, hq101, h⟩ := of_cal h
        obtain ⟨r101, S101⟩ := q101
        have h := of_un2 h
        refine N_calli (av := [.int v98]) (rest := []) ⟨hx, hb, hml, hown, hts⟩ hA hK hw (cX12_told_ok l D cI cJ ad n S47 v98 hq101) (cwV 1 hts gX12_go_X12_told rfl rfl rfl (by decide +kernel) ⟨Nat.le_of_ble_eq_true rfl, Nat.le_of_ble_eq_true rfl⟩) rfl hl.1 rfl (Nat.le_of_ble_eq_true rfl) dX12_go_101 ⟨Nat.le_refl _, Nat.le_refl _⟩ (fun H locs hw => ?_)
        obtain ⟨rfl, rfl⟩ := of_ret2 h
        exact M_iret hx hb hr hlocks hK hw.1 hw.2.1 hw.2.2 dX12_go_104 ⟨rfl, rfl⟩
    · have h := of_if h c26
      refine lv_aload_n hx hb dX12_go_29 rfl (lv_at hl 0 rfl) ?_
      refine lv_iconst (v := -1) hx hb dX12_go_30 (by decide) ?_
      obtain ⟨q31, hq31, h⟩ := of_cal h
      obtain ⟨r31, S31⟩ := q31
      have h := of_un2 h
      refine N_calli (av := [.int (-1 : Int32)]) (rest := []) ⟨hx, hb, hml, hown, hts⟩ hA hK hw (cX12_told_ok l D cI cJ ad n S2 (-1 : Int32) hq31) (cwV 1 hts gX12_go_X12_told rfl rfl rfl (by decide +kernel) ⟨Nat.le_of_ble_eq_true rfl, Nat.le_of_ble_eq_true rfl⟩) rfl hl.1 rfl (Nat.le_of_ble_eq_true rfl) dX12_go_31 ⟨Nat.le_refl _, Nat.le_refl _⟩ (fun H locs hw => ?_)
      obtain ⟨rfl, rfl⟩ := of_ret2 h
      exact M_iret hx hb hr hlocks hK hw.1 hw.2.1 hw.2.2 dX12_go_34 ⟨rfl, rfl⟩

def fX12_want (n : Nat × Nat) (S : MS) (a1 : Int32) (a2 : Int32) (a3 : Int32) : Option (Int32 × MS) :=
  bnd (sI S 0 (0 : Int32)) (fun S2 => bnd (fX12_isKind a2) (fun r6 => if r6 = 0 then 
    cal (fX12_told n S2 (-1 : Int32)) (un2 fun r26 S26 => some (r26, S26))
    else bnd (fX12_in a3.toInt64 (0 : Int64) (1000000 : Int64)) (fun r18 => if r18 = 0 then 
      cal (fX12_told n S2 (-1 : Int32)) (un2 fun r26 S26 => some (r26, S26))
      else cal (fX12_isTable n S2 a1) (fun q32 => if q32 = 0 then 
        cal (fX12_told n S2 (-2 : Int32)) (un2 fun r41 S41 => some (r41, S41))
        else grd (¬ ((((10 : Int32) * a1) + a2) < 0 ∨ 120 ≤ (((10 : Int32) * a1) + a2).toNatClampNeg)) (bnd (mA S2 14 (((10 : Int32) * a1) + a2).toNatClampNeg) (fun v55 => grd (¬ ((((10 : Int32) * a1) + a2) < 0 ∨ 120 ≤ (((10 : Int32) * a1) + a2).toNatClampNeg)) (bnd (sA S2 14 (upd (mA S2 14) (((10 : Int32) * a1) + a2).toNatClampNeg a3)) (fun S69 => cal (fX12_told n S69 v55) (un2 fun r73 S73 => some (r73, S73))))))))))
set_option maxHeartbeats 8000000 in
set_option maxRecDepth 100000 in
theorem cX12_want_ok (l : Launch) (D : va_G) (cI cJ : ClassId) (ad : Nat → Nat) (n : Nat × Nat) (S : MS) (a1 : Int32) (a2 : Int32) (a3 : Int32) {r : Int32} {T : MS} (h : fX12_want n S a1 a2 a3 = some (r, T)) : Mi l yX12_want wsX12_want (cRm 2 46 0 0) D cI cJ ad [.int a1, .int a2, .int a3] S (fun r1 u => r1 = r ∧ u = T) := by
  refine Mi_of (cc := cX12_want) (nL := 5) (ret := (some .int)) (by decide) rfl rfl (Nat.le_of_ble_eq_true rfl) ?_
  intro p e s m args below meth c A hx hb hr hlocks hml hts hown hA hK hP hD hS ls hl
  have hw : mWd D cI cJ ad A s.heap S s.heap [] := ⟨hP, hD, hS⟩
  unfold fX12_want at h
  have hin : ∀ w ∈ wsX120, w ∈ wsX12_want := fun w h => List.mem_cons_of_mem _ (List.mem_append_right _ h)
  have hl : lv_has ls 5 [(0, .ref (ad 0)), (1, .int a1), (2, .int a2), (3, .int a3)] := hl
  refine lv_aload_n hx hb dX12_want_0 rfl (lv_at hl 0 rfl) ?_
  refine lv_iconst (v := 0) hx hb dX12_want_1 (by decide) ?_
  refine N_put hx hb hts hin hown hK hw 0 (by decide) rfl rfl (index := 156) (by decide +kernel) (ty := .int) (by decide +kernel) rfl rfl (pI_0 cI cJ ad S _) dX12_want_2 (fun S2 H locs eS2 hw => ?_)
  have h := of_bnd h eS2
  refine lv_iload_n hx hb dX12_want_5 rfl (lv_at hl 2 rfl) ?_
  refine C_s (va_runS (As := [.int a2]) (rest := []) ⟨hx, hb, hml, hown, hts⟩ (cX12_isKind_ok l a2) (va_cwS 1 hts gX12_want_X12_isKind rfl rfl rfl (by decide +kernel) ⟨Nat.le_of_ble_eq_true rfl, Nat.le_of_ble_eq_true rfl⟩) ⟨fun a U g mk q => ⟨q.1, trivial⟩, fun U hU hW => ⟨rfl, trivial⟩⟩ rfl rfl hl.1 rfl (lv_room (Nat.le_of_ble_eq_true rfl)) dX12_want_6 ⟨Nat.le_refl _, Nat.le_refl _⟩) (fun r6 er6 => ?_)
  have h := of_bnd h er6
  refine lv_if_eq (tgt := 24) hx hb dX12_want_9 (by decide) (fun c9 => ?_) (fun c9 => ?_)
  · have h := of_it h c9
    refine lv_aload_n hx hb dX12_want_24 rfl (lv_at hl 0 rfl) ?_
    refine lv_iconst (v := -1) hx hb dX12_want_25 (by decide) ?_
    obtain ⟨q26, hq26, h⟩ := of_cal h
    obtain ⟨r26, S26⟩ := q26
    have h := of_un2 h
    refine N_calli (av := [.int (-1 : Int32)]) (rest := []) ⟨hx, hb, hml, hown, hts⟩ hA hK hw (cX12_told_ok l D cI cJ ad n S2 (-1 : Int32) hq26) (cwV 1 hts gX12_want_X12_told rfl rfl rfl (by decide +kernel) ⟨Nat.le_of_ble_eq_true rfl, Nat.le_of_ble_eq_true rfl⟩) rfl hl.1 rfl (Nat.le_of_ble_eq_true rfl) dX12_want_26 ⟨Nat.le_refl _, Nat.le_refl _⟩ (fun H locs hw => ?_)
    obtain ⟨rfl, rfl⟩ := of_ret2 h
    exact M_iret hx hb hr hlocks hK hw.1 hw.2.1 hw.2.2 dX12_want_29 ⟨rfl, rfl⟩
  · have h := of_if h c9
    refine lv_iload_n hx hb dX12_want_12 rfl (lv_at hl 3 rfl) ?_
    refine lv_i2l hx hb dX12_want_13 rfl ?_
    refine lv_lconst (v := 0) hx hb dX12_want_14 (by decide) ?_
    refine lv_ldc2 (v := 1000000) hx hb hown (hts (.constantLong RX12 187 (1000000)) (by decide +kernel)) dX12_want_15 ?_
    refine C_s (va_runS (As := [.long a3.toInt64, .long (0 : Int64), .long (1000000 : Int64)]) (rest := []) ⟨hx, hb, hml, hown, hts⟩ (cX12_in_ok l a3.toInt64 (0 : Int64) (1000000 : Int64)) (va_cwS 3 hts gX12_want_X12_in rfl rfl rfl (by decide +kernel) ⟨Nat.le_of_ble_eq_true rfl, Nat.le_of_ble_eq_true rfl⟩) ⟨fun a U g mk q => ⟨q.1, trivial⟩, fun U hU hW => ⟨rfl, trivial⟩⟩ rfl rfl hl.1 rfl (lv_room (Nat.le_of_ble_eq_true rfl)) dX12_want_18 ⟨Nat.le_refl _, Nat.le_refl _⟩) (fun r18 er18 => ?_)
    have h := of_bnd h er18
    refine lv_if_ne (tgt := 30) hx hb dX12_want_21 (by decide) (fun c21 => ?_) (fun c21 => ?_)
    · have h := of_if h c21
      refine lv_aload_n hx hb dX12_want_30 rfl (lv_at hl 0 rfl) ?_
      refine lv_iload_n hx hb dX12_want_31 rfl (lv_at hl 1 rfl) ?_
      obtain ⟨q32, hq32, h⟩ := of_cal h
      refine N_calli (av := [.int a1]) (rest := []) ⟨hx, hb, hml, hown, hts⟩ hA hK hw (cX12_isTable_ok l D cI cJ ad n S2 a1 hq32) (cwV 1 hts gX12_want_X12_isTable rfl rfl rfl (by decide +kernel) ⟨Nat.le_of_ble_eq_true rfl, Nat.le_of_ble_eq_true rfl⟩) rfl hl.1 rfl (Nat.le_of_ble_eq_true rfl) dX12_want_32 ⟨Nat.le_refl _, Nat.le_refl _⟩ (fun H locs hw => ?_)
      refine lv_if_ne (tgt := 45) hx hb dX12_want_35 (by decide) (fun c35 => ?_) (fun c35 => ?_)
      · have h := of_if h c35
        refine lv_aload_n hx hb dX12_want_45 rfl (lv_at hl 0 rfl) ?_
        refine N_get hx hb hts hin hown hK hw 14 (by decide) rfl (index := 37) (by decide +kernel) rfl dX12_want_46 ?_
        refine lv_bipush (v := 10) hx hb dX12_want_49 (by decide) ?_
        refine lv_iload_n hx hb dX12_want_51 rfl (lv_at hl 1 rfl) ?_
        refine lv_imul hx hb dX12_want_52 ?_
        refine lv_iload_n hx hb dX12_want_53 rfl (lv_at hl 2 rfl) ?_
        refine lv_iadd hx hb dX12_want_54 ?_
        obtain ⟨hi55, h⟩ := of_grd h
        refine va_iald hx hb hK hw.1 10 0 rfl rfl hi55 dX12_want_55 ?_
        refine lv_topi (fun v55 ev55 => ?_)
        have h := of_bnd h ev55
        refine lv_istore (lv' := [(4, .int v55), (0, .ref (ad 0)), (1, .int a1), (2, .int a2), (3, .int a3)]) hx hb dX12_want_56 hl (by decide) rfl (fun ls hl => ?_)
        refine lv_aload_n hx hb dX12_want_58 rfl (lv_at hl 1 rfl) ?_
        refine N_get hx hb hts hin hown hK hw 14 (by decide) rfl (index := 37) (by decide +kernel) rfl dX12_want_59 ?_
        refine lv_bipush (v := 10) hx hb dX12_want_62 (by decide) ?_
        refine lv_iload_n hx hb dX12_want_64 rfl (lv_at hl 2 rfl) ?_
        refine lv_imul hx hb dX12_want_65 ?_
        refine lv_iload_n hx hb dX12_want_66 rfl (lv_at hl 3 rfl) ?_
        refine lv_iadd hx hb dX12_want_67 ?_
        refine lv_iload_n hx hb dX12_want_68 rfl (lv_at hl 4 rfl) ?_
        obtain ⟨hi69, h⟩ := of_grd h
        refine N_iast hx hb hK hw 10 rfl hi69 (pA_14 cI cJ ad S2 _) dX12_want_69 (fun S69 H locs eS69 hw => ?_)
        have h := of_bnd h eS69
        refine lv_aload_n hx hb dX12_want_70 rfl (lv_at hl 1 rfl) ?_
        refine lv_iload hx hb dX12_want_71 (lv_at hl 0 rfl) ?_
        obtain ⟨q73, hq73, h⟩ := of_cal h
        obtain ⟨r73, S73⟩ := q73
        have h := of_un2 h
        refine N_calli (av := [.int v55]) (rest := []) ⟨hx, hb, hml, hown, hts⟩ hA hK hw (cX12_told_ok l D cI cJ ad n S69 v55 hq73) (cwV 1 hts gX12_want_X12_told rfl rfl rfl (by decide +kernel) ⟨Nat.le_of_ble_eq_true rfl, Nat.le_of_ble_eq_true rfl⟩) rfl hl.1 rfl (Nat.le_of_ble_eq_true rfl) dX12_want_73 ⟨Nat.le_refl _, Nat.le_refl _⟩ (fun H locs hw => ?_)
        obtain ⟨rfl, rfl⟩ := of_ret2 h
        exact M_iret hx hb hr hlocks hK hw.1 hw.2.1 hw.2.2 dX12_want_76 ⟨rfl, rfl⟩
      · have h := of_it h c35
        refine lv_aload_n hx hb dX12_want_38 rfl (lv_at hl 0 rfl) ?_
        refine lv_bipush (v := -2) hx hb dX12_want_39 (by decide) ?_
        obtain ⟨q41, hq41, h⟩ := of_cal h
        obtain ⟨r41, S41⟩ := q41
        have h := of_un2 h
        refine N_calli (av := [.int (-2 : Int32)]) (rest := []) ⟨hx, hb, hml, hown, hts⟩ hA hK hw (cX12_told_ok l D cI cJ ad n S2 (-2 : Int32) hq41) (cwV 1 hts gX12_want_X12_told rfl rfl rfl (by decide +kernel) ⟨Nat.le_of_ble_eq_true rfl, Nat.le_of_ble_eq_true rfl⟩) rfl hl.1 rfl (Nat.le_of_ble_eq_true rfl) dX12_want_41 ⟨Nat.le_refl _, Nat.le_refl _⟩ (fun H locs hw => ?_)
        obtain ⟨rfl, rfl⟩ := of_ret2 h
        exact M_iret hx hb hr hlocks hK hw.1 hw.2.1 hw.2.2 dX12_want_44 ⟨rfl, rfl⟩
    · have h := of_it h c21
      refine lv_aload_n hx hb dX12_want_24 rfl (lv_at hl 0 rfl) ?_
      refine lv_iconst (v := -1) hx hb dX12_want_25 (by decide) ?_
      obtain ⟨q26, hq26, h⟩ := of_cal h
      obtain ⟨r26, S26⟩ := q26
      have h := of_un2 h
      refine N_calli (av := [.int (-1 : Int32)]) (rest := []) ⟨hx, hb, hml, hown, hts⟩ hA hK hw (cX12_told_ok l D cI cJ ad n S2 (-1 : Int32) hq26) (cwV 1 hts gX12_want_X12_told rfl rfl rfl (by decide +kernel) ⟨Nat.le_of_ble_eq_true rfl, Nat.le_of_ble_eq_true rfl⟩) rfl hl.1 rfl (Nat.le_of_ble_eq_true rfl) dX12_want_26 ⟨Nat.le_refl _, Nat.le_refl _⟩ (fun H locs hw => ?_)
      obtain ⟨rfl, rfl⟩ := of_ret2 h
      exact M_iret hx hb hr hlocks hK hw.1 hw.2.1 hw.2.2 dX12_want_29 ⟨rfl, rfl⟩

def fX12_upTo_lp6 (n : Nat × Nat) (S : MS) (f1 : Int32) (f2 : Int64) : Nat → Int64 → Int32 → Option (Int64)
  | 0, _, _ => none
  | k + 1, l4, l6 =>
    bnd (mI S 13) (fun v9 => if v9 ≤ l6 then 
        some l4
        else grd (¬ ((((10 : Int32) * l6) + f1) < 0 ∨ 120 ≤ (((10 : Int32) * l6) + f1).toNatClampNeg)) (bnd (mA S 14 (((10 : Int32) * l6) + f1).toNatClampNeg) (fun v26 => if 0 ≤ (lg_cmp v26.toInt64 f2) then 
          bnd (l4 + f2) (fun x47 => bnd (l6 + 1) (fun x49 => fX12_upTo_lp6 n S f1 f2 k x47 x49 ))
          else bnd (l4 + v26.toInt64) (fun x47 => bnd (l6 + 1) (fun x49 => fX12_upTo_lp6 n S f1 f2 k x47 x49 )))))
def fX12_upTo (n : Nat × Nat) (S : MS) (a1 : Int32) (a2 : Int64) : Option Int64 :=
  bnd (0 : Int64) (fun x1 => bnd (0 : Int32) (fun x4 => cal (fX12_upTo_lp6 n S a1 a2 n.1 x1 x4 ) (fun t4_6 => some t4_6)))
set_option maxHeartbeats 8000000 in
set_option maxRecDepth 100000 in
theorem cX12_upTo_ok (l : Launch) (D : va_G) (cI cJ : ClassId) (ad : Nat → Nat) (n : Nat × Nat) (S : MS) (a1 : Int32) (a2 : Int64) {r : Int64} (h : fX12_upTo n S a1 a2 = some r) : Ml l yX12_upTo wsX12_upTo (cRm 0 0 0 0) D cI cJ ad [.int a1, .long a2] S (fun r1 u => r1 = r ∧ u = S) := by
  refine Ml_of (cc := cX12_upTo) (nL := 8) (ret := (some .long)) (by decide) rfl rfl (Nat.le_of_ble_eq_true rfl) ?_
  intro p e s m args below meth c A hx hb hr hlocks hml hts hown hA hK hP hD hS ls hl
  have hw : mWd D cI cJ ad A s.heap S s.heap [] := ⟨hP, hD, hS⟩
  unfold fX12_upTo at h
  have hin : ∀ w ∈ wsX120, w ∈ wsX12_upTo := fun w h => List.mem_cons_of_mem _ (List.mem_append_right _ h)
  have hl : lv_has ls 8 [(0, .ref (ad 0)), (1, .int a1), (2, .long a2)] := hl
  refine lv_lconst (v := 0) hx hb dX12_upTo_0 (by decide) ?_
  refine lv_topl (fun x1 ex1 => ?_)
  have h := of_bnd h ex1
  refine lv_lstore (lv' := [(4, .long x1), (0, .ref (ad 0)), (1, .int a1), (2, .long a2)]) hx hb dX12_upTo_1 hl (by decide) rfl (fun ls hl => ?_)
  refine lv_iconst (v := 0) hx hb dX12_upTo_3 (by decide) ?_
  refine lv_topi (fun x4 ex4 => ?_)
  have h := of_bnd h ex4
  refine lv_istore (lv' := [(6, .int x4), (4, .long x1), (0, .ref (ad 0)), (1, .int a1), (2, .long a2)]) hx hb dX12_upTo_4 hl (by decide) rfl (fun ls hl => ?_)
  have lp6 : ∀ (f1 : Int32) (f2 : Int64) (S : MS) (k : Nat) (l4 : Int64) (l6 : Int32) (q : Int64) , fX12_upTo_lp6 n S f1 f2 k l4 l6  = some q → ∀ (H : Heap) (locs : List Loc), mWd D cI cJ ad A s.heap S H locs → ∀ ls : Array Slot, lv_has ls 8 [(0, .ref (ad 0)), (1, .int f1), (2, .long f2), (4, .long l4), (6, .int l6)] → (∀ (t4 : Int64), t4 = q → ∀ (H : Heap) (locs : List Loc), mWd D cI cJ ad A s.heap S H locs → ∀ ls : Array Slot, lv_has ls 8 [(4, .long t4)] → W p l e (cRm 0 0 0 0) s m args below meth c H locs (0) (0) (MQ below (va_Ql (fun x u => x = r ∧ u = S) (mAft D cI cJ ad A) A) args s 0 0 A) (F0 m 55 ls [])) → W p l e (cRm 0 0 0 0) s m args below meth c H locs (0) (0) (MQ below (va_Ql (fun x u => x = r ∧ u = S) (mAft D cI cJ ad A) A) args s 0 0 A) (F0 m 6 ls []) := by
    intro f1 f2 S k
    induction k with
    | zero => intro l4 l6 q h; rw [fX12_upTo_lp6] at h; cases h
    | succ k ih6 =>
      intro l4 l6 q h H locs hw ls hl kx6_0
      rw [fX12_upTo_lp6] at h
      refine lv_iload hx hb dX12_upTo_6 (lv_at hl 4 rfl) ?_
      refine lv_aload_n hx hb dX12_upTo_8 rfl (lv_at hl 0 rfl) ?_
      refine N_get hx hb hts hin hown hK hw 13 (by decide) rfl (index := 171) (by decide +kernel) rfl dX12_upTo_9 ?_
      refine lv_topi (fun v9 ev9 => ?_)
      have h := of_bnd h ev9
      refine lv_icmp_ge (tgt := 55) hx hb dX12_upTo_12 (by decide) (fun c12 => ?_) (fun c12 => ?_)
      · have h := of_it h c12
        exact kx6_0 l4 (Option.some.inj h) _ _ hw ls (lv_sub hl [3] rfl)
      · have h := of_if h c12
        refine lv_aload_n hx hb dX12_upTo_15 rfl (lv_at hl 0 rfl) ?_
        refine N_get hx hb hts hin hown hK hw 14 (by decide) rfl (index := 37) (by decide +kernel) rfl dX12_upTo_16 ?_
        refine lv_bipush (v := 10) hx hb dX12_upTo_19 (by decide) ?_
        refine lv_iload hx hb dX12_upTo_21 (lv_at hl 4 rfl) ?_
        refine lv_imul hx hb dX12_upTo_23 ?_
        refine lv_iload_n hx hb dX12_upTo_24 rfl (lv_at hl 1 rfl) ?_
        refine lv_iadd hx hb dX12_upTo_25 ?_
        obtain ⟨hi26, h⟩ := of_grd h
        refine va_iald hx hb hK hw.1 10 0 rfl rfl hi26 dX12_upTo_26 ?_
        refine lv_topi (fun v26 ev26 => ?_)
        have h := of_bnd h ev26
        refine lv_istore (lv' := [(7, .int v26), (0, .ref (ad 0)), (1, .int f1), (2, .long f2), (4, .long l4), (6, .int l6)]) hx hb dX12_upTo_27 hl (by decide) rfl (fun ls hl => ?_)
        refine lv_lload hx hb dX12_upTo_29 (lv_at hl 4 rfl) ?_
        refine lv_iload hx hb dX12_upTo_31 (lv_at hl 0 rfl) ?_
        refine lv_i2l hx hb dX12_upTo_33 rfl ?_
        refine lv_lload_n hx hb dX12_upTo_34 rfl (lv_at hl 3 rfl) ?_
        refine W.lcmp hx hb dX12_upTo_35 ?_
        refine lv_if_ge (tgt := 45) hx hb dX12_upTo_36 (by decide) (fun c36 => ?_) (fun c36 => ?_)
        · have h := of_it h c36
          refine lv_lload_n hx hb dX12_upTo_45 rfl (lv_at hl 3 rfl) ?_
          refine lv_ladd hx hb dX12_upTo_46 ?_
          refine lv_topl (fun x47 ex47 => ?_)
          have h := of_bnd h ex47
          refine lv_lstore (lv' := [(4, .long x47), (7, .int v26), (0, .ref (ad 0)), (1, .int f1), (2, .long f2), (6, .int l6)]) hx hb dX12_upTo_47 hl (by decide) rfl (fun ls hl => ?_)
          obtain ⟨x49, ex49⟩ : ∃ y : Int32, y = l6 + 1 := ⟨_, rfl⟩
          have h := of_bnd h ex49
          refine lv_iinc (v := x49) (lv' := [(6, .int x49), (4, .long x47), (7, .int v26), (0, .ref (ad 0)), (1, .int f1), (2, .long f2)]) hx hb dX12_upTo_49 hl (k := 5) rfl (by rw [ex49]; rfl) (by decide) rfl (fun ls hl => ?_)
          refine lv_goto (tgt := 6) hx hb dX12_upTo_52 (by decide) ?_
          exact ih6 x47 x49 _ h _ _ hw ls (lv_sub hl [3, 4, 5, 1, 0] rfl) kx6_0
        · have h := of_if h c36
          refine lv_iload hx hb dX12_upTo_39 (lv_at hl 0 rfl) ?_
          refine lv_i2l hx hb dX12_upTo_41 rfl ?_
          refine lv_goto (tgt := 46) hx hb dX12_upTo_42 (by decide) ?_
          refine lv_ladd hx hb dX12_upTo_46 ?_
          refine lv_topl (fun x47 ex47 => ?_)
          have h := of_bnd h ex47
          refine lv_lstore (lv' := [(4, .long x47), (7, .int v26), (0, .ref (ad 0)), (1, .int f1), (2, .long f2), (6, .int l6)]) hx hb dX12_upTo_47 hl (by decide) rfl (fun ls hl => ?_)
          obtain ⟨x49, ex49⟩ : ∃ y : Int32, y = l6 + 1 := ⟨_, rfl⟩
          have h := of_bnd h ex49
          refine lv_iinc (v := x49) (lv' := [(6, .int x49), (4, .long x47), (7, .int v26), (0, .ref (ad 0)), (1, .int f1), (2, .long f2)]) hx hb dX12_upTo_49 hl (k := 5) rfl (by rw [ex49]; rfl) (by decide) rfl (fun ls hl => ?_)
          refine lv_goto (tgt := 6) hx hb dX12_upTo_52 (by decide) ?_
          exact ih6 x47 x49 _ h _ _ hw ls (lv_sub hl [3, 4, 5, 1, 0] rfl) kx6_0
  obtain ⟨q6, hq6, h⟩ := of_cal h
  refine lp6 a1 a2 S n.1 x1 x4 q6  hq6 _ _ hw ls (lv_sub hl [2, 3, 4, 1, 0] rfl) ?_
  · intro t4_6 eq H locs hw ls hl
    subst eq
    refine lv_lload hx hb dX12_upTo_55 (lv_at hl 0 rfl) ?_
    obtain rfl := Option.some.inj h
    exact M_lret hx hb hr hlocks hK hw.1 hw.2.1 hw.2.2 dX12_upTo_57 ⟨rfl, rfl⟩

def fX12_give_lp3 (n : Nat × Nat) (f2 : Int32) : Nat → Int32 → MS → Option (MS)
  | 0, _, _ => none
  | k + 1, l4, S =>
    if l4 ≤ 0 then 
        some S
        else cal (fX12_nextOf n S f2) (fun q10 => grd (¬ (q10 < 0 ∨ 200 ≤ q10.toNatClampNeg)) (bnd (mA S 9 q10.toNatClampNeg) (fun v21 => bnd (fun (z0_39 : Int32) (S : MS) => grd (¬ (q10 < 0 ∨ 200 ≤ q10.toNatClampNeg)) (bnd (mA S 9 q10.toNatClampNeg) (fun v48 => grd (¬ (q10 < 0 ∨ 200 ≤ q10.toNatClampNeg)) (bnd (sA S 9 (upd (mA S 9) q10.toNatClampNeg (v48 - z0_39))) (fun S52 => grd (¬ (q10 < 0 ∨ 200 ≤ q10.toNatClampNeg)) (bnd (mA S52 11 q10.toNatClampNeg) (fun v60 => grd (¬ (q10 < 0 ∨ 200 ≤ q10.toNatClampNeg)) (bnd (sA S52 11 (upd (mA S52 11) q10.toNatClampNeg (v60 + z0_39))) (fun S64 => bnd (l4 - z0_39) (fun x70 => fX12_give_lp3 n f2 k x70 S64)))))))))) (fun j39 => if l4 ≤ v21 then 
          j39 l4 S
          else grd (¬ (q10 < 0 ∨ 200 ≤ q10.toNatClampNeg)) (bnd (mA S 9 q10.toNatClampNeg) (fun v33 => j39 v33 S))))))
def fX12_give (n : Nat × Nat) (S : MS) (a1 : Int32) (a2 : Int32) (a3 : Int32) : Option (MS) :=
  cal (fX12_give_lp3 n a2 n.1 a3 S) (fun S3 => grd (¬ ((((10 : Int32) * a1) + a2) < 0 ∨ 120 ≤ (((10 : Int32) * a1) + a2).toNatClampNeg)) (bnd (mA S3 14 (((10 : Int32) * a1) + a2).toNatClampNeg) (fun v86 => grd (¬ ((((10 : Int32) * a1) + a2) < 0 ∨ 120 ≤ (((10 : Int32) * a1) + a2).toNatClampNeg)) (bnd (sA S3 14 (upd (mA S3 14) (((10 : Int32) * a1) + a2).toNatClampNeg (v86 - a3))) (fun S89 => grd (¬ ((((10 : Int32) * a1) + a2) < 0 ∨ 120 ≤ (((10 : Int32) * a1) + a2).toNatClampNeg)) (bnd (mB S89 15 (((10 : Int32) * a1) + a2).toNatClampNeg) (fun v101 => grd (¬ ((((10 : Int32) * a1) + a2) < 0 ∨ 120 ≤ (((10 : Int32) * a1) + a2).toNatClampNeg)) (bnd (sB S89 15 (vp_updL (mB S89 15) (((10 : Int32) * a1) + a2).toNatClampNeg (v101 + a3.toInt64))) (fun S105 => some S105)))))))))
set_option maxHeartbeats 8000000 in
set_option maxRecDepth 100000 in
theorem cX12_give_ok (l : Launch) (D : va_G) (cI cJ : ClassId) (ad : Nat → Nat) (n : Nat × Nat) (S : MS) (a1 : Int32) (a2 : Int32) (a3 : Int32) {T : MS} (h : fX12_give n S a1 a2 a3 = some T) : Mv l yX12_give wsX12_give (cRm 2 47 0 0) D cI cJ ad [.int a1, .int a2, .int a3] S (fun u => u = T) := by
  refine Mv_of (cc := cX12_give) (nL := 7) (ret := none) (by decide) rfl rfl (Nat.le_of_ble_eq_true rfl) ?_
  intro p e s m args below meth c A hx hb hr hlocks hml hts hown hA hK hP hD hS ls hl
  have hw : mWd D cI cJ ad A s.heap S s.heap [] := ⟨hP, hD, hS⟩
  unfold fX12_give at h
  have hin : ∀ w ∈ wsX120, w ∈ wsX12_give := fun w h => List.mem_cons_of_mem _ (List.mem_append_right _ h)
  have hl : lv_has ls 7 [(0, .ref (ad 0)), (1, .int a1), (2, .int a2), (3, .int a3)] := hl
  refine lv_iload_n hx hb dX12_give_0 rfl (lv_at hl 3 rfl) ?_
  refine lv_istore (lv' := [(4, .int a3), (0, .ref (ad 0)), (1, .int a1), (2, .int a2), (3, .int a3)]) hx hb dX12_give_1 hl (by decide) rfl (fun ls hl => ?_)
  have lp3 : ∀ (f1 : Int32) (f2 : Int32) (f3 : Int32) (k : Nat) (l4 : Int32) (S : MS) (q : MS) , fX12_give_lp3 n f2 k l4 S = some q → ∀ (H : Heap) (locs : List Loc), mWd D cI cJ ad A s.heap S H locs → ∀ ls : Array Slot, lv_has ls 7 [(0, .ref (ad 0)), (1, .int f1), (2, .int f2), (3, .int f3), (4, .int l4)] → (∀  (S1 : MS), S1 = q → ∀ (H : Heap) (locs : List Loc), mWd D cI cJ ad A s.heap S1 H locs → ∀ ls : Array Slot, lv_has ls 7 [(0, .ref (ad 0)), (1, .int f1), (2, .int f2), (3, .int f3)] → W p l e (cRm 2 47 0 0) s m args below meth c H locs (0) (0) (MQ below (va_Qv (fun u => u = T) (mAft D cI cJ ad A) A) args s 0 0 A) (F0 m 75 ls [])) → W p l e (cRm 2 47 0 0) s m args below meth c H locs (0) (0) (MQ below (va_Qv (fun u => u = T) (mAft D cI cJ ad A) A) args s 0 0 A) (F0 m 3 ls []) := by
    intro f1 f2 f3 k
    induction k with
    | zero => intro l4 S q h; rw [fX12_give_lp3] at h; cases h
    | succ k ih3 =>
      intro l4 S q h H locs hw ls hl kx3_0
      rw [fX12_give_lp3] at h
      refine lv_iload hx hb dX12_give_3 (lv_at hl 4 rfl) ?_
      refine lv_if_le (tgt := 75) hx hb dX12_give_5 (by decide) (fun c5 => ?_) (fun c5 => ?_)
      · have h := of_it h c5
        exact kx3_0 S (Option.some.inj h) _ _ hw ls (lv_sub hl [0, 1, 2, 3] rfl)
      · have h := of_if h c5
        refine lv_aload_n hx hb dX12_give_8 rfl (lv_at hl 0 rfl) ?_
        refine lv_iload_n hx hb dX12_give_9 rfl (lv_at hl 2 rfl) ?_
        obtain ⟨q10, hq10, h⟩ := of_cal h
        refine N_calli (av := [.int f2]) (rest := []) ⟨hx, hb, hml, hown, hts⟩ hA hK hw (cX12_nextOf_ok l D cI cJ ad n S f2 hq10) (cwV 1 hts gX12_give_X12_nextOf rfl rfl rfl (by decide +kernel) ⟨Nat.le_of_ble_eq_true rfl, Nat.le_of_ble_eq_true rfl⟩) rfl hl.1 rfl (Nat.le_of_ble_eq_true rfl) dX12_give_10 ⟨Nat.le_refl _, Nat.le_refl _⟩ (fun H locs hw => ?_)
        refine lv_istore (lv' := [(5, .int q10), (0, .ref (ad 0)), (1, .int f1), (2, .int f2), (3, .int f3), (4, .int l4)]) hx hb dX12_give_13 hl (by decide) rfl (fun ls hl => ?_)
        refine lv_aload_n hx hb dX12_give_15 rfl (lv_at hl 1 rfl) ?_
        refine N_get hx hb hts hin hown hK hw 9 (by decide) rfl (index := 25) (by decide +kernel) rfl dX12_give_16 ?_
        refine lv_iload hx hb dX12_give_19 (lv_at hl 0 rfl) ?_
        obtain ⟨hi21, h⟩ := of_grd h
        refine va_iald hx hb hK hw.1 6 0 rfl rfl hi21 dX12_give_21 ?_
        refine lv_topi (fun v21 ev21 => ?_)
        have h := of_bnd h ev21
        refine lv_iload hx hb dX12_give_22 (lv_at hl 5 rfl) ?_
        obtain ⟨j39, ej39, h⟩ := of_bndE h
        have hj39 : ∀ (z0_39 : Int32) (S : MS), j39 z0_39 S = some q → ∀ (H : Heap) (locs : List Loc), mWd D cI cJ ad A s.heap S H locs → ∀ ls : Array Slot, lv_has ls 7 [(0, .ref (ad 0)), (1, .int f1), (2, .int f2), (3, .int f3), (4, .int l4), (5, .int q10)] → W p l e (cRm 2 47 0 0) s m args below meth c H locs (0) (0) (MQ below (va_Qv (fun u => u = T) (mAft D cI cJ ad A) A) args s 0 0 A) (F0 m 39 ls [.int z0_39]) := by
          intro z0_39 S h H locs hw ls hl
          rw [ej39] at h
          dsimp only at h
          refine lv_istore (lv' := [(6, .int z0_39), (0, .ref (ad 0)), (1, .int f1), (2, .int f2), (3, .int f3), (4, .int l4), (5, .int q10)]) hx hb dX12_give_39 hl (by decide) rfl (fun ls hl => ?_)
          refine lv_aload_n hx hb dX12_give_41 rfl (lv_at hl 1 rfl) ?_
          refine N_get hx hb hts hin hown hK hw 9 (by decide) rfl (index := 25) (by decide +kernel) rfl dX12_give_42 ?_
          refine lv_iload hx hb dX12_give_45 (lv_at hl 6 rfl) ?_
          refine lv_dup2_11 hx hb dX12_give_47 rfl rfl ?_
          obtain ⟨hi48, h⟩ := of_grd h
          refine va_iald hx hb hK hw.1 6 0 rfl rfl hi48 dX12_give_48 ?_
          refine lv_topi (fun v48 ev48 => ?_)
          have h := of_bnd h ev48
          refine lv_iload hx hb dX12_give_49 (lv_at hl 0 rfl) ?_
          refine lv_isub hx hb dX12_give_51 ?_
          obtain ⟨hi52, h⟩ := of_grd h
          refine N_iast hx hb hK hw 6 rfl hi52 (pA_9 cI cJ ad S _) dX12_give_52 (fun S52 H locs eS52 hw => ?_)
          have h := of_bnd h eS52
          refine lv_aload_n hx hb dX12_give_53 rfl (lv_at hl 1 rfl) ?_
          refine N_get hx hb hts hin hown hK hw 11 (by decide) rfl (index := 31) (by decide +kernel) rfl dX12_give_54 ?_
          refine lv_iload hx hb dX12_give_57 (lv_at hl 6 rfl) ?_
          refine lv_dup2_11 hx hb dX12_give_59 rfl rfl ?_
          obtain ⟨hi60, h⟩ := of_grd h
          refine va_iald hx hb hK hw.1 8 0 rfl rfl hi60 dX12_give_60 ?_
          refine lv_topi (fun v60 ev60 => ?_)
          have h := of_bnd h ev60
          refine lv_iload hx hb dX12_give_61 (lv_at hl 0 rfl) ?_
          refine lv_iadd hx hb dX12_give_63 ?_
          obtain ⟨hi64, h⟩ := of_grd h
          refine N_iast hx hb hK hw 8 rfl hi64 (pA_11 cI cJ ad S52 _) dX12_give_64 (fun S64 H locs eS64 hw => ?_)
          have h := of_bnd h eS64
          refine lv_iload hx hb dX12_give_65 (lv_at hl 5 rfl) ?_
          refine lv_iload hx hb dX12_give_67 (lv_at hl 0 rfl) ?_
          refine lv_isub hx hb dX12_give_69 ?_
          refine lv_topi (fun x70 ex70 => ?_)
          have h := of_bnd h ex70
          refine lv_istore (lv' := [(4, .int x70), (6, .int z0_39), (0, .ref (ad 0)), (1, .int f1), (2, .int f2), (3, .int f3), (5, .int q10)]) hx hb dX12_give_70 hl (by decide) rfl (fun ls hl => ?_)
          refine lv_goto (tgt := 3) hx hb dX12_give_72 (by decide) ?_
          exact ih3 x70 S64 _ h _ _ hw ls (lv_sub hl [2, 3, 4, 5, 0] rfl) kx3_0
        refine lv_icmp_ge (tgt := 37) hx hb dX12_give_24 (by decide) (fun c24 => ?_) (fun c24 => ?_)
        · have h := of_it h c24
          refine lv_iload hx hb dX12_give_37 (lv_at hl 5 rfl) ?_
          exact hj39 l4 S h _ _ hw ls (lv_sub hl [1, 2, 3, 4, 5, 0] rfl)
        · have h := of_if h c24
          refine lv_aload_n hx hb dX12_give_27 rfl (lv_at hl 1 rfl) ?_
          refine N_get hx hb hts hin hown hK hw 9 (by decide) rfl (index := 25) (by decide +kernel) rfl dX12_give_28 ?_
          refine lv_iload hx hb dX12_give_31 (lv_at hl 0 rfl) ?_
          obtain ⟨hi33, h⟩ := of_grd h
          refine va_iald hx hb hK hw.1 6 0 rfl rfl hi33 dX12_give_33 ?_
          refine lv_topi (fun v33 ev33 => ?_)
          have h := of_bnd h ev33
          refine lv_goto (tgt := 39) hx hb dX12_give_34 (by decide) ?_
          exact hj39 v33 S h _ _ hw ls (lv_sub hl [1, 2, 3, 4, 5, 0] rfl)
  obtain ⟨q3, hq3, h⟩ := of_cal h
  refine lp3 a1 a2 a3 n.1 a3 S q3  hq3 _ _ hw ls (lv_sub hl [1, 2, 3, 4, 0] rfl) ?_
  · intro S3 eq H locs hw ls hl
    subst eq
    refine lv_aload_n hx hb dX12_give_75 rfl (lv_at hl 0 rfl) ?_
    refine N_get hx hb hts hin hown hK hw 14 (by decide) rfl (index := 37) (by decide +kernel) rfl dX12_give_76 ?_
    refine lv_bipush (v := 10) hx hb dX12_give_79 (by decide) ?_
    refine lv_iload_n hx hb dX12_give_81 rfl (lv_at hl 1 rfl) ?_
    refine lv_imul hx hb dX12_give_82 ?_
    refine lv_iload_n hx hb dX12_give_83 rfl (lv_at hl 2 rfl) ?_
    refine lv_iadd hx hb dX12_give_84 ?_
    refine lv_dup2_11 hx hb dX12_give_85 rfl rfl ?_
    obtain ⟨hi86, h⟩ := of_grd h
    refine va_iald hx hb hK hw.1 10 0 rfl rfl hi86 dX12_give_86 ?_
    refine lv_topi (fun v86 ev86 => ?_)
    have h := of_bnd h ev86
    refine lv_iload_n hx hb dX12_give_87 rfl (lv_at hl 3 rfl) ?_
    refine lv_isub hx hb dX12_give_88 ?_
    obtain ⟨hi89, h⟩ := of_grd h
    refine N_iast hx hb hK hw 10 rfl hi89 (pA_14 cI cJ ad S3 _) dX12_give_89 (fun S89 H locs eS89 hw => ?_)
    have h := of_bnd h eS89
    refine lv_aload_n hx hb dX12_give_90 rfl (lv_at hl 0 rfl) ?_
    refine N_get hx hb hts hin hown hK hw 15 (by decide) rfl (index := 40) (by decide +kernel) rfl dX12_give_91 ?_
    refine lv_bipush (v := 10) hx hb dX12_give_94 (by decide) ?_
    refine lv_iload_n hx hb dX12_give_96 rfl (lv_at hl 1 rfl) ?_
    refine lv_imul hx hb dX12_give_97 ?_
    refine lv_iload_n hx hb dX12_give_98 rfl (lv_at hl 2 rfl) ?_
    refine lv_iadd hx hb dX12_give_99 ?_
    refine lv_dup2_11 hx hb dX12_give_100 rfl rfl ?_
    obtain ⟨hi101, h⟩ := of_grd h
    refine va_lald hx hb hK hw.1 11 1 rfl rfl hi101 dX12_give_101 ?_
    refine lv_topl (fun v101 ev101 => ?_)
    have h := of_bnd h ev101
    refine lv_iload_n hx hb dX12_give_102 rfl (lv_at hl 3 rfl) ?_
    refine lv_i2l hx hb dX12_give_103 rfl ?_
    refine lv_ladd hx hb dX12_give_104 ?_
    obtain ⟨hi105, h⟩ := of_grd h
    refine N_last hx hb hK hw 11 rfl hi105 (pA_15 cI cJ ad S89 _) dX12_give_105 (fun S105 H locs eS105 hw => ?_)
    have h := of_bnd h eS105
    obtain rfl := Option.some.inj h
    exact M_vret hx hb hr hlocks hK hw.1 hw.2.1 hw.2.2 dX12_give_106 rfl

def fX12_part_lp35 (n : Nat × Nat) (S : MS) (f1 : Int32) (f4 : Int32) : Nat → Int64 → Int32 → Option (Int64)
  | 0, _, _ => none
  | k + 1, l2, l5 =>
    bnd (mI S 4) (fun v38 => if v38 ≤ l5 then 
          some l2
          else grd (¬ (l5 < 0 ∨ 200 ≤ l5.toNatClampNeg)) (bnd (mA S 5 l5.toNatClampNeg) (fun v51 => if v51 = f1 then 
            grd (¬ (l5 < 0 ∨ 200 ≤ l5.toNatClampNeg)) (bnd (mA S 7 l5.toNatClampNeg) (fun v62 => if v62 < f4 then 
              bnd (l2 + (0 : Int64)) (fun x81 => bnd (l5 + 1) (fun x82 => fX12_part_lp35 n S f1 f4 k x81 x82 ))
              else grd (¬ (l5 < 0 ∨ 200 ≤ l5.toNatClampNeg)) (bnd (mA S 9 l5.toNatClampNeg) (fun v74 => bnd (l2 + v74.toInt64) (fun x81 => bnd (l5 + 1) (fun x82 => fX12_part_lp35 n S f1 f4 k x81 x82 ))))))
            else bnd (l2 + (0 : Int64)) (fun x81 => bnd (l5 + 1) (fun x82 => fX12_part_lp35 n S f1 f4 k x81 x82 )))))
def fX12_part_lp126 (n : Nat × Nat) (S : MS) (f1 : Int32) (f2 : Int64) : Nat → Int64 → Int64 → Option (Int64)
  | 0, _, _ => none
  | k + 1, l7, l9 =>
    if 0 ≤ (lg_cmp l7 l9) then 
                some l7
                else bnd (((l7 + l9) + (1 : Int64)) / (2 : Int64)) (fun x145 => cal (fX12_upTo n S f1 x145) (fun q151 => if 0 < (lg_cmp q151 f2) then 
                  bnd (x145 - (1 : Int64)) (fun x170 => fX12_part_lp126 n S f1 f2 k l7 x170 )
                  else fX12_part_lp126 n S f1 f2 k x145 l9 ))
def fX12_part_lp189 (n : Nat × Nat) (f1 : Int32) (f7 : Int64) : Nat → Int64 → Int32 → MS → Option (MS)
  | 0, _, _, _ => none
  | k + 1, l11, l13, S =>
    bnd (mI S 13) (fun v192 => if v192 ≤ l13 then 
                  some S
                  else grd (¬ ((((10 : Int32) * l13) + f1) < 0 ∨ 120 ≤ (((10 : Int32) * l13) + f1).toNatClampNeg)) (bnd (mA S 14 (((10 : Int32) * l13) + f1).toNatClampNeg) (fun v209 => bnd (fun (z0_233 : Int32) (S : MS) => bnd (fun (z0_258 : Int64) (S : MS) => if z0_233 = 0 then 
                        grd (¬ (l13 < 0 ∨ 12 ≤ l13.toNatClampNeg)) (bnd (sA S 41 (upd (mA S 41) l13.toNatClampNeg (z0_258.toInt32 + (0 : Int32)))) (fun S270 => if z0_233 = 0 then 
                          bnd (l11 - (0 : Int64)) (fun x284 => bnd (l13 + 1) (fun x286 => fX12_part_lp189 n f1 f7 k x284 x286 S270))
                          else bnd (l11 - (1 : Int64)) (fun x284 => bnd (l13 + 1) (fun x286 => fX12_part_lp189 n f1 f7 k x284 x286 S270))))
                        else grd (¬ (l13 < 0 ∨ 12 ≤ l13.toNatClampNeg)) (bnd (sA S 41 (upd (mA S 41) l13.toNatClampNeg (z0_258.toInt32 + (1 : Int32)))) (fun S270 => if z0_233 = 0 then 
                          bnd (l11 - (0 : Int64)) (fun x284 => bnd (l13 + 1) (fun x286 => fX12_part_lp189 n f1 f7 k x284 x286 S270))
                          else bnd (l11 - (1 : Int64)) (fun x284 => bnd (l13 + 1) (fun x286 => fX12_part_lp189 n f1 f7 k x284 x286 S270))))) (fun j258 => if 0 ≤ (lg_cmp v209.toInt64 f7) then 
                      j258 f7 S
                      else j258 v209.toInt64 S)) (fun j233 => bnd (fun (S : MS) => j233 (0 : Int32) S) (fun j232 => if (lg_cmp v209.toInt64 f7) ≤ 0 then 
                    j232  S
                    else if (lg_cmp l11 (0 : Int64)) ≤ 0 then 
                      j232  S
                      else j233 (1 : Int32) S)))))
def fX12_part_lp298 (n : Nat × Nat) (f1 : Int32) : Nat → Int32 → Int32 → MS → Option (Int32 × MS)
  | 0, _, _, _ => none
  | k + 1, l13, l14, S =>
    bnd (mI S 13) (fun v301 => if v301 ≤ l14 then 
                    some (l13, S)
                    else grd (¬ (l14 < 0 ∨ 12 ≤ l14.toNatClampNeg)) (bnd (mA S 41 l14.toNatClampNeg) (fun v315 => bnd (l13 + v315) (fun x317 => grd (¬ (l14 < 0 ∨ 12 ≤ l14.toNatClampNeg)) (bnd (mA S 41 l14.toNatClampNeg) (fun v329 => cal (fX12_give n S l14 f1 v329) (fun S330 => bnd (l14 + 1) (fun x333 => fX12_part_lp298 n f1 k x317 x333 S330))))))))
def fX12_part (n : Nat × Nat) (S : MS) (a1 : Int32) : Option (Int32 × MS) :=
  bnd (sI S 0 (0 : Int32)) (fun S2 => bnd (fX12_isKind a1) (fun r6 => if r6 = 0 then 
    cal (fX12_told n S2 (-1 : Int32)) (un2 fun r14 S14 => some (r14, S14))
    else bnd (0 : Int64) (fun x19 => bnd (mI S2 2) (fun v21 => cal (fX12_sparedOf n S2 a1) (fun q26 => bnd (v21 + q26) (fun x30 => bnd (0 : Int32) (fun x33 => cal (fX12_part_lp35 n S2 a1 x30 n.1 x19 x33 ) (fun t2_35 => cal (fX12_upTo n S2 a1 (1000000 : Int64)) (fun q93 => if (lg_cmp q93 (0 : Int64)) = 0 then 
        cal (fX12_told n S2 (-4 : Int32)) (un2 fun r114 S114 => some (r114, S114))
        else if (lg_cmp t2_35 (0 : Int64)) = 0 then 
          cal (fX12_told n S2 (-4 : Int32)) (un2 fun r114 S114 => some (r114, S114))
          else bnd (0 : Int64) (fun x119 => bnd (1000000 : Int64) (fun x124 => cal (fX12_part_lp126 n S2 a1 t2_35 n.1 x119 x124 ) (fun t7_126 => cal (fX12_upTo n S2 a1 t7_126) (fun q180 => bnd (t2_35 - q180) (fun x184 => bnd (0 : Int32) (fun x187 => cal (fX12_part_lp189 n a1 t7_126 n.1 x184 x187 S2) (fun S189 => bnd (0 : Int32) (fun x293 => bnd (0 : Int32) (fun x296 => cal (fX12_part_lp298 n a1 n.1 x293 x296 S189) (un2 fun t13_298 S298 => cal (fX12_told n S298 t13_298) (un2 fun r342 S342 => some (r342, S342)))))))))))))))))))))
set_option maxHeartbeats 8000000 in
set_option maxRecDepth 100000 in
theorem cX12_part_ok (l : Launch) (D : va_G) (cI cJ : ClassId) (ad : Nat → Nat) (n : Nat × Nat) (S : MS) (a1 : Int32) {r : Int32} {T : MS} (h : fX12_part n S a1 = some (r, T)) : Mi l yX12_part wsX12_part (cRm 3 73 0 0) D cI cJ ad [.int a1] S (fun r1 u => r1 = r ∧ u = T) := by
  refine Mi_of (cc := cX12_part) (nL := 16) (ret := (some .int)) (by decide) rfl rfl (Nat.le_of_ble_eq_true rfl) ?_
  intro p e s m args below meth c A hx hb hr hlocks hml hts hown hA hK hP hD hS ls hl
  have hw : mWd D cI cJ ad A s.heap S s.heap [] := ⟨hP, hD, hS⟩
  unfold fX12_part at h
  have hin : ∀ w ∈ wsX120, w ∈ wsX12_part := fun w h => List.mem_cons_of_mem _ (List.mem_append_right _ h)
  have hl : lv_has ls 16 [(0, .ref (ad 0)), (1, .int a1)] := hl
  refine lv_aload_n hx hb dX12_part_0 rfl (lv_at hl 0 rfl) ?_
  refine lv_iconst (v := 0) hx hb dX12_part_1 (by decide) ?_
  refine N_put hx hb hts hin hown hK hw 0 (by decide) rfl rfl (index := 156) (by decide +kernel) (ty := .int) (by decide +kernel) rfl rfl (pI_0 cI cJ ad S _) dX12_part_2 (fun S2 H locs eS2 hw => ?_)
  have h := of_bnd h eS2
  refine lv_iload_n hx hb dX12_part_5 rfl (lv_at hl 1 rfl) ?_
  refine C_s (va_runS (As := [.int a1]) (rest := []) ⟨hx, hb, hml, hown, hts⟩ (cX12_isKind_ok l a1) (va_cwS 1 hts gX12_part_X12_isKind rfl rfl rfl (by decide +kernel) ⟨Nat.le_of_ble_eq_true rfl, Nat.le_of_ble_eq_true rfl⟩) ⟨fun a U g mk q => ⟨q.1, trivial⟩, fun U hU hW => ⟨rfl, trivial⟩⟩ rfl rfl hl.1 rfl (lv_room (Nat.le_of_ble_eq_true rfl)) dX12_part_6 ⟨Nat.le_refl _, Nat.le_refl _⟩) (fun r6 er6 => ?_)
  have h := of_bnd h er6
  refine lv_if_ne (tgt := 18) hx hb dX12_part_9 (by decide) (fun c9 => ?_) (fun c9 => ?_)
  · have h := of_if h c9
    refine lv_lconst (v := 0) hx hb dX12_part_18 (by decide) ?_
    refine lv_topl (fun x19 ex19 => ?_)
    have h := of_bnd h ex19
    refine lv_lstore_n (lv' := [(2, .long x19), (0, .ref (ad 0)), (1, .int a1)]) hx hb dX12_part_19 rfl hl (by decide) rfl (fun ls hl => ?_)
    refine lv_aload_n hx hb dX12_part_20 rfl (lv_at hl 1 rfl) ?_
    refine N_get hx hb hts hin hown hK hw 2 (by decide) rfl (index := 189) (by decide +kernel) rfl dX12_part_21 ?_
    refine lv_topi (fun v21 ev21 => ?_)
    have h := of_bnd h ev21
    refine lv_aload_n hx hb dX12_part_24 rfl (lv_at hl 1 rfl) ?_
    refine lv_iload_n hx hb dX12_part_25 rfl (lv_at hl 2 rfl) ?_
    obtain ⟨q26, hq26, h⟩ := of_cal h
    refine N_calli (av := [.int a1]) (rest := [.int v21]) ⟨hx, hb, hml, hown, hts⟩ hA hK hw (cX12_sparedOf_ok l D cI cJ ad n S2 a1 hq26) (cwV 1 hts gX12_part_X12_sparedOf rfl rfl rfl (by decide +kernel) ⟨Nat.le_of_ble_eq_true rfl, Nat.le_of_ble_eq_true rfl⟩) rfl hl.1 rfl (Nat.le_of_ble_eq_true rfl) dX12_part_26 ⟨Nat.le_refl _, Nat.le_refl _⟩ (fun H locs hw => ?_)
    refine lv_iadd hx hb dX12_part_29 ?_
    refine lv_topi (fun x30 ex30 => ?_)
    have h := of_bnd h ex30
    refine lv_istore (lv' := [(4, .int x30), (2, .long x19), (0, .ref (ad 0)), (1, .int a1)]) hx hb dX12_part_30 hl (by decide) rfl (fun ls hl => ?_)
    refine lv_iconst (v := 0) hx hb dX12_part_32 (by decide) ?_
    refine lv_topi (fun x33 ex33 => ?_)
    have h := of_bnd h ex33
    refine lv_istore (lv' := [(5, .int x33), (4, .int x30), (2, .long x19), (0, .ref (ad 0)), (1, .int a1)]) hx hb dX12_part_33 hl (by decide) rfl (fun ls hl => ?_)
    have lp35 : ∀ (f1 : Int32) (f4 : Int32) (S : MS) (k : Nat) (l2 : Int64) (l5 : Int32) (q : Int64) , fX12_part_lp35 n S f1 f4 k l2 l5  = some q → ∀ (H : Heap) (locs : List Loc), mWd D cI cJ ad A s.heap S H locs → ∀ ls : Array Slot, lv_has ls 16 [(0, .ref (ad 0)), (1, .int f1), (4, .int f4), (2, .long l2), (5, .int l5)] → (∀ (t2 : Int64), t2 = q → ∀ (H : Heap) (locs : List Loc), mWd D cI cJ ad A s.heap S H locs → ∀ ls : Array Slot, lv_has ls 16 [(0, .ref (ad 0)), (1, .int f1), (2, .long t2)] → W p l e (cRm 3 73 0 0) s m args below meth c H locs (0) (0) (MQ below (va_Qi (fun x u => x = r ∧ u = T) (mAft D cI cJ ad A) A) args s 0 0 A) (F0 m 88 ls [])) → W p l e (cRm 3 73 0 0) s m args below meth c H locs (0) (0) (MQ below (va_Qi (fun x u => x = r ∧ u = T) (mAft D cI cJ ad A) A) args s 0 0 A) (F0 m 35 ls []) := by
      intro f1 f4 S k
      induction k with
      | zero => intro l2 l5 q h; rw [fX12_part_lp35] at h; cases h
      | succ k ih35 =>
        intro l2 l5 q h H locs hw ls hl kx35_0
        rw [fX12_part_lp35] at h
        refine lv_iload hx hb dX12_part_35 (lv_at hl 4 rfl) ?_
        refine lv_aload_n hx hb dX12_part_37 rfl (lv_at hl 0 rfl) ?_
        refine N_get hx hb hts hin hown hK hw 4 (by decide) rfl (index := 168) (by decide +kernel) rfl dX12_part_38 ?_
        refine lv_topi (fun v38 ev38 => ?_)
        have h := of_bnd h ev38
        refine lv_icmp_ge (tgt := 88) hx hb dX12_part_41 (by decide) (fun c41 => ?_) (fun c41 => ?_)
        · have h := of_it h c41
          exact kx35_0 l2 (Option.some.inj h) _ _ hw ls (lv_sub hl [0, 1, 3] rfl)
        · have h := of_if h c41
          refine lv_lload_n hx hb dX12_part_44 rfl (lv_at hl 3 rfl) ?_
          refine lv_aload_n hx hb dX12_part_45 rfl (lv_at hl 0 rfl) ?_
          refine N_get hx hb hts hin hown hK hw 5 (by decide) rfl (index := 13) (by decide +kernel) rfl dX12_part_46 ?_
          refine lv_iload hx hb dX12_part_49 (lv_at hl 4 rfl) ?_
          obtain ⟨hi51, h⟩ := of_grd h
          refine va_iald hx hb hK hw.1 2 0 rfl rfl hi51 dX12_part_51 ?_
          refine lv_topi (fun v51 ev51 => ?_)
          have h := of_bnd h ev51
          refine lv_iload_n hx hb dX12_part_52 rfl (lv_at hl 1 rfl) ?_
          refine lv_icmp_ne (tgt := 79) hx hb dX12_part_53 (by decide) (fun c53 => ?_) (fun c53 => ?_)
          · have h := of_if h c53
            refine lv_lconst (v := 0) hx hb dX12_part_79 (by decide) ?_
            refine lv_ladd hx hb dX12_part_80 ?_
            refine lv_topl (fun x81 ex81 => ?_)
            have h := of_bnd h ex81
            refine lv_lstore_n (lv' := [(2, .long x81), (0, .ref (ad 0)), (1, .int f1), (4, .int f4), (5, .int l5)]) hx hb dX12_part_81 rfl hl (by decide) rfl (fun ls hl => ?_)
            obtain ⟨x82, ex82⟩ : ∃ y : Int32, y = l5 + 1 := ⟨_, rfl⟩
            have h := of_bnd h ex82
            refine lv_iinc (v := x82) (lv' := [(5, .int x82), (2, .long x81), (0, .ref (ad 0)), (1, .int f1), (4, .int f4)]) hx hb dX12_part_82 hl (k := 4) rfl (by rw [ex82]; rfl) (by decide) rfl (fun ls hl => ?_)
            refine lv_goto (tgt := 35) hx hb dX12_part_85 (by decide) ?_
            exact ih35 x81 x82 _ h _ _ hw ls (lv_sub hl [2, 3, 4, 1, 0] rfl) kx35_0
          · have h := of_it h c53
            refine lv_aload_n hx hb dX12_part_56 rfl (lv_at hl 0 rfl) ?_
            refine N_get hx hb hts hin hown hK hw 7 (by decide) rfl (index := 19) (by decide +kernel) rfl dX12_part_57 ?_
            refine lv_iload hx hb dX12_part_60 (lv_at hl 4 rfl) ?_
            obtain ⟨hi62, h⟩ := of_grd h
            refine va_iald hx hb hK hw.1 4 0 rfl rfl hi62 dX12_part_62 ?_
            refine lv_topi (fun v62 ev62 => ?_)
            have h := of_bnd h ev62
            refine lv_iload hx hb dX12_part_63 (lv_at hl 2 rfl) ?_
            refine lv_icmp_lt (tgt := 79) hx hb dX12_part_65 (by decide) (fun c65 => ?_) (fun c65 => ?_)
            · have h := of_it h c65
              refine lv_lconst (v := 0) hx hb dX12_part_79 (by decide) ?_
              refine lv_ladd hx hb dX12_part_80 ?_
              refine lv_topl (fun x81 ex81 => ?_)
              have h := of_bnd h ex81
              refine lv_lstore_n (lv' := [(2, .long x81), (0, .ref (ad 0)), (1, .int f1), (4, .int f4), (5, .int l5)]) hx hb dX12_part_81 rfl hl (by decide) rfl (fun ls hl => ?_)
              obtain ⟨x82, ex82⟩ : ∃ y : Int32, y = l5 + 1 := ⟨_, rfl⟩
              have h := of_bnd h ex82
              refine lv_iinc (v := x82) (lv' := [(5, .int x82), (2, .long x81), (0, .ref (ad 0)), (1, .int f1), (4, .int f4)]) hx hb dX12_part_82 hl (k := 4) rfl (by rw [ex82]; rfl) (by decide) rfl (fun ls hl => ?_)
              refine lv_goto (tgt := 35) hx hb dX12_part_85 (by decide) ?_
              exact ih35 x81 x82 _ h _ _ hw ls (lv_sub hl [2, 3, 4, 1, 0] rfl) kx35_0
            · have h := of_if h c65
              refine lv_aload_n hx hb dX12_part_68 rfl (lv_at hl 0 rfl) ?_
              refine N_get hx hb hts hin hown hK hw 9 (by decide) rfl (index := 25) (by decide +kernel) rfl dX12_part_69 ?_
              refine lv_iload hx hb dX12_part_72 (lv_at hl 4 rfl) ?_
              obtain ⟨hi74, h⟩ := of_grd h
              refine va_iald hx hb hK hw.1 6 0 rfl rfl hi74 dX12_part_74 ?_
              refine lv_topi (fun v74 ev74 => ?_)
              have h := of_bnd h ev74
              refine lv_i2l hx hb dX12_part_75 rfl ?_
              refine lv_goto (tgt := 80) hx hb dX12_part_76 (by decide) ?_
              refine lv_ladd hx hb dX12_part_80 ?_
              refine lv_topl (fun x81 ex81 => ?_)
              have h := of_bnd h ex81
              refine lv_lstore_n (lv' := [(2, .long x81), (0, .ref (ad 0)), (1, .int f1), (4, .int f4), (5, .int l5)]) hx hb dX12_part_81 rfl hl (by decide) rfl (fun ls hl => ?_)
              obtain ⟨x82, ex82⟩ : ∃ y : Int32, y = l5 + 1 := ⟨_, rfl⟩
              have h := of_bnd h ex82
              refine lv_iinc (v := x82) (lv' := [(5, .int x82), (2, .long x81), (0, .ref (ad 0)), (1, .int f1), (4, .int f4)]) hx hb dX12_part_82 hl (k := 4) rfl (by rw [ex82]; rfl) (by decide) rfl (fun ls hl => ?_)
              refine lv_goto (tgt := 35) hx hb dX12_part_85 (by decide) ?_
              exact ih35 x81 x82 _ h _ _ hw ls (lv_sub hl [2, 3, 4, 1, 0] rfl) kx35_0
    obtain ⟨q35, hq35, h⟩ := of_cal h
    refine lp35 a1 x30 S2 n.1 x19 x33 q35  hq35 _ _ hw ls (lv_sub hl [3, 4, 1, 2, 0] rfl) ?_
    · intro t2_35 eq H locs hw ls hl
      subst eq
      refine lv_aload_n hx hb dX12_part_88 rfl (lv_at hl 0 rfl) ?_
      refine lv_iload_n hx hb dX12_part_89 rfl (lv_at hl 1 rfl) ?_
      refine lv_ldc2 (v := 1000000) hx hb hown (hts (.constantLong RX12 187 (1000000)) (by decide +kernel)) dX12_part_90 ?_
      obtain ⟨q93, hq93, h⟩ := of_cal h
      refine N_calll (av := [.int a1, .long (1000000 : Int64)]) (rest := []) ⟨hx, hb, hml, hown, hts⟩ hA hK hw (cX12_upTo_ok l D cI cJ ad n S2 a1 (1000000 : Int64) hq93) (cwV 2 hts gX12_part_X12_upTo rfl rfl rfl (by decide +kernel) ⟨Nat.le_of_ble_eq_true rfl, Nat.le_of_ble_eq_true rfl⟩) rfl hl.1 rfl (Nat.le_of_ble_eq_true rfl) dX12_part_93 ⟨Nat.le_refl _, Nat.le_refl _⟩ (fun H locs hw => ?_)
      refine lv_lstore (lv' := [(5, .long q93), (0, .ref (ad 0)), (1, .int a1), (2, .long t2_35)]) hx hb dX12_part_96 hl (by decide) rfl (fun ls hl => ?_)
      refine lv_lload hx hb dX12_part_98 (lv_at hl 0 rfl) ?_
      refine lv_lconst (v := 0) hx hb dX12_part_100 (by decide) ?_
      refine W.lcmp hx hb dX12_part_101 ?_
      refine lv_if_eq (tgt := 111) hx hb dX12_part_102 (by decide) (fun c102 => ?_) (fun c102 => ?_)
      · have h := of_it h c102
        refine lv_aload_n hx hb dX12_part_111 rfl (lv_at hl 1 rfl) ?_
        refine lv_bipush (v := -4) hx hb dX12_part_112 (by decide) ?_
        obtain ⟨q114, hq114, h⟩ := of_cal h
        obtain ⟨r114, S114⟩ := q114
        have h := of_un2 h
        refine N_calli (av := [.int (-4 : Int32)]) (rest := []) ⟨hx, hb, hml, hown, hts⟩ hA hK hw (cX12_told_ok l D cI cJ ad n S2 (-4 : Int32) hq114) (cwV 1 hts gX12_part_X12_told rfl rfl rfl (by decide +kernel) ⟨Nat.le_of_ble_eq_true rfl, Nat.le_of_ble_eq_true rfl⟩) rfl hl.1 rfl (Nat.le_of_ble_eq_true rfl) dX12_part_114 ⟨Nat.le_refl _, Nat.le_refl _⟩ (fun H locs hw => ?_)
        obtain ⟨rfl, rfl⟩ := of_ret2 h
        exact M_iret hx hb hr hlocks hK hw.1 hw.2.1 hw.2.2 dX12_part_117 ⟨rfl, rfl⟩
      · have h := of_if h c102
        refine lv_lload_n hx hb dX12_part_105 rfl (lv_at hl 3 rfl) ?_
        refine lv_lconst (v := 0) hx hb dX12_part_106 (by decide) ?_
        refine W.lcmp hx hb dX12_part_107 ?_
        refine lv_if_ne (tgt := 118) hx hb dX12_part_108 (by decide) (fun c108 => ?_) (fun c108 => ?_)
        · have h := of_if h c108
          refine lv_lconst (v := 0) hx hb dX12_part_118 (by decide) ?_
          refine lv_topl (fun x119 ex119 => ?_)
          have h := of_bnd h ex119
          refine lv_lstore (lv' := [(7, .long x119), (5, .long q93), (0, .ref (ad 0)), (1, .int a1), (2, .long t2_35)]) hx hb dX12_part_119 hl (by decide) rfl (fun ls hl => ?_)
          refine lv_ldc2 (v := 1000000) hx hb hown (hts (.constantLong RX12 187 (1000000)) (by decide +kernel)) dX12_part_121 ?_
          refine lv_topl (fun x124 ex124 => ?_)
          have h := of_bnd h ex124
          refine lv_lstore (lv' := [(9, .long x124), (7, .long x119), (5, .long q93), (0, .ref (ad 0)), (1, .int a1), (2, .long t2_35)]) hx hb dX12_part_124 hl (by decide) rfl (fun ls hl => ?_)
          have lp126 : ∀ (f1 : Int32) (f2 : Int64) (S : MS) (k : Nat) (l7 : Int64) (l9 : Int64) (q : Int64) , fX12_part_lp126 n S f1 f2 k l7 l9  = some q → ∀ (H : Heap) (locs : List Loc), mWd D cI cJ ad A s.heap S H locs → ∀ ls : Array Slot, lv_has ls 16 [(0, .ref (ad 0)), (1, .int f1), (2, .long f2), (7, .long l7), (9, .long l9)] → (∀ (t7 : Int64), t7 = q → ∀ (H : Heap) (locs : List Loc), mWd D cI cJ ad A s.heap S H locs → ∀ ls : Array Slot, lv_has ls 16 [(0, .ref (ad 0)), (1, .int f1), (2, .long f2), (7, .long t7)] → W p l e (cRm 3 73 0 0) s m args below meth c H locs (0) (0) (MQ below (va_Qi (fun x u => x = r ∧ u = T) (mAft D cI cJ ad A) A) args s 0 0 A) (F0 m 175 ls [])) → W p l e (cRm 3 73 0 0) s m args below meth c H locs (0) (0) (MQ below (va_Qi (fun x u => x = r ∧ u = T) (mAft D cI cJ ad A) A) args s 0 0 A) (F0 m 126 ls []) := by
            intro f1 f2 S k
            induction k with
            | zero => intro l7 l9 q h; rw [fX12_part_lp126] at h; cases h
            | succ k ih126 =>
              intro l7 l9 q h H locs hw ls hl kx126_0
              rw [fX12_part_lp126] at h
              refine lv_lload hx hb dX12_part_126 (lv_at hl 3 rfl) ?_
              refine lv_lload hx hb dX12_part_128 (lv_at hl 4 rfl) ?_
              refine W.lcmp hx hb dX12_part_130 ?_
              refine lv_if_ge (tgt := 175) hx hb dX12_part_131 (by decide) (fun c131 => ?_) (fun c131 => ?_)
              · have h := of_it h c131
                exact kx126_0 l7 (Option.some.inj h) _ _ hw ls (lv_sub hl [0, 1, 2, 3] rfl)
              · have h := of_if h c131
                refine lv_lload hx hb dX12_part_134 (lv_at hl 3 rfl) ?_
                refine lv_lload hx hb dX12_part_136 (lv_at hl 4 rfl) ?_
                refine lv_ladd hx hb dX12_part_138 ?_
                refine lv_lconst (v := 1) hx hb dX12_part_139 (by decide) ?_
                refine lv_ladd hx hb dX12_part_140 ?_
                refine lv_ldc2 (v := 2) hx hb hown (hts (.constantLong RX12 256 (2)) (by decide +kernel)) dX12_part_141 ?_
                refine lv_ldiv hx hb dX12_part_144 (by decide) ?_
                refine lv_topl (fun x145 ex145 => ?_)
                have h := of_bnd h ex145
                refine lv_lstore (lv' := [(11, .long x145), (0, .ref (ad 0)), (1, .int f1), (2, .long f2), (7, .long l7), (9, .long l9)]) hx hb dX12_part_145 hl (by decide) rfl (fun ls hl => ?_)
                refine lv_aload_n hx hb dX12_part_147 rfl (lv_at hl 1 rfl) ?_
                refine lv_iload_n hx hb dX12_part_148 rfl (lv_at hl 2 rfl) ?_
                refine lv_lload hx hb dX12_part_149 (lv_at hl 0 rfl) ?_
                obtain ⟨q151, hq151, h⟩ := of_cal h
                refine N_calll (av := [.int f1, .long x145]) (rest := []) ⟨hx, hb, hml, hown, hts⟩ hA hK hw (cX12_upTo_ok l D cI cJ ad n S f1 x145 hq151) (cwV 2 hts gX12_part_X12_upTo rfl rfl rfl (by decide +kernel) ⟨Nat.le_of_ble_eq_true rfl, Nat.le_of_ble_eq_true rfl⟩) rfl hl.1 rfl (Nat.le_of_ble_eq_true rfl) dX12_part_151 ⟨Nat.le_refl _, Nat.le_refl _⟩ (fun H locs hw => ?_)
                refine lv_lload_n hx hb dX12_part_154 rfl (lv_at hl 3 rfl) ?_
                refine W.lcmp hx hb dX12_part_155 ?_
                refine lv_if_gt (tgt := 166) hx hb dX12_part_156 (by decide) (fun c156 => ?_) (fun c156 => ?_)
                · have h := of_it h c156
                  refine lv_lload hx hb dX12_part_166 (lv_at hl 0 rfl) ?_
                  refine lv_lconst (v := 1) hx hb dX12_part_168 (by decide) ?_
                  refine lv_lsub hx hb dX12_part_169 ?_
                  refine lv_topl (fun x170 ex170 => ?_)
                  have h := of_bnd h ex170
                  refine lv_lstore (lv' := [(9, .long x170), (11, .long x145), (0, .ref (ad 0)), (1, .int f1), (2, .long f2), (7, .long l7)]) hx hb dX12_part_170 hl (by decide) rfl (fun ls hl => ?_)
                  refine lv_goto (tgt := 126) hx hb dX12_part_172 (by decide) ?_
                  exact ih126 l7 x170 _ h _ _ hw ls (lv_sub hl [2, 3, 4, 5, 0] rfl) kx126_0
                · have h := of_if h c156
                  refine lv_lload hx hb dX12_part_159 (lv_at hl 0 rfl) ?_
                  refine lv_lstore (lv' := [(7, .long x145), (11, .long x145), (0, .ref (ad 0)), (1, .int f1), (2, .long f2), (9, .long l9)]) hx hb dX12_part_161 hl (by decide) rfl (fun ls hl => ?_)
                  refine lv_goto (tgt := 172) hx hb dX12_part_163 (by decide) ?_
                  refine lv_goto (tgt := 126) hx hb dX12_part_172 (by decide) ?_
                  exact ih126 x145 l9 _ h _ _ hw ls (lv_sub hl [2, 3, 4, 0, 5] rfl) kx126_0
          obtain ⟨q126, hq126, h⟩ := of_cal h
          refine lp126 a1 t2_35 S2 n.1 x119 x124 q126  hq126 _ _ hw ls (lv_sub hl [3, 4, 5, 1, 0] rfl) ?_
          · intro t7_126 eq H locs hw ls hl
            subst eq
            refine lv_lload_n hx hb dX12_part_175 rfl (lv_at hl 2 rfl) ?_
            refine lv_aload_n hx hb dX12_part_176 rfl (lv_at hl 0 rfl) ?_
            refine lv_iload_n hx hb dX12_part_177 rfl (lv_at hl 1 rfl) ?_
            refine lv_lload hx hb dX12_part_178 (lv_at hl 3 rfl) ?_
            obtain ⟨q180, hq180, h⟩ := of_cal h
            refine N_calll (av := [.int a1, .long t7_126]) (rest := [.long t2_35]) ⟨hx, hb, hml, hown, hts⟩ hA hK hw (cX12_upTo_ok l D cI cJ ad n S2 a1 t7_126 hq180) (cwV 2 hts gX12_part_X12_upTo rfl rfl rfl (by decide +kernel) ⟨Nat.le_of_ble_eq_true rfl, Nat.le_of_ble_eq_true rfl⟩) rfl hl.1 rfl (Nat.le_of_ble_eq_true rfl) dX12_part_180 ⟨Nat.le_refl _, Nat.le_refl _⟩ (fun H locs hw => ?_)
            refine lv_lsub hx hb dX12_part_183 ?_
            refine lv_topl (fun x184 ex184 => ?_)
            have h := of_bnd h ex184
            refine lv_lstore (lv' := [(11, .long x184), (0, .ref (ad 0)), (1, .int a1), (2, .long t2_35), (7, .long t7_126)]) hx hb dX12_part_184 hl (by decide) rfl (fun ls hl => ?_)
            refine lv_iconst (v := 0) hx hb dX12_part_186 (by decide) ?_
            refine lv_topi (fun x187 ex187 => ?_)
            have h := of_bnd h ex187
            refine lv_istore (lv' := [(13, .int x187), (11, .long x184), (0, .ref (ad 0)), (1, .int a1), (2, .long t2_35), (7, .long t7_126)]) hx hb dX12_part_187 hl (by decide) rfl (fun ls hl => ?_)
            have lp189 : ∀ (f1 : Int32) (f7 : Int64) (k : Nat) (l11 : Int64) (l13 : Int32) (S : MS) (q : MS) , fX12_part_lp189 n f1 f7 k l11 l13 S = some q → ∀ (H : Heap) (locs : List Loc), mWd D cI cJ ad A s.heap S H locs → ∀ ls : Array Slot, lv_has ls 16 [(0, .ref (ad 0)), (1, .int f1), (7, .long f7), (11, .long l11), (13, .int l13)] → (∀  (S1 : MS), S1 = q → ∀ (H : Heap) (locs : List Loc), mWd D cI cJ ad A s.heap S1 H locs → ∀ ls : Array Slot, lv_has ls 16 [(0, .ref (ad 0)), (1, .int f1)] → W p l e (cRm 3 73 0 0) s m args below meth c H locs (0) (0) (MQ below (va_Qi (fun x u => x = r ∧ u = T) (mAft D cI cJ ad A) A) args s 0 0 A) (F0 m 292 ls [])) → W p l e (cRm 3 73 0 0) s m args below meth c H locs (0) (0) (MQ below (va_Qi (fun x u => x = r ∧ u = T) (mAft D cI cJ ad A) A) args s 0 0 A) (F0 m 189 ls []) := by
              intro f1 f7 k
              induction k with
              | zero => intro l11 l13 S q h; rw [fX12_part_lp189] at h; cases h
              | succ k ih189 =>
                intro l11 l13 S q h H locs hw ls hl kx189_0
                rw [fX12_part_lp189] at h
                refine lv_iload hx hb dX12_part_189 (lv_at hl 4 rfl) ?_
                refine lv_aload_n hx hb dX12_part_191 rfl (lv_at hl 0 rfl) ?_
                refine N_get hx hb hts hin hown hK hw 13 (by decide) rfl (index := 171) (by decide +kernel) rfl dX12_part_192 ?_
                refine lv_topi (fun v192 ev192 => ?_)
                have h := of_bnd h ev192
                refine lv_icmp_ge (tgt := 292) hx hb dX12_part_195 (by decide) (fun c195 => ?_) (fun c195 => ?_)
                · have h := of_it h c195
                  exact kx189_0 S (Option.some.inj h) _ _ hw ls (lv_sub hl [0, 1] rfl)
                · have h := of_if h c195
                  refine lv_aload_n hx hb dX12_part_198 rfl (lv_at hl 0 rfl) ?_
                  refine N_get hx hb hts hin hown hK hw 14 (by decide) rfl (index := 37) (by decide +kernel) rfl dX12_part_199 ?_
                  refine lv_bipush (v := 10) hx hb dX12_part_202 (by decide) ?_
                  refine lv_iload hx hb dX12_part_204 (lv_at hl 4 rfl) ?_
                  refine lv_imul hx hb dX12_part_206 ?_
                  refine lv_iload_n hx hb dX12_part_207 rfl (lv_at hl 1 rfl) ?_
                  refine lv_iadd hx hb dX12_part_208 ?_
                  obtain ⟨hi209, h⟩ := of_grd h
                  refine va_iald hx hb hK hw.1 10 0 rfl rfl hi209 dX12_part_209 ?_
                  refine lv_topi (fun v209 ev209 => ?_)
                  have h := of_bnd h ev209
                  refine lv_istore (lv' := [(14, .int v209), (0, .ref (ad 0)), (1, .int f1), (7, .long f7), (11, .long l11), (13, .int l13)]) hx hb dX12_part_210 hl (by decide) rfl (fun ls hl => ?_)
                  refine lv_iload hx hb dX12_part_212 (lv_at hl 0 rfl) ?_
                  refine lv_i2l hx hb dX12_part_214 rfl ?_
                  refine lv_lload hx hb dX12_part_215 (lv_at hl 3 rfl) ?_
                  refine W.lcmp hx hb dX12_part_217 ?_
                  obtain ⟨j233, ej233, h⟩ := of_bndE h
                  have hj233 : ∀ (z0_233 : Int32) (S : MS), j233 z0_233 S = some q → ∀ (H : Heap) (locs : List Loc), mWd D cI cJ ad A s.heap S H locs → ∀ ls : Array Slot, lv_has ls 16 [(0, .ref (ad 0)), (1, .int f1), (7, .long f7), (11, .long l11), (13, .int l13), (14, .int v209)] → W p l e (cRm 3 73 0 0) s m args below meth c H locs (0) (0) (MQ below (va_Qi (fun x u => x = r ∧ u = T) (mAft D cI cJ ad A) A) args s 0 0 A) (F0 m 233 ls [.int z0_233]) := by
                    intro z0_233 S h H locs hw ls hl
                    rw [ej233] at h
                    dsimp only at h
                    refine lv_istore (lv' := [(15, .int z0_233), (0, .ref (ad 0)), (1, .int f1), (7, .long f7), (11, .long l11), (13, .int l13), (14, .int v209)]) hx hb dX12_part_233 hl (by decide) rfl (fun ls hl => ?_)
                    refine lv_aload_n hx hb dX12_part_235 rfl (lv_at hl 1 rfl) ?_
                    refine N_get hx hb hts hin hown hK hw 41 (by decide) rfl (index := 98) (by decide +kernel) rfl dX12_part_236 ?_
                    refine lv_iload hx hb dX12_part_239 (lv_at hl 5 rfl) ?_
                    refine lv_iload hx hb dX12_part_241 (lv_at hl 6 rfl) ?_
                    refine lv_i2l hx hb dX12_part_243 rfl ?_
                    refine lv_lload hx hb dX12_part_244 (lv_at hl 3 rfl) ?_
                    refine W.lcmp hx hb dX12_part_246 ?_
                    obtain ⟨j258, ej258, h⟩ := of_bndE h
                    have hj258 : ∀ (z0_258 : Int64) (S : MS), j258 z0_258 S = some q → ∀ (H : Heap) (locs : List Loc), mWd D cI cJ ad A s.heap S H locs → ∀ ls : Array Slot, lv_has ls 16 [(0, .ref (ad 0)), (1, .int f1), (7, .long f7), (11, .long l11), (13, .int l13), (15, .int z0_233)] → W p l e (cRm 3 73 0 0) s m args below meth c H locs (0) (0) (MQ below (va_Qi (fun x u => x = r ∧ u = T) (mAft D cI cJ ad A) A) args s 0 0 A) (F0 m 258 ls [.long z0_258, .int l13, .ref (ad 41)]) := by
                      intro z0_258 S h H locs hw ls hl
                      rw [ej258] at h
                      dsimp only at h
                      refine lv_l2i hx hb dX12_part_258 rfl ?_
                      refine lv_iload hx hb dX12_part_259 (lv_at hl 5 rfl) ?_
                      refine lv_if_eq (tgt := 268) hx hb dX12_part_261 (by decide) (fun c261 => ?_) (fun c261 => ?_)
                      · have h := of_it h c261
                        refine lv_iconst (v := 0) hx hb dX12_part_268 (by decide) ?_
                        refine lv_iadd hx hb dX12_part_269 ?_
                        obtain ⟨hi270, h⟩ := of_grd h
                        refine N_iast hx hb hK hw 30 rfl hi270 (pA_41 cI cJ ad S _) dX12_part_270 (fun S270 H locs eS270 hw => ?_)
                        have h := of_bnd h eS270
                        refine lv_lload hx hb dX12_part_271 (lv_at hl 3 rfl) ?_
                        refine lv_iload hx hb dX12_part_273 (lv_at hl 5 rfl) ?_
                        refine lv_if_eq (tgt := 282) hx hb dX12_part_275 (by decide) (fun c275 => ?_) (fun c275 => ?_)
                        · have h := of_it h c275
                          refine lv_lconst (v := 0) hx hb dX12_part_282 (by decide) ?_
                          refine lv_lsub hx hb dX12_part_283 ?_
                          refine lv_topl (fun x284 ex284 => ?_)
                          have h := of_bnd h ex284
                          refine lv_lstore (lv' := [(11, .long x284), (0, .ref (ad 0)), (1, .int f1), (7, .long f7), (13, .int l13), (15, .int z0_233)]) hx hb dX12_part_284 hl (by decide) rfl (fun ls hl => ?_)
                          obtain ⟨x286, ex286⟩ : ∃ y : Int32, y = l13 + 1 := ⟨_, rfl⟩
                          have h := of_bnd h ex286
                          refine lv_iinc (v := x286) (lv' := [(13, .int x286), (11, .long x284), (0, .ref (ad 0)), (1, .int f1), (7, .long f7), (15, .int z0_233)]) hx hb dX12_part_286 hl (k := 4) rfl (by rw [ex286]; rfl) (by decide) rfl (fun ls hl => ?_)
                          refine lv_goto (tgt := 189) hx hb dX12_part_289 (by decide) ?_
                          exact ih189 x284 x286 S270 _ h _ _ hw ls (lv_sub hl [2, 3, 4, 1, 0] rfl) kx189_0
                        · have h := of_if h c275
                          refine lv_lconst (v := 1) hx hb dX12_part_278 (by decide) ?_
                          refine lv_goto (tgt := 283) hx hb dX12_part_279 (by decide) ?_
                          refine lv_lsub hx hb dX12_part_283 ?_
                          refine lv_topl (fun x284 ex284 => ?_)
                          have h := of_bnd h ex284
                          refine lv_lstore (lv' := [(11, .long x284), (0, .ref (ad 0)), (1, .int f1), (7, .long f7), (13, .int l13), (15, .int z0_233)]) hx hb dX12_part_284 hl (by decide) rfl (fun ls hl => ?_)
                          obtain ⟨x286, ex286⟩ : ∃ y : Int32, y = l13 + 1 := ⟨_, rfl⟩
                          have h := of_bnd h ex286
                          refine lv_iinc (v := x286) (lv' := [(13, .int x286), (11, .long x284), (0, .ref (ad 0)), (1, .int f1), (7, .long f7), (15, .int z0_233)]) hx hb dX12_part_286 hl (k := 4) rfl (by rw [ex286]; rfl) (by decide) rfl (fun ls hl => ?_)
                          refine lv_goto (tgt := 189) hx hb dX12_part_289 (by decide) ?_
                          exact ih189 x284 x286 S270 _ h _ _ hw ls (lv_sub hl [2, 3, 4, 1, 0] rfl) kx189_0
                      · have h := of_if h c261
                        refine lv_iconst (v := 1) hx hb dX12_part_264 (by decide) ?_
                        refine lv_goto (tgt := 269) hx hb dX12_part_265 (by decide) ?_
                        refine lv_iadd hx hb dX12_part_269 ?_
                        obtain ⟨hi270, h⟩ := of_grd h
                        refine N_iast hx hb hK hw 30 rfl hi270 (pA_41 cI cJ ad S _) dX12_part_270 (fun S270 H locs eS270 hw => ?_)
                        have h := of_bnd h eS270
                        refine lv_lload hx hb dX12_part_271 (lv_at hl 3 rfl) ?_
                        refine lv_iload hx hb dX12_part_273 (lv_at hl 5 rfl) ?_
                        refine lv_if_eq (tgt := 282) hx hb dX12_part_275 (by decide) (fun c275 => ?_) (fun c275 => ?_)
                        · have h := of_it h c275
                          refine lv_lconst (v := 0) hx hb dX12_part_282 (by decide) ?_
                          refine lv_lsub hx hb dX12_part_283 ?_
                          refine lv_topl (fun x284 ex284 => ?_)
                          have h := of_bnd h ex284
                          refine lv_lstore (lv' := [(11, .long x284), (0, .ref (ad 0)), (1, .int f1), (7, .long f7), (13, .int l13), (15, .int z0_233)]) hx hb dX12_part_284 hl (by decide) rfl (fun ls hl => ?_)
                          obtain ⟨x286, ex286⟩ : ∃ y : Int32, y = l13 + 1 := ⟨_, rfl⟩
                          have h := of_bnd h ex286
                          refine lv_iinc (v := x286) (lv' := [(13, .int x286), (11, .long x284), (0, .ref (ad 0)), (1, .int f1), (7, .long f7), (15, .int z0_233)]) hx hb dX12_part_286 hl (k := 4) rfl (by rw [ex286]; rfl) (by decide) rfl (fun ls hl => ?_)
                          refine lv_goto (tgt := 189) hx hb dX12_part_289 (by decide) ?_
                          exact ih189 x284 x286 S270 _ h _ _ hw ls (lv_sub hl [2, 3, 4, 1, 0] rfl) kx189_0
                        · have h := of_if h c275
                          refine lv_lconst (v := 1) hx hb dX12_part_278 (by decide) ?_
                          refine lv_goto (tgt := 283) hx hb dX12_part_279 (by decide) ?_
                          refine lv_lsub hx hb dX12_part_283 ?_
                          refine lv_topl (fun x284 ex284 => ?_)
                          have h := of_bnd h ex284
                          refine lv_lstore (lv' := [(11, .long x284), (0, .ref (ad 0)), (1, .int f1), (7, .long f7), (13, .int l13), (15, .int z0_233)]) hx hb dX12_part_284 hl (by decide) rfl (fun ls hl => ?_)
                          obtain ⟨x286, ex286⟩ : ∃ y : Int32, y = l13 + 1 := ⟨_, rfl⟩
                          have h := of_bnd h ex286
                          refine lv_iinc (v := x286) (lv' := [(13, .int x286), (11, .long x284), (0, .ref (ad 0)), (1, .int f1), (7, .long f7), (15, .int z0_233)]) hx hb dX12_part_286 hl (k := 4) rfl (by rw [ex286]; rfl) (by decide) rfl (fun ls hl => ?_)
                          refine lv_goto (tgt := 189) hx hb dX12_part_289 (by decide) ?_
                          exact ih189 x284 x286 S270 _ h _ _ hw ls (lv_sub hl [2, 3, 4, 1, 0] rfl) kx189_0
                    refine lv_if_ge (tgt := 256) hx hb dX12_part_247 (by decide) (fun c247 => ?_) (fun c247 => ?_)
                    · have h := of_it h c247
                      refine lv_lload hx hb dX12_part_256 (lv_at hl 3 rfl) ?_
                      exact hj258 f7 S h _ _ hw ls (lv_sub hl [1, 2, 3, 4, 5, 0] rfl)
                    · have h := of_if h c247
                      refine lv_iload hx hb dX12_part_250 (lv_at hl 6 rfl) ?_
                      refine lv_i2l hx hb dX12_part_252 rfl ?_
                      refine lv_goto (tgt := 258) hx hb dX12_part_253 (by decide) ?_
                      exact hj258 v209.toInt64 S h _ _ hw ls (lv_sub hl [1, 2, 3, 4, 5, 0] rfl)
                  obtain ⟨j232, ej232, h⟩ := of_bndE h
                  have hj232 : ∀ (S : MS), j232 S = some q → ∀ (H : Heap) (locs : List Loc), mWd D cI cJ ad A s.heap S H locs → ∀ ls : Array Slot, lv_has ls 16 [(0, .ref (ad 0)), (1, .int f1), (7, .long f7), (11, .long l11), (13, .int l13), (14, .int v209)] → W p l e (cRm 3 73 0 0) s m args below meth c H locs (0) (0) (MQ below (va_Qi (fun x u => x = r ∧ u = T) (mAft D cI cJ ad A) A) args s 0 0 A) (F0 m 232 ls []) := by
                    intro S h H locs hw ls hl
                    rw [ej232] at h
                    dsimp only at h
                    refine lv_iconst (v := 0) hx hb dX12_part_232 (by decide) ?_
                    exact hj233 (0 : Int32) S h _ _ hw ls (lv_sub hl [0, 1, 2, 3, 4, 5] rfl)
                  refine lv_if_le (tgt := 232) hx hb dX12_part_218 (by decide) (fun c218 => ?_) (fun c218 => ?_)
                  · have h := of_it h c218
                    exact hj232  S h _ _ hw ls (lv_sub hl [1, 2, 3, 4, 5, 0] rfl)
                  · have h := of_if h c218
                    refine lv_lload hx hb dX12_part_221 (lv_at hl 4 rfl) ?_
                    refine lv_lconst (v := 0) hx hb dX12_part_223 (by decide) ?_
                    refine W.lcmp hx hb dX12_part_224 ?_
                    refine lv_if_le (tgt := 232) hx hb dX12_part_225 (by decide) (fun c225 => ?_) (fun c225 => ?_)
                    · have h := of_it h c225
                      exact hj232  S h _ _ hw ls (lv_sub hl [1, 2, 3, 4, 5, 0] rfl)
                    · have h := of_if h c225
                      refine lv_iconst (v := 1) hx hb dX12_part_228 (by decide) ?_
                      refine lv_goto (tgt := 233) hx hb dX12_part_229 (by decide) ?_
                      exact hj233 (1 : Int32) S h _ _ hw ls (lv_sub hl [1, 2, 3, 4, 5, 0] rfl)
            obtain ⟨q189, hq189, h⟩ := of_cal h
            refine lp189 a1 t7_126 n.1 x184 x187 S2 q189  hq189 _ _ hw ls (lv_sub hl [2, 3, 5, 1, 0] rfl) ?_
            · intro S189 eq H locs hw ls hl
              subst eq
              refine lv_iconst (v := 0) hx hb dX12_part_292 (by decide) ?_
              refine lv_topi (fun x293 ex293 => ?_)
              have h := of_bnd h ex293
              refine lv_istore (lv' := [(13, .int x293), (0, .ref (ad 0)), (1, .int a1)]) hx hb dX12_part_293 hl (by decide) rfl (fun ls hl => ?_)
              refine lv_iconst (v := 0) hx hb dX12_part_295 (by decide) ?_
              refine lv_topi (fun x296 ex296 => ?_)
              have h := of_bnd h ex296
              refine lv_istore (lv' := [(14, .int x296), (13, .int x293), (0, .ref (ad 0)), (1, .int a1)]) hx hb dX12_part_296 hl (by decide) rfl (fun ls hl => ?_)
              have lp298 : ∀ (f1 : Int32) (k : Nat) (l13 : Int32) (l14 : Int32) (S : MS) (q : Int32 × MS) , fX12_part_lp298 n f1 k l13 l14 S = some q → ∀ (H : Heap) (locs : List Loc), mWd D cI cJ ad A s.heap S H locs → ∀ ls : Array Slot, lv_has ls 16 [(0, .ref (ad 0)), (1, .int f1), (13, .int l13), (14, .int l14)] → (∀ (t13 : Int32) (S1 : MS), (t13, S1) = q → ∀ (H : Heap) (locs : List Loc), mWd D cI cJ ad A s.heap S1 H locs → ∀ ls : Array Slot, lv_has ls 16 [(0, .ref (ad 0)), (13, .int t13)] → W p l e (cRm 3 73 0 0) s m args below meth c H locs (0) (0) (MQ below (va_Qi (fun x u => x = r ∧ u = T) (mAft D cI cJ ad A) A) args s 0 0 A) (F0 m 339 ls [])) → W p l e (cRm 3 73 0 0) s m args below meth c H locs (0) (0) (MQ below (va_Qi (fun x u => x = r ∧ u = T) (mAft D cI cJ ad A) A) args s 0 0 A) (F0 m 298 ls []) := by
                intro f1 k
                induction k with
                | zero => intro l13 l14 S q h; rw [fX12_part_lp298] at h; cases h
                | succ k ih298 =>
                  intro l13 l14 S q h H locs hw ls hl kx298_0
                  rw [fX12_part_lp298] at h
                  refine lv_iload hx hb dX12_part_298 (lv_at hl 3 rfl) ?_
                  refine lv_aload_n hx hb dX12_part_300 rfl (lv_at hl 0 rfl) ?_
                  refine N_get hx hb hts hin hown hK hw 13 (by decide) rfl (index := 171) (by decide +kernel) rfl dX12_part_301 ?_
                  refine lv_topi (fun v301 ev301 => ?_)
                  have h := of_bnd h ev301
                  refine lv_icmp_ge (tgt := 339) hx hb dX12_part_304 (by decide) (fun c304 => ?_) (fun c304 => ?_)
                  · have h := of_it h c304
                    exact kx298_0 l13 S (Option.some.inj h) _ _ hw ls (lv_sub hl [0, 2] rfl)
                  · have h := of_if h c304
                    refine lv_iload hx hb dX12_part_307 (lv_at hl 2 rfl) ?_
                    refine lv_aload_n hx hb dX12_part_309 rfl (lv_at hl 0 rfl) ?_
                    refine N_get hx hb hts hin hown hK hw 41 (by decide) rfl (index := 98) (by decide +kernel) rfl dX12_part_310 ?_
                    refine lv_iload hx hb dX12_part_313 (lv_at hl 3 rfl) ?_
                    obtain ⟨hi315, h⟩ := of_grd h
                    refine va_iald hx hb hK hw.1 30 0 rfl rfl hi315 dX12_part_315 ?_
                    refine lv_topi (fun v315 ev315 => ?_)
                    have h := of_bnd h ev315
                    refine lv_iadd hx hb dX12_part_316 ?_
                    refine lv_topi (fun x317 ex317 => ?_)
                    have h := of_bnd h ex317
                    refine lv_istore (lv' := [(13, .int x317), (0, .ref (ad 0)), (1, .int f1), (14, .int l14)]) hx hb dX12_part_317 hl (by decide) rfl (fun ls hl => ?_)
                    refine lv_aload_n hx hb dX12_part_319 rfl (lv_at hl 1 rfl) ?_
                    refine lv_iload hx hb dX12_part_320 (lv_at hl 3 rfl) ?_
                    refine lv_iload_n hx hb dX12_part_322 rfl (lv_at hl 2 rfl) ?_
                    refine lv_aload_n hx hb dX12_part_323 rfl (lv_at hl 1 rfl) ?_
                    refine N_get hx hb hts hin hown hK hw 41 (by decide) rfl (index := 98) (by decide +kernel) rfl dX12_part_324 ?_
                    refine lv_iload hx hb dX12_part_327 (lv_at hl 3 rfl) ?_
                    obtain ⟨hi329, h⟩ := of_grd h
                    refine va_iald hx hb hK hw.1 30 0 rfl rfl hi329 dX12_part_329 ?_
                    refine lv_topi (fun v329 ev329 => ?_)
                    have h := of_bnd h ev329
                    obtain ⟨q330, hq330, h⟩ := of_cal h
                    obtain ⟨S330, eS330⟩ : ∃ x, x = q330 := ⟨_, rfl⟩
                    subst eS330
                    refine N_callv (av := [.int l14, .int f1, .int v329]) (rest := []) ⟨hx, hb, hml, hown, hts⟩ hA hK hw (cX12_give_ok l D cI cJ ad n S l14 f1 v329 hq330) (cwV 3 hts gX12_part_X12_give rfl rfl rfl (by decide +kernel) ⟨Nat.le_of_ble_eq_true rfl, Nat.le_of_ble_eq_true rfl⟩) rfl hl.1 rfl (Nat.le_of_ble_eq_true rfl) dX12_part_330 ⟨Nat.le_refl _, Nat.le_refl _⟩ (fun H locs hw => ?_)
                    obtain ⟨x333, ex333⟩ : ∃ y : Int32, y = l14 + 1 := ⟨_, rfl⟩
                    have h := of_bnd h ex333
                    refine lv_iinc (v := x333) (lv' := [(14, .int x333), (13, .int x317), (0, .ref (ad 0)), (1, .int f1)]) hx hb dX12_part_333 hl (k := 3) rfl (by rw [ex333]; rfl) (by decide) rfl (fun ls hl => ?_)
                    refine lv_goto (tgt := 298) hx hb dX12_part_336 (by decide) ?_
                    exact ih298 x317 x333 S330 _ h _ _ hw ls (lv_sub hl [2, 3, 1, 0] rfl) kx298_0
              obtain ⟨q298, hq298, h⟩ := of_cal h
              refine lp298 a1 n.1 x293 x296 S189 q298  hq298 _ _ hw ls (lv_sub hl [2, 3, 1, 0] rfl) ?_
              · intro t13_298 S298 eq H locs hw ls hl
                subst eq
                have h := of_un2 h
                refine lv_aload_n hx hb dX12_part_339 rfl (lv_at hl 0 rfl) ?_
                refine lv_iload hx hb dX12_part_340 (lv_at hl 1 rfl) ?_
                obtain ⟨q342, hq342, h⟩ := of_cal h
                obtain ⟨r342, S342⟩ := q342
                have h := of_un2 h
                refine N_calli (av := [.int t13_298]) (rest := []) ⟨hx, hb, hml, hown, hts⟩ hA hK hw (cX12_told_ok l D cI cJ ad n S298 t13_298 hq342) (cwV 1 hts gX12_part_X12_told rfl rfl rfl (by decide +kernel) ⟨Nat.le_of_ble_eq_true rfl, Nat.le_of_ble_eq_true rfl⟩) rfl hl.1 rfl (Nat.le_of_ble_eq_true rfl) dX12_part_342 ⟨Nat.le_refl _, Nat.le_refl _⟩ (fun H locs hw => ?_)
                obtain ⟨rfl, rfl⟩ := of_ret2 h
                exact M_iret hx hb hr hlocks hK hw.1 hw.2.1 hw.2.2 dX12_part_345 ⟨rfl, rfl⟩
        · have h := of_it h c108
          refine lv_aload_n hx hb dX12_part_111 rfl (lv_at hl 1 rfl) ?_
          refine lv_bipush (v := -4) hx hb dX12_part_112 (by decide) ?_
          obtain ⟨q114, hq114, h⟩ := of_cal h
          obtain ⟨r114, S114⟩ := q114
          have h := of_un2 h
          refine N_calli (av := [.int (-4 : Int32)]) (rest := []) ⟨hx, hb, hml, hown, hts⟩ hA hK hw (cX12_told_ok l D cI cJ ad n S2 (-4 : Int32) hq114) (cwV 1 hts gX12_part_X12_told rfl rfl rfl (by decide +kernel) ⟨Nat.le_of_ble_eq_true rfl, Nat.le_of_ble_eq_true rfl⟩) rfl hl.1 rfl (Nat.le_of_ble_eq_true rfl) dX12_part_114 ⟨Nat.le_refl _, Nat.le_refl _⟩ (fun H locs hw => ?_)
          obtain ⟨rfl, rfl⟩ := of_ret2 h
          exact M_iret hx hb hr hlocks hK hw.1 hw.2.1 hw.2.2 dX12_part_117 ⟨rfl, rfl⟩
  · have h := of_it h c9
    refine lv_aload_n hx hb dX12_part_12 rfl (lv_at hl 0 rfl) ?_
    refine lv_iconst (v := -1) hx hb dX12_part_13 (by decide) ?_
    obtain ⟨q14, hq14, h⟩ := of_cal h
    obtain ⟨r14, S14⟩ := q14
    have h := of_un2 h
    refine N_calli (av := [.int (-1 : Int32)]) (rest := []) ⟨hx, hb, hml, hown, hts⟩ hA hK hw (cX12_told_ok l D cI cJ ad n S2 (-1 : Int32) hq14) (cwV 1 hts gX12_part_X12_told rfl rfl rfl (by decide +kernel) ⟨Nat.le_of_ble_eq_true rfl, Nat.le_of_ble_eq_true rfl⟩) rfl hl.1 rfl (Nat.le_of_ble_eq_true rfl) dX12_part_14 ⟨Nat.le_refl _, Nat.le_refl _⟩ (fun H locs hw => ?_)
    obtain ⟨rfl, rfl⟩ := of_ret2 h
    exact M_iret hx hb hr hlocks hK hw.1 hw.2.1 hw.2.2 dX12_part_17 ⟨rfl, rfl⟩

def fX12_got (n : Nat × Nat) (S : MS) (a1 : Int32) (a2 : Int32) : Option (Int32 × MS) :=
  bnd (sI S 0 (0 : Int32)) (fun S2 => cal (fX12_isTable n S2 a1) (fun q7 => if q7 = 0 then 
    some ((-1 : Int32), S2)
    else bnd (fX12_isKind a2) (fun r14 => if r14 = 0 then 
      some ((-1 : Int32), S2)
      else grd (¬ ((((10 : Int32) * a1) + a2) < 0 ∨ 120 ≤ (((10 : Int32) * a1) + a2).toNatClampNeg)) (bnd (mB S2 15 (((10 : Int32) * a1) + a2).toNatClampNeg) (fun v30 => some (v30.toInt32, S2))))))
set_option maxHeartbeats 8000000 in
set_option maxRecDepth 100000 in
theorem cX12_got_ok (l : Launch) (D : va_G) (cI cJ : ClassId) (ad : Nat → Nat) (n : Nat × Nat) (S : MS) (a1 : Int32) (a2 : Int32) {r : Int32} {T : MS} (h : fX12_got n S a1 a2 = some (r, T)) : Mi l yX12_got wsX12_got (cRm 2 46 0 0) D cI cJ ad [.int a1, .int a2] S (fun r1 u => r1 = r ∧ u = T) := by
  refine Mi_of (cc := cX12_got) (nL := 3) (ret := (some .int)) (by decide) rfl rfl (Nat.le_of_ble_eq_true rfl) ?_
  intro p e s m args below meth c A hx hb hr hlocks hml hts hown hA hK hP hD hS ls hl
  have hw : mWd D cI cJ ad A s.heap S s.heap [] := ⟨hP, hD, hS⟩
  unfold fX12_got at h
  have hin : ∀ w ∈ wsX120, w ∈ wsX12_got := fun w h => List.mem_cons_of_mem _ (List.mem_append_right _ h)
  have hl : lv_has ls 3 [(0, .ref (ad 0)), (1, .int a1), (2, .int a2)] := hl
  refine lv_aload_n hx hb dX12_got_0 rfl (lv_at hl 0 rfl) ?_
  refine lv_iconst (v := 0) hx hb dX12_got_1 (by decide) ?_
  refine N_put hx hb hts hin hown hK hw 0 (by decide) rfl rfl (index := 156) (by decide +kernel) (ty := .int) (by decide +kernel) rfl rfl (pI_0 cI cJ ad S _) dX12_got_2 (fun S2 H locs eS2 hw => ?_)
  have h := of_bnd h eS2
  refine lv_aload_n hx hb dX12_got_5 rfl (lv_at hl 0 rfl) ?_
  refine lv_iload_n hx hb dX12_got_6 rfl (lv_at hl 1 rfl) ?_
  obtain ⟨q7, hq7, h⟩ := of_cal h
  refine N_calli (av := [.int a1]) (rest := []) ⟨hx, hb, hml, hown, hts⟩ hA hK hw (cX12_isTable_ok l D cI cJ ad n S2 a1 hq7) (cwV 1 hts gX12_got_X12_isTable rfl rfl rfl (by decide +kernel) ⟨Nat.le_of_ble_eq_true rfl, Nat.le_of_ble_eq_true rfl⟩) rfl hl.1 rfl (Nat.le_of_ble_eq_true rfl) dX12_got_7 ⟨Nat.le_refl _, Nat.le_refl _⟩ (fun H locs hw => ?_)
  refine lv_if_eq (tgt := 35) hx hb dX12_got_10 (by decide) (fun c10 => ?_) (fun c10 => ?_)
  · have h := of_it h c10
    refine lv_iconst (v := -1) hx hb dX12_got_35 (by decide) ?_
    obtain ⟨rfl, rfl⟩ := of_ret2 h
    exact M_iret hx hb hr hlocks hK hw.1 hw.2.1 hw.2.2 dX12_got_36 ⟨rfl, rfl⟩
  · have h := of_if h c10
    refine lv_iload_n hx hb dX12_got_13 rfl (lv_at hl 2 rfl) ?_
    refine C_s (va_runS (As := [.int a2]) (rest := []) ⟨hx, hb, hml, hown, hts⟩ (cX12_isKind_ok l a2) (va_cwS 1 hts gX12_got_X12_isKind rfl rfl rfl (by decide +kernel) ⟨Nat.le_of_ble_eq_true rfl, Nat.le_of_ble_eq_true rfl⟩) ⟨fun a U g mk q => ⟨q.1, trivial⟩, fun U hU hW => ⟨rfl, trivial⟩⟩ rfl rfl hl.1 rfl (lv_room (Nat.le_of_ble_eq_true rfl)) dX12_got_14 ⟨Nat.le_refl _, Nat.le_refl _⟩) (fun r14 er14 => ?_)
    have h := of_bnd h er14
    refine lv_if_eq (tgt := 35) hx hb dX12_got_17 (by decide) (fun c17 => ?_) (fun c17 => ?_)
    · have h := of_it h c17
      refine lv_iconst (v := -1) hx hb dX12_got_35 (by decide) ?_
      obtain ⟨rfl, rfl⟩ := of_ret2 h
      exact M_iret hx hb hr hlocks hK hw.1 hw.2.1 hw.2.2 dX12_got_36 ⟨rfl, rfl⟩
    · have h := of_if h c17
      refine lv_aload_n hx hb dX12_got_20 rfl (lv_at hl 0 rfl) ?_
      refine N_get hx hb hts hin hown hK hw 15 (by decide) rfl (index := 40) (by decide +kernel) rfl dX12_got_21 ?_
      refine lv_bipush (v := 10) hx hb dX12_got_24 (by decide) ?_
      refine lv_iload_n hx hb dX12_got_26 rfl (lv_at hl 1 rfl) ?_
      refine lv_imul hx hb dX12_got_27 ?_
      refine lv_iload_n hx hb dX12_got_28 rfl (lv_at hl 2 rfl) ?_
      refine lv_iadd hx hb dX12_got_29 ?_
      obtain ⟨hi30, h⟩ := of_grd h
      refine va_lald hx hb hK hw.1 11 1 rfl rfl hi30 dX12_got_30 ?_
      refine lv_topl (fun v30 ev30 => ?_)
      have h := of_bnd h ev30
      refine lv_l2i hx hb dX12_got_31 rfl ?_
      refine lv_goto (tgt := 36) hx hb dX12_got_32 (by decide) ?_
      obtain ⟨rfl, rfl⟩ := of_ret2 h
      exact M_iret hx hb hr hlocks hK hw.1 hw.2.1 hw.2.2 dX12_got_36 ⟨rfl, rfl⟩

def fX12_road (n : Nat × Nat) (S : MS) (a1 : Int32) (a2 : Int32) (a3 : Int32) : Option (Int32 × MS) :=
  bnd (sI S 0 (0 : Int32)) (fun S2 => bnd (fX12_in a1.toInt64 (0 : Int64) (12 : Int64)) (fun r11 => if r11 = 0 then 
    cal (fX12_told n S2 (-1 : Int32)) (un2 fun r48 S48 => some (r48, S48))
    else bnd (fX12_in a2.toInt64 (0 : Int64) (12 : Int64)) (fun r23 => if r23 = 0 then 
      cal (fX12_told n S2 (-1 : Int32)) (un2 fun r48 S48 => some (r48, S48))
      else if a1 = a2 then 
        cal (fX12_told n S2 (-1 : Int32)) (un2 fun r48 S48 => some (r48, S48))
        else bnd (fX12_in a3.toInt64 (0 : Int64) (600 : Int64)) (fun r40 => if r40 = 0 then 
          cal (fX12_told n S2 (-1 : Int32)) (un2 fun r48 S48 => some (r48, S48))
          else grd (¬ ((((13 : Int32) * a1) + a2) < 0 ∨ 169 ≤ (((13 : Int32) * a1) + a2).toNatClampNeg)) (bnd (sA S2 42 (upd (mA S2 42) (((13 : Int32) * a1) + a2).toNatClampNeg a3)) (fun S63 => grd (¬ ((((13 : Int32) * a2) + a1) < 0 ∨ 169 ≤ (((13 : Int32) * a2) + a1).toNatClampNeg)) (bnd (sA S63 42 (upd (mA S63 42) (((13 : Int32) * a2) + a1).toNatClampNeg a3)) (fun S75 => cal (fX12_told n S75 (0 : Int32)) (un2 fun r78 S78 => some (r78, S78))))))))))
set_option maxHeartbeats 8000000 in
set_option maxRecDepth 100000 in
theorem cX12_road_ok (l : Launch) (D : va_G) (cI cJ : ClassId) (ad : Nat → Nat) (n : Nat × Nat) (S : MS) (a1 : Int32) (a2 : Int32) (a3 : Int32) {r : Int32} {T : MS} (h : fX12_road n S a1 a2 a3 = some (r, T)) : Mi l yX12_road wsX12_road (cRm 1 25 0 0) D cI cJ ad [.int a1, .int a2, .int a3] S (fun r1 u => r1 = r ∧ u = T) := by
  refine Mi_of (cc := cX12_road) (nL := 4) (ret := (some .int)) (by decide) rfl rfl (Nat.le_of_ble_eq_true rfl) ?_
  intro p e s m args below meth c A hx hb hr hlocks hml hts hown hA hK hP hD hS ls hl
  have hw : mWd D cI cJ ad A s.heap S s.heap [] := ⟨hP, hD, hS⟩
  unfold fX12_road at h
  have hin : ∀ w ∈ wsX120, w ∈ wsX12_road := fun w h => List.mem_cons_of_mem _ (List.mem_append_right _ h)
  have hl : lv_has ls 4 [(0, .ref (ad 0)), (1, .int a1), (2, .int a2), (3, .int a3)] := hl
  refine lv_aload_n hx hb dX12_road_0 rfl (lv_at hl 0 rfl) ?_
  refine lv_iconst (v := 0) hx hb dX12_road_1 (by decide) ?_
  refine N_put hx hb hts hin hown hK hw 0 (by decide) rfl rfl (index := 156) (by decide +kernel) (ty := .int) (by decide +kernel) rfl rfl (pI_0 cI cJ ad S _) dX12_road_2 (fun S2 H locs eS2 hw => ?_)
  have h := of_bnd h eS2
  refine lv_iload_n hx hb dX12_road_5 rfl (lv_at hl 1 rfl) ?_
  refine lv_i2l hx hb dX12_road_6 rfl ?_
  refine lv_lconst (v := 0) hx hb dX12_road_7 (by decide) ?_
  refine lv_ldc2 (v := 12) hx hb hown (hts (.constantLong RX12 199 (12)) (by decide +kernel)) dX12_road_8 ?_
  refine C_s (va_runS (As := [.long a1.toInt64, .long (0 : Int64), .long (12 : Int64)]) (rest := []) ⟨hx, hb, hml, hown, hts⟩ (cX12_in_ok l a1.toInt64 (0 : Int64) (12 : Int64)) (va_cwS 3 hts gX12_road_X12_in rfl rfl rfl (by decide +kernel) ⟨Nat.le_of_ble_eq_true rfl, Nat.le_of_ble_eq_true rfl⟩) ⟨fun a U g mk q => ⟨q.1, trivial⟩, fun U hU hW => ⟨rfl, trivial⟩⟩ rfl rfl hl.1 rfl (lv_room (Nat.le_of_ble_eq_true rfl)) dX12_road_11 ⟨Nat.le_refl _, Nat.le_refl _⟩) (fun r11 er11 => ?_)
  have h := of_bnd h er11
  refine lv_if_eq (tgt := 46) hx hb dX12_road_14 (by decide) (fun c14 => ?_) (fun c14 => ?_)
  · have h := of_it h c14
    refine lv_aload_n hx hb dX12_road_46 rfl (lv_at hl 0 rfl) ?_
    refine lv_iconst (v := -1) hx hb dX12_road_47 (by decide) ?_
    obtain ⟨q48, hq48, h⟩ := of_cal h
    obtain ⟨r48, S48⟩ := q48
    have h := of_un2 h
    refine N_calli (av := [.int (-1 : Int32)]) (rest := []) ⟨hx, hb, hml, hown, hts⟩ hA hK hw (cX12_told_ok l D cI cJ ad n S2 (-1 : Int32) hq48) (cwV 1 hts gX12_road_X12_told rfl rfl rfl (by decide +kernel) ⟨Nat.le_of_ble_eq_true rfl, Nat.le_of_ble_eq_true rfl⟩) rfl hl.1 rfl (Nat.le_of_ble_eq_true rfl) dX12_road_48 ⟨Nat.le_refl _, Nat.le_refl _⟩ (fun H locs hw => ?_)
    obtain ⟨rfl, rfl⟩ := of_ret2 h
    exact M_iret hx hb hr hlocks hK hw.1 hw.2.1 hw.2.2 dX12_road_51 ⟨rfl, rfl⟩
  · have h := of_if h c14
    refine lv_iload_n hx hb dX12_road_17 rfl (lv_at hl 2 rfl) ?_
    refine lv_i2l hx hb dX12_road_18 rfl ?_
    refine lv_lconst (v := 0) hx hb dX12_road_19 (by decide) ?_
    refine lv_ldc2 (v := 12) hx hb hown (hts (.constantLong RX12 199 (12)) (by decide +kernel)) dX12_road_20 ?_
    refine C_s (va_runS (As := [.long a2.toInt64, .long (0 : Int64), .long (12 : Int64)]) (rest := []) ⟨hx, hb, hml, hown, hts⟩ (cX12_in_ok l a2.toInt64 (0 : Int64) (12 : Int64)) (va_cwS 3 hts gX12_road_X12_in rfl rfl rfl (by decide +kernel) ⟨Nat.le_of_ble_eq_true rfl, Nat.le_of_ble_eq_true rfl⟩) ⟨fun a U g mk q => ⟨q.1, trivial⟩, fun U hU hW => ⟨rfl, trivial⟩⟩ rfl rfl hl.1 rfl (lv_room (Nat.le_of_ble_eq_true rfl)) dX12_road_23 ⟨Nat.le_refl _, Nat.le_refl _⟩) (fun r23 er23 => ?_)
    have h := of_bnd h er23
    refine lv_if_eq (tgt := 46) hx hb dX12_road_26 (by decide) (fun c26 => ?_) (fun c26 => ?_)
    · have h := of_it h c26
      refine lv_aload_n hx hb dX12_road_46 rfl (lv_at hl 0 rfl) ?_
      refine lv_iconst (v := -1) hx hb dX12_road_47 (by decide) ?_
      obtain ⟨q48, hq48, h⟩ := of_cal h
      obtain ⟨r48, S48⟩ := q48
      have h := of_un2 h
      refine N_calli (av := [.int (-1 : Int32)]) (rest := []) ⟨hx, hb, hml, hown, hts⟩ hA hK hw (cX12_told_ok l D cI cJ ad n S2 (-1 : Int32) hq48) (cwV 1 hts gX12_road_X12_told rfl rfl rfl (by decide +kernel) ⟨Nat.le_of_ble_eq_true rfl, Nat.le_of_ble_eq_true rfl⟩) rfl hl.1 rfl (Nat.le_of_ble_eq_true rfl) dX12_road_48 ⟨Nat.le_refl _, Nat.le_refl _⟩ (fun H locs hw => ?_)
      obtain ⟨rfl, rfl⟩ := of_ret2 h
      exact M_iret hx hb hr hlocks hK hw.1 hw.2.1 hw.2.2 dX12_road_51 ⟨rfl, rfl⟩
    · have h := of_if h c26
      refine lv_iload_n hx hb dX12_road_29 rfl (lv_at hl 1 rfl) ?_
      refine lv_iload_n hx hb dX12_road_30 rfl (lv_at hl 2 rfl) ?_
      refine lv_icmp_eq (tgt := 46) hx hb dX12_road_31 (by decide) (fun c31 => ?_) (fun c31 => ?_)
      · have h := of_it h c31
        refine lv_aload_n hx hb dX12_road_46 rfl (lv_at hl 0 rfl) ?_
        refine lv_iconst (v := -1) hx hb dX12_road_47 (by decide) ?_
        obtain ⟨q48, hq48, h⟩ := of_cal h
        obtain ⟨r48, S48⟩ := q48
        have h := of_un2 h
        refine N_calli (av := [.int (-1 : Int32)]) (rest := []) ⟨hx, hb, hml, hown, hts⟩ hA hK hw (cX12_told_ok l D cI cJ ad n S2 (-1 : Int32) hq48) (cwV 1 hts gX12_road_X12_told rfl rfl rfl (by decide +kernel) ⟨Nat.le_of_ble_eq_true rfl, Nat.le_of_ble_eq_true rfl⟩) rfl hl.1 rfl (Nat.le_of_ble_eq_true rfl) dX12_road_48 ⟨Nat.le_refl _, Nat.le_refl _⟩ (fun H locs hw => ?_)
        obtain ⟨rfl, rfl⟩ := of_ret2 h
        exact M_iret hx hb hr hlocks hK hw.1 hw.2.1 hw.2.2 dX12_road_51 ⟨rfl, rfl⟩
      · have h := of_if h c31
        refine lv_iload_n hx hb dX12_road_34 rfl (lv_at hl 3 rfl) ?_
        refine lv_i2l hx hb dX12_road_35 rfl ?_
        refine lv_lconst (v := 0) hx hb dX12_road_36 (by decide) ?_
        refine lv_ldc2 (v := 600) hx hb hown (hts (.constantLong RX12 262 (600)) (by decide +kernel)) dX12_road_37 ?_
        refine C_s (va_runS (As := [.long a3.toInt64, .long (0 : Int64), .long (600 : Int64)]) (rest := []) ⟨hx, hb, hml, hown, hts⟩ (cX12_in_ok l a3.toInt64 (0 : Int64) (600 : Int64)) (va_cwS 3 hts gX12_road_X12_in rfl rfl rfl (by decide +kernel) ⟨Nat.le_of_ble_eq_true rfl, Nat.le_of_ble_eq_true rfl⟩) ⟨fun a U g mk q => ⟨q.1, trivial⟩, fun U hU hW => ⟨rfl, trivial⟩⟩ rfl rfl hl.1 rfl (lv_room (Nat.le_of_ble_eq_true rfl)) dX12_road_40 ⟨Nat.le_refl _, Nat.le_refl _⟩) (fun r40 er40 => ?_)
        have h := of_bnd h er40
        refine lv_if_ne (tgt := 52) hx hb dX12_road_43 (by decide) (fun c43 => ?_) (fun c43 => ?_)
        · have h := of_if h c43
          refine lv_aload_n hx hb dX12_road_52 rfl (lv_at hl 0 rfl) ?_
          refine N_get hx hb hts hin hown hK hw 42 (by decide) rfl (index := 101) (by decide +kernel) rfl dX12_road_53 ?_
          refine lv_bipush (v := 13) hx hb dX12_road_56 (by decide) ?_
          refine lv_iload_n hx hb dX12_road_58 rfl (lv_at hl 1 rfl) ?_
          refine lv_imul hx hb dX12_road_59 ?_
          refine lv_iload_n hx hb dX12_road_60 rfl (lv_at hl 2 rfl) ?_
          refine lv_iadd hx hb dX12_road_61 ?_
          refine lv_iload_n hx hb dX12_road_62 rfl (lv_at hl 3 rfl) ?_
          obtain ⟨hi63, h⟩ := of_grd h
          refine N_iast hx hb hK hw 31 rfl hi63 (pA_42 cI cJ ad S2 _) dX12_road_63 (fun S63 H locs eS63 hw => ?_)
          have h := of_bnd h eS63
          refine lv_aload_n hx hb dX12_road_64 rfl (lv_at hl 0 rfl) ?_
          refine N_get hx hb hts hin hown hK hw 42 (by decide) rfl (index := 101) (by decide +kernel) rfl dX12_road_65 ?_
          refine lv_bipush (v := 13) hx hb dX12_road_68 (by decide) ?_
          refine lv_iload_n hx hb dX12_road_70 rfl (lv_at hl 2 rfl) ?_
          refine lv_imul hx hb dX12_road_71 ?_
          refine lv_iload_n hx hb dX12_road_72 rfl (lv_at hl 1 rfl) ?_
          refine lv_iadd hx hb dX12_road_73 ?_
          refine lv_iload_n hx hb dX12_road_74 rfl (lv_at hl 3 rfl) ?_
          obtain ⟨hi75, h⟩ := of_grd h
          refine N_iast hx hb hK hw 31 rfl hi75 (pA_42 cI cJ ad S63 _) dX12_road_75 (fun S75 H locs eS75 hw => ?_)
          have h := of_bnd h eS75
          refine lv_aload_n hx hb dX12_road_76 rfl (lv_at hl 0 rfl) ?_
          refine lv_iconst (v := 0) hx hb dX12_road_77 (by decide) ?_
          obtain ⟨q78, hq78, h⟩ := of_cal h
          obtain ⟨r78, S78⟩ := q78
          have h := of_un2 h
          refine N_calli (av := [.int (0 : Int32)]) (rest := []) ⟨hx, hb, hml, hown, hts⟩ hA hK hw (cX12_told_ok l D cI cJ ad n S75 (0 : Int32) hq78) (cwV 1 hts gX12_road_X12_told rfl rfl rfl (by decide +kernel) ⟨Nat.le_of_ble_eq_true rfl, Nat.le_of_ble_eq_true rfl⟩) rfl hl.1 rfl (Nat.le_of_ble_eq_true rfl) dX12_road_78 ⟨Nat.le_refl _, Nat.le_refl _⟩ (fun H locs hw => ?_)
          obtain ⟨rfl, rfl⟩ := of_ret2 h
          exact M_iret hx hb hr hlocks hK hw.1 hw.2.1 hw.2.2 dX12_road_81 ⟨rfl, rfl⟩
        · have h := of_it h c43
          refine lv_aload_n hx hb dX12_road_46 rfl (lv_at hl 0 rfl) ?_
          refine lv_iconst (v := -1) hx hb dX12_road_47 (by decide) ?_
          obtain ⟨q48, hq48, h⟩ := of_cal h
          obtain ⟨r48, S48⟩ := q48
          have h := of_un2 h
          refine N_calli (av := [.int (-1 : Int32)]) (rest := []) ⟨hx, hb, hml, hown, hts⟩ hA hK hw (cX12_told_ok l D cI cJ ad n S2 (-1 : Int32) hq48) (cwV 1 hts gX12_road_X12_told rfl rfl rfl (by decide +kernel) ⟨Nat.le_of_ble_eq_true rfl, Nat.le_of_ble_eq_true rfl⟩) rfl hl.1 rfl (Nat.le_of_ble_eq_true rfl) dX12_road_48 ⟨Nat.le_refl _, Nat.le_refl _⟩ (fun H locs hw => ?_)
          obtain ⟨rfl, rfl⟩ := of_ret2 h
          exact M_iret hx hb hr hlocks hK hw.1 hw.2.1 hw.2.2 dX12_road_51 ⟨rfl, rfl⟩

def fX12_load (n : Nat × Nat) (S : MS) (a1 : Int32) (a2 : Int32) : Option (Int32 × MS) :=
  bnd (sI S 0 (0 : Int32)) (fun S2 => bnd (fX12_in a2.toInt64 (0 : Int64) (1000000 : Int64)) (fun r11 => if r11 = 0 then 
    cal (fX12_told n S2 (-1 : Int32)) (un2 fun r19 S19 => some (r19, S19))
    else cal (fX12_isTable n S2 a1) (fun q25 => if q25 = 0 then 
      cal (fX12_told n S2 (-2 : Int32)) (un2 fun r34 S34 => some (r34, S34))
      else bnd (fun (S : MS) => bnd (mI S 44) (fun v69 => bnd (fun (z0_81 : Int32) (S : MS) => grd (¬ (a1 < 0 ∨ 12 ≤ a1.toNatClampNeg)) (bnd (mA S 43 a1.toNatClampNeg) (fun v86 => if v86 ≤ 0 then 
            bnd (sI S 44 (v69 + (z0_81 - (0 : Int32)))) (fun S97 => grd (¬ (a1 < 0 ∨ 12 ≤ a1.toNatClampNeg)) (bnd (sA S97 43 (upd (mA S97 43) a1.toNatClampNeg a2)) (fun S106 => bnd (mI S106 44) (fun v109 => cal (fX12_told n S106 v109) (un2 fun r112 S112 => some (r112, S112))))))
            else bnd (sI S 44 (v69 + (z0_81 - (1 : Int32)))) (fun S97 => grd (¬ (a1 < 0 ∨ 12 ≤ a1.toNatClampNeg)) (bnd (sA S97 43 (upd (mA S97 43) a1.toNatClampNeg a2)) (fun S106 => bnd (mI S106 44) (fun v109 => cal (fX12_told n S106 v109) (un2 fun r112 S112 => some (r112, S112))))))))) (fun j81 => if a2 ≤ 0 then 
          j81 (0 : Int32) S
          else j81 (1 : Int32) S))) (fun j67 => if a2 ≤ 0 then 
        j67  S2
        else grd (¬ (a1 < 0 ∨ 12 ≤ a1.toNatClampNeg)) (bnd (mA S2 43 a1.toNatClampNeg) (fun v47 => if v47 = 0 then 
          bnd (mI S2 44) (fun v52 => if v52 = (8 : Int32) then 
            cal (fX12_told n S2 (-5 : Int32)) (un2 fun r63 S63 => some (r63, S63))
            else j67  S2)
          else j67  S2))))))
set_option maxHeartbeats 8000000 in
set_option maxRecDepth 100000 in
theorem cX12_load_ok (l : Launch) (D : va_G) (cI cJ : ClassId) (ad : Nat → Nat) (n : Nat × Nat) (S : MS) (a1 : Int32) (a2 : Int32) {r : Int32} {T : MS} (h : fX12_load n S a1 a2 = some (r, T)) : Mi l yX12_load wsX12_load (cRm 2 46 0 0) D cI cJ ad [.int a1, .int a2] S (fun r1 u => r1 = r ∧ u = T) := by
  refine Mi_of (cc := cX12_load) (nL := 3) (ret := (some .int)) (by decide) rfl rfl (Nat.le_of_ble_eq_true rfl) ?_
  intro p e s m args below meth c A hx hb hr hlocks hml hts hown hA hK hP hD hS ls hl
  have hw : mWd D cI cJ ad A s.heap S s.heap [] := ⟨hP, hD, hS⟩
  unfold fX12_load at h
  have hin : ∀ w ∈ wsX120, w ∈ wsX12_load := fun w h => List.mem_cons_of_mem _ (List.mem_append_right _ h)
  have hl : lv_has ls 3 [(0, .ref (ad 0)), (1, .int a1), (2, .int a2)] := hl
  refine lv_aload_n hx hb dX12_load_0 rfl (lv_at hl 0 rfl) ?_
  refine lv_iconst (v := 0) hx hb dX12_load_1 (by decide) ?_
  refine N_put hx hb hts hin hown hK hw 0 (by decide) rfl rfl (index := 156) (by decide +kernel) (ty := .int) (by decide +kernel) rfl rfl (pI_0 cI cJ ad S _) dX12_load_2 (fun S2 H locs eS2 hw => ?_)
  have h := of_bnd h eS2
  refine lv_iload_n hx hb dX12_load_5 rfl (lv_at hl 2 rfl) ?_
  refine lv_i2l hx hb dX12_load_6 rfl ?_
  refine lv_lconst (v := 0) hx hb dX12_load_7 (by decide) ?_
  refine lv_ldc2 (v := 1000000) hx hb hown (hts (.constantLong RX12 187 (1000000)) (by decide +kernel)) dX12_load_8 ?_
  refine C_s (va_runS (As := [.long a2.toInt64, .long (0 : Int64), .long (1000000 : Int64)]) (rest := []) ⟨hx, hb, hml, hown, hts⟩ (cX12_in_ok l a2.toInt64 (0 : Int64) (1000000 : Int64)) (va_cwS 3 hts gX12_load_X12_in rfl rfl rfl (by decide +kernel) ⟨Nat.le_of_ble_eq_true rfl, Nat.le_of_ble_eq_true rfl⟩) ⟨fun a U g mk q => ⟨q.1, trivial⟩, fun U hU hW => ⟨rfl, trivial⟩⟩ rfl rfl hl.1 rfl (lv_room (Nat.le_of_ble_eq_true rfl)) dX12_load_11 ⟨Nat.le_refl _, Nat.le_refl _⟩) (fun r11 er11 => ?_)
  have h := of_bnd h er11
  refine lv_if_ne (tgt := 23) hx hb dX12_load_14 (by decide) (fun c14 => ?_) (fun c14 => ?_)
  · have h := of_if h c14
    refine lv_aload_n hx hb dX12_load_23 rfl (lv_at hl 0 rfl) ?_
    refine lv_iload_n hx hb dX12_load_24 rfl (lv_at hl 1 rfl) ?_
    obtain ⟨q25, hq25, h⟩ := of_cal h
    refine N_calli (av := [.int a1]) (rest := []) ⟨hx, hb, hml, hown, hts⟩ hA hK hw (cX12_isTable_ok l D cI cJ ad n S2 a1 hq25) (cwV 1 hts gX12_load_X12_isTable rfl rfl rfl (by decide +kernel) ⟨Nat.le_of_ble_eq_true rfl, Nat.le_of_ble_eq_true rfl⟩) rfl hl.1 rfl (Nat.le_of_ble_eq_true rfl) dX12_load_25 ⟨Nat.le_refl _, Nat.le_refl _⟩ (fun H locs hw => ?_)
    refine lv_if_ne (tgt := 38) hx hb dX12_load_28 (by decide) (fun c28 => ?_) (fun c28 => ?_)
    · have h := of_if h c28
      refine lv_iload_n hx hb dX12_load_38 rfl (lv_at hl 2 rfl) ?_
      obtain ⟨j67, ej67, h⟩ := of_bndE h
      have hj67 : ∀ (S : MS), j67 S = some (r, T) → ∀ (H : Heap) (locs : List Loc), mWd D cI cJ ad A s.heap S H locs → ∀ ls : Array Slot, lv_has ls 3 [(0, .ref (ad 0)), (1, .int a1), (2, .int a2)] → W p l e (cRm 2 46 0 0) s m args below meth c H locs (0) (0) (MQ below (va_Qi (fun x u => x = r ∧ u = T) (mAft D cI cJ ad A) A) args s 0 0 A) (F0 m 67 ls []) := by
        intro S h H locs hw ls hl
        rw [ej67] at h
        dsimp only at h
        refine lv_aload_n hx hb dX12_load_67 rfl (lv_at hl 0 rfl) ?_
        refine lv_dup hx hb dX12_load_68 rfl ?_
        refine N_get hx hb hts hin hown hK hw 44 (by decide) rfl (index := 264) (by decide +kernel) rfl dX12_load_69 ?_
        refine lv_topi (fun v69 ev69 => ?_)
        have h := of_bnd h ev69
        refine lv_iload_n hx hb dX12_load_72 rfl (lv_at hl 2 rfl) ?_
        obtain ⟨j81, ej81, h⟩ := of_bndE h
        have hj81 : ∀ (z0_81 : Int32) (S : MS), j81 z0_81 S = some (r, T) → ∀ (H : Heap) (locs : List Loc), mWd D cI cJ ad A s.heap S H locs → ∀ ls : Array Slot, lv_has ls 3 [(0, .ref (ad 0)), (1, .int a1), (2, .int a2)] → W p l e (cRm 2 46 0 0) s m args below meth c H locs (0) (0) (MQ below (va_Qi (fun x u => x = r ∧ u = T) (mAft D cI cJ ad A) A) args s 0 0 A) (F0 m 81 ls [.int z0_81, .int v69, .ref (ad 0)]) := by
          intro z0_81 S h H locs hw ls hl
          rw [ej81] at h
          dsimp only at h
          refine lv_aload_n hx hb dX12_load_81 rfl (lv_at hl 0 rfl) ?_
          refine N_get hx hb hts hin hown hK hw 43 (by decide) rfl (index := 104) (by decide +kernel) rfl dX12_load_82 ?_
          refine lv_iload_n hx hb dX12_load_85 rfl (lv_at hl 1 rfl) ?_
          obtain ⟨hi86, h⟩ := of_grd h
          refine va_iald hx hb hK hw.1 32 0 rfl rfl hi86 dX12_load_86 ?_
          refine lv_topi (fun v86 ev86 => ?_)
          have h := of_bnd h ev86
          refine lv_if_le (tgt := 94) hx hb dX12_load_87 (by decide) (fun c87 => ?_) (fun c87 => ?_)
          · have h := of_it h c87
            refine lv_iconst (v := 0) hx hb dX12_load_94 (by decide) ?_
            refine lv_isub hx hb dX12_load_95 ?_
            refine lv_iadd hx hb dX12_load_96 ?_
            refine N_put hx hb hts hin hown hK hw 44 (by decide) rfl rfl (index := 264) (by decide +kernel) (ty := .int) (by decide +kernel) rfl rfl (pI_44 cI cJ ad S _) dX12_load_97 (fun S97 H locs eS97 hw => ?_)
            have h := of_bnd h eS97
            refine lv_aload_n hx hb dX12_load_100 rfl (lv_at hl 0 rfl) ?_
            refine N_get hx hb hts hin hown hK hw 43 (by decide) rfl (index := 104) (by decide +kernel) rfl dX12_load_101 ?_
            refine lv_iload_n hx hb dX12_load_104 rfl (lv_at hl 1 rfl) ?_
            refine lv_iload_n hx hb dX12_load_105 rfl (lv_at hl 2 rfl) ?_
            obtain ⟨hi106, h⟩ := of_grd h
            refine N_iast hx hb hK hw 32 rfl hi106 (pA_43 cI cJ ad S97 _) dX12_load_106 (fun S106 H locs eS106 hw => ?_)
            have h := of_bnd h eS106
            refine lv_aload_n hx hb dX12_load_107 rfl (lv_at hl 0 rfl) ?_
            refine lv_aload_n hx hb dX12_load_108 rfl (lv_at hl 0 rfl) ?_
            refine N_get hx hb hts hin hown hK hw 44 (by decide) rfl (index := 264) (by decide +kernel) rfl dX12_load_109 ?_
            refine lv_topi (fun v109 ev109 => ?_)
            have h := of_bnd h ev109
            obtain ⟨q112, hq112, h⟩ := of_cal h
            obtain ⟨r112, S112⟩ := q112
            have h := of_un2 h
            refine N_calli (av := [.int v109]) (rest := []) ⟨hx, hb, hml, hown, hts⟩ hA hK hw (cX12_told_ok l D cI cJ ad n S106 v109 hq112) (cwV 1 hts gX12_load_X12_told rfl rfl rfl (by decide +kernel) ⟨Nat.le_of_ble_eq_true rfl, Nat.le_of_ble_eq_true rfl⟩) rfl hl.1 rfl (Nat.le_of_ble_eq_true rfl) dX12_load_112 ⟨Nat.le_refl _, Nat.le_refl _⟩ (fun H locs hw => ?_)
            obtain ⟨rfl, rfl⟩ := of_ret2 h
            exact M_iret hx hb hr hlocks hK hw.1 hw.2.1 hw.2.2 dX12_load_115 ⟨rfl, rfl⟩
          · have h := of_if h c87
            refine lv_iconst (v := 1) hx hb dX12_load_90 (by decide) ?_
            refine lv_goto (tgt := 95) hx hb dX12_load_91 (by decide) ?_
            refine lv_isub hx hb dX12_load_95 ?_
            refine lv_iadd hx hb dX12_load_96 ?_
            refine N_put hx hb hts hin hown hK hw 44 (by decide) rfl rfl (index := 264) (by decide +kernel) (ty := .int) (by decide +kernel) rfl rfl (pI_44 cI cJ ad S _) dX12_load_97 (fun S97 H locs eS97 hw => ?_)
            have h := of_bnd h eS97
            refine lv_aload_n hx hb dX12_load_100 rfl (lv_at hl 0 rfl) ?_
            refine N_get hx hb hts hin hown hK hw 43 (by decide) rfl (index := 104) (by decide +kernel) rfl dX12_load_101 ?_
            refine lv_iload_n hx hb dX12_load_104 rfl (lv_at hl 1 rfl) ?_
            refine lv_iload_n hx hb dX12_load_105 rfl (lv_at hl 2 rfl) ?_
            obtain ⟨hi106, h⟩ := of_grd h
            refine N_iast hx hb hK hw 32 rfl hi106 (pA_43 cI cJ ad S97 _) dX12_load_106 (fun S106 H locs eS106 hw => ?_)
            have h := of_bnd h eS106
            refine lv_aload_n hx hb dX12_load_107 rfl (lv_at hl 0 rfl) ?_
            refine lv_aload_n hx hb dX12_load_108 rfl (lv_at hl 0 rfl) ?_
            refine N_get hx hb hts hin hown hK hw 44 (by decide) rfl (index := 264) (by decide +kernel) rfl dX12_load_109 ?_
            refine lv_topi (fun v109 ev109 => ?_)
            have h := of_bnd h ev109
            obtain ⟨q112, hq112, h⟩ := of_cal h
            obtain ⟨r112, S112⟩ := q112
            have h := of_un2 h
            refine N_calli (av := [.int v109]) (rest := []) ⟨hx, hb, hml, hown, hts⟩ hA hK hw (cX12_told_ok l D cI cJ ad n S106 v109 hq112) (cwV 1 hts gX12_load_X12_told rfl rfl rfl (by decide +kernel) ⟨Nat.le_of_ble_eq_true rfl, Nat.le_of_ble_eq_true rfl⟩) rfl hl.1 rfl (Nat.le_of_ble_eq_true rfl) dX12_load_112 ⟨Nat.le_refl _, Nat.le_refl _⟩ (fun H locs hw => ?_)
            obtain ⟨rfl, rfl⟩ := of_ret2 h
            exact M_iret hx hb hr hlocks hK hw.1 hw.2.1 hw.2.2 dX12_load_115 ⟨rfl, rfl⟩
        refine lv_if_le (tgt := 80) hx hb dX12_load_73 (by decide) (fun c73 => ?_) (fun c73 => ?_)
        · have h := of_it h c73
          refine lv_iconst (v := 0) hx hb dX12_load_80 (by decide) ?_
          exact hj81 (0 : Int32) S h _ _ hw ls (lv_sub hl [0, 1, 2] rfl)
        · have h := of_if h c73
          refine lv_iconst (v := 1) hx hb dX12_load_76 (by decide) ?_
          refine lv_goto (tgt := 81) hx hb dX12_load_77 (by decide) ?_
          exact hj81 (1 : Int32) S h _ _ hw ls (lv_sub hl [0, 1, 2] rfl)
      refine lv_if_le (tgt := 67) hx hb dX12_load_39 (by decide) (fun c39 => ?_) (fun c39 => ?_)
      · have h := of_it h c39
        exact hj67  S2 h _ _ hw ls (lv_sub hl [0, 1, 2] rfl)
      · have h := of_if h c39
        refine lv_aload_n hx hb dX12_load_42 rfl (lv_at hl 0 rfl) ?_
        refine N_get hx hb hts hin hown hK hw 43 (by decide) rfl (index := 104) (by decide +kernel) rfl dX12_load_43 ?_
        refine lv_iload_n hx hb dX12_load_46 rfl (lv_at hl 1 rfl) ?_
        obtain ⟨hi47, h⟩ := of_grd h
        refine va_iald hx hb hK hw.1 32 0 rfl rfl hi47 dX12_load_47 ?_
        refine lv_topi (fun v47 ev47 => ?_)
        have h := of_bnd h ev47
        refine lv_if_ne (tgt := 67) hx hb dX12_load_48 (by decide) (fun c48 => ?_) (fun c48 => ?_)
        · have h := of_if h c48
          exact hj67  S2 h _ _ hw ls (lv_sub hl [0, 1, 2] rfl)
        · have h := of_it h c48
          refine lv_aload_n hx hb dX12_load_51 rfl (lv_at hl 0 rfl) ?_
          refine N_get hx hb hts hin hown hK hw 44 (by decide) rfl (index := 264) (by decide +kernel) rfl dX12_load_52 ?_
          refine lv_topi (fun v52 ev52 => ?_)
          have h := of_bnd h ev52
          refine lv_bipush (v := 8) hx hb dX12_load_55 (by decide) ?_
          refine lv_icmp_ne (tgt := 67) hx hb dX12_load_57 (by decide) (fun c57 => ?_) (fun c57 => ?_)
          · have h := of_if h c57
            exact hj67  S2 h _ _ hw ls (lv_sub hl [0, 1, 2] rfl)
          · have h := of_it h c57
            refine lv_aload_n hx hb dX12_load_60 rfl (lv_at hl 0 rfl) ?_
            refine lv_bipush (v := -5) hx hb dX12_load_61 (by decide) ?_
            obtain ⟨q63, hq63, h⟩ := of_cal h
            obtain ⟨r63, S63⟩ := q63
            have h := of_un2 h
            refine N_calli (av := [.int (-5 : Int32)]) (rest := []) ⟨hx, hb, hml, hown, hts⟩ hA hK hw (cX12_told_ok l D cI cJ ad n S2 (-5 : Int32) hq63) (cwV 1 hts gX12_load_X12_told rfl rfl rfl (by decide +kernel) ⟨Nat.le_of_ble_eq_true rfl, Nat.le_of_ble_eq_true rfl⟩) rfl hl.1 rfl (Nat.le_of_ble_eq_true rfl) dX12_load_63 ⟨Nat.le_refl _, Nat.le_refl _⟩ (fun H locs hw => ?_)
            obtain ⟨rfl, rfl⟩ := of_ret2 h
            exact M_iret hx hb hr hlocks hK hw.1 hw.2.1 hw.2.2 dX12_load_66 ⟨rfl, rfl⟩
    · have h := of_it h c28
      refine lv_aload_n hx hb dX12_load_31 rfl (lv_at hl 0 rfl) ?_
      refine lv_bipush (v := -2) hx hb dX12_load_32 (by decide) ?_
      obtain ⟨q34, hq34, h⟩ := of_cal h
      obtain ⟨r34, S34⟩ := q34
      have h := of_un2 h
      refine N_calli (av := [.int (-2 : Int32)]) (rest := []) ⟨hx, hb, hml, hown, hts⟩ hA hK hw (cX12_told_ok l D cI cJ ad n S2 (-2 : Int32) hq34) (cwV 1 hts gX12_load_X12_told rfl rfl rfl (by decide +kernel) ⟨Nat.le_of_ble_eq_true rfl, Nat.le_of_ble_eq_true rfl⟩) rfl hl.1 rfl (Nat.le_of_ble_eq_true rfl) dX12_load_34 ⟨Nat.le_refl _, Nat.le_refl _⟩ (fun H locs hw => ?_)
      obtain ⟨rfl, rfl⟩ := of_ret2 h
      exact M_iret hx hb hr hlocks hK hw.1 hw.2.1 hw.2.2 dX12_load_37 ⟨rfl, rfl⟩
  · have h := of_it h c14
    refine lv_aload_n hx hb dX12_load_17 rfl (lv_at hl 0 rfl) ?_
    refine lv_iconst (v := -1) hx hb dX12_load_18 (by decide) ?_
    obtain ⟨q19, hq19, h⟩ := of_cal h
    obtain ⟨r19, S19⟩ := q19
    have h := of_un2 h
    refine N_calli (av := [.int (-1 : Int32)]) (rest := []) ⟨hx, hb, hml, hown, hts⟩ hA hK hw (cX12_told_ok l D cI cJ ad n S2 (-1 : Int32) hq19) (cwV 1 hts gX12_load_X12_told rfl rfl rfl (by decide +kernel) ⟨Nat.le_of_ble_eq_true rfl, Nat.le_of_ble_eq_true rfl⟩) rfl hl.1 rfl (Nat.le_of_ble_eq_true rfl) dX12_load_19 ⟨Nat.le_refl _, Nat.le_refl _⟩ (fun H locs hw => ?_)
    obtain ⟨rfl, rfl⟩ := of_ret2 h
    exact M_iret hx hb hr hlocks hK hw.1 hw.2.1 hw.2.2 dX12_load_22 ⟨rfl, rfl⟩

def fX12_way (n : Nat × Nat) (S : MS) (a1 : Int32) (a2 : Int32) : Option Int32 :=
  if 0 ≤ a1 then 
    grd (¬ (a1 < 0 ∨ 8 ≤ a1.toNatClampNeg)) (bnd (mA S 45 a1.toNatClampNeg) (fun v20 => if 0 ≤ a2 then 
      grd (¬ (a2 < 0 ∨ 8 ≤ a2.toNatClampNeg)) (bnd (mA S 45 a2.toNatClampNeg) (fun v36 => grd (¬ ((((13 : Int32) * v20) + v36) < 0 ∨ 169 ≤ (((13 : Int32) * v20) + v36).toNatClampNeg)) (bnd (mA S 42 (((13 : Int32) * v20) + v36).toNatClampNeg) (fun v38 => some v38))))
      else grd (¬ ((((13 : Int32) * v20) + (12 : Int32)) < 0 ∨ 169 ≤ (((13 : Int32) * v20) + (12 : Int32)).toNatClampNeg)) (bnd (mA S 42 (((13 : Int32) * v20) + (12 : Int32)).toNatClampNeg) (fun v38 => some v38))))
    else if 0 ≤ a2 then 
      grd (¬ (a2 < 0 ∨ 8 ≤ a2.toNatClampNeg)) (bnd (mA S 45 a2.toNatClampNeg) (fun v36 => grd (¬ ((((13 : Int32) * (12 : Int32)) + v36) < 0 ∨ 169 ≤ (((13 : Int32) * (12 : Int32)) + v36).toNatClampNeg)) (bnd (mA S 42 (((13 : Int32) * (12 : Int32)) + v36).toNatClampNeg) (fun v38 => some v38))))
      else grd (¬ ((((13 : Int32) * (12 : Int32)) + (12 : Int32)) < 0 ∨ 169 ≤ (((13 : Int32) * (12 : Int32)) + (12 : Int32)).toNatClampNeg)) (bnd (mA S 42 (((13 : Int32) * (12 : Int32)) + (12 : Int32)).toNatClampNeg) (fun v38 => some v38))
set_option maxHeartbeats 8000000 in
set_option maxRecDepth 100000 in
theorem cX12_way_ok (l : Launch) (D : va_G) (cI cJ : ClassId) (ad : Nat → Nat) (n : Nat × Nat) (S : MS) (a1 : Int32) (a2 : Int32) {r : Int32} (h : fX12_way n S a1 a2 = some r) : Mi l yX12_way wsX12_way (cRm 0 0 0 0) D cI cJ ad [.int a1, .int a2] S (fun r1 u => r1 = r ∧ u = S) := by
  refine Mi_of (cc := cX12_way) (nL := 3) (ret := (some .int)) (by decide) rfl rfl (Nat.le_of_ble_eq_true rfl) ?_
  intro p e s m args below meth c A hx hb hr hlocks hml hts hown hA hK hP hD hS ls hl
  have hw : mWd D cI cJ ad A s.heap S s.heap [] := ⟨hP, hD, hS⟩
  unfold fX12_way at h
  have hin : ∀ w ∈ wsX120, w ∈ wsX12_way := fun w h => List.mem_cons_of_mem _ (List.mem_append_right _ h)
  have hl : lv_has ls 3 [(0, .ref (ad 0)), (1, .int a1), (2, .int a2)] := hl
  refine lv_aload_n hx hb dX12_way_0 rfl (lv_at hl 0 rfl) ?_
  refine N_get hx hb hts hin hown hK hw 42 (by decide) rfl (index := 101) (by decide +kernel) rfl dX12_way_1 ?_
  refine lv_bipush (v := 13) hx hb dX12_way_4 (by decide) ?_
  refine lv_iload_n hx hb dX12_way_6 rfl (lv_at hl 1 rfl) ?_
  refine lv_if_ge (tgt := 15) hx hb dX12_way_7 (by decide) (fun c7 => ?_) (fun c7 => ?_)
  · have h := of_it h c7
    refine lv_aload_n hx hb dX12_way_15 rfl (lv_at hl 0 rfl) ?_
    refine N_get hx hb hts hin hown hK hw 45 (by decide) rfl (index := 107) (by decide +kernel) rfl dX12_way_16 ?_
    refine lv_iload_n hx hb dX12_way_19 rfl (lv_at hl 1 rfl) ?_
    obtain ⟨hi20, h⟩ := of_grd h
    refine va_iald hx hb hK hw.1 33 0 rfl rfl hi20 dX12_way_20 ?_
    refine lv_topi (fun v20 ev20 => ?_)
    have h := of_bnd h ev20
    refine lv_imul hx hb dX12_way_21 ?_
    refine lv_iload_n hx hb dX12_way_22 rfl (lv_at hl 2 rfl) ?_
    refine lv_if_ge (tgt := 31) hx hb dX12_way_23 (by decide) (fun c23 => ?_) (fun c23 => ?_)
    · have h := of_it h c23
      refine lv_aload_n hx hb dX12_way_31 rfl (lv_at hl 0 rfl) ?_
      refine N_get hx hb hts hin hown hK hw 45 (by decide) rfl (index := 107) (by decide +kernel) rfl dX12_way_32 ?_
      refine lv_iload_n hx hb dX12_way_35 rfl (lv_at hl 2 rfl) ?_
      obtain ⟨hi36, h⟩ := of_grd h
      refine va_iald hx hb hK hw.1 33 0 rfl rfl hi36 dX12_way_36 ?_
      refine lv_topi (fun v36 ev36 => ?_)
      have h := of_bnd h ev36
      refine lv_iadd hx hb dX12_way_37 ?_
      obtain ⟨hi38, h⟩ := of_grd h
      refine va_iald hx hb hK hw.1 31 0 rfl rfl hi38 dX12_way_38 ?_
      refine lv_topi (fun v38 ev38 => ?_)
      have h := of_bnd h ev38
      obtain rfl := Option.some.inj h
      exact M_iret hx hb hr hlocks hK hw.1 hw.2.1 hw.2.2 dX12_way_39 ⟨rfl, rfl⟩
    · have h := of_if h c23
      refine lv_bipush (v := 12) hx hb dX12_way_26 (by decide) ?_
      refine lv_goto (tgt := 37) hx hb dX12_way_28 (by decide) ?_
      refine lv_iadd hx hb dX12_way_37 ?_
      obtain ⟨hi38, h⟩ := of_grd h
      refine va_iald hx hb hK hw.1 31 0 rfl rfl hi38 dX12_way_38 ?_
      refine lv_topi (fun v38 ev38 => ?_)
      have h := of_bnd h ev38
      obtain rfl := Option.some.inj h
      exact M_iret hx hb hr hlocks hK hw.1 hw.2.1 hw.2.2 dX12_way_39 ⟨rfl, rfl⟩
  · have h := of_if h c7
    refine lv_bipush (v := 12) hx hb dX12_way_10 (by decide) ?_
    refine lv_goto (tgt := 21) hx hb dX12_way_12 (by decide) ?_
    refine lv_imul hx hb dX12_way_21 ?_
    refine lv_iload_n hx hb dX12_way_22 rfl (lv_at hl 2 rfl) ?_
    refine lv_if_ge (tgt := 31) hx hb dX12_way_23 (by decide) (fun c23 => ?_) (fun c23 => ?_)
    · have h := of_it h c23
      refine lv_aload_n hx hb dX12_way_31 rfl (lv_at hl 0 rfl) ?_
      refine N_get hx hb hts hin hown hK hw 45 (by decide) rfl (index := 107) (by decide +kernel) rfl dX12_way_32 ?_
      refine lv_iload_n hx hb dX12_way_35 rfl (lv_at hl 2 rfl) ?_
      obtain ⟨hi36, h⟩ := of_grd h
      refine va_iald hx hb hK hw.1 33 0 rfl rfl hi36 dX12_way_36 ?_
      refine lv_topi (fun v36 ev36 => ?_)
      have h := of_bnd h ev36
      refine lv_iadd hx hb dX12_way_37 ?_
      obtain ⟨hi38, h⟩ := of_grd h
      refine va_iald hx hb hK hw.1 31 0 rfl rfl hi38 dX12_way_38 ?_
      refine lv_topi (fun v38 ev38 => ?_)
      have h := of_bnd h ev38
      obtain rfl := Option.some.inj h
      exact M_iret hx hb hr hlocks hK hw.1 hw.2.1 hw.2.2 dX12_way_39 ⟨rfl, rfl⟩
    · have h := of_if h c23
      refine lv_bipush (v := 12) hx hb dX12_way_26 (by decide) ?_
      refine lv_goto (tgt := 37) hx hb dX12_way_28 (by decide) ?_
      refine lv_iadd hx hb dX12_way_37 ?_
      obtain ⟨hi38, h⟩ := of_grd h
      refine va_iald hx hb hK hw.1 31 0 rfl rfl hi38 dX12_way_38 ?_
      refine lv_topi (fun v38 ev38 => ?_)
      have h := of_bnd h ev38
      obtain rfl := Option.some.inj h
      exact M_iret hx hb hr hlocks hK hw.1 hw.2.1 hw.2.2 dX12_way_39 ⟨rfl, rfl⟩

def fX12_stop (n : Nat × Nat) (S : MS) (a1 : Int32) : Option (Int32 × MS) :=
  bnd (sI S 0 (0 : Int32)) (fun S2 => bnd (mI S2 56) (fun v6 => if 0 ≤ v6 then 
    if a1 = (-1 : Int32) then 
      bnd (mI S2 56) (fun v20 => some (v20, S2))
      else bnd (mI S2 56) (fun v30 => bnd (fX12_in a1.toInt64 (0 : Int64) (v30.toInt64 - (1 : Int64))) (fun r36 => if r36 = 0 then 
        some ((-1 : Int32), S2)
        else grd (¬ (a1 < 0 ∨ 16 ≤ a1.toNatClampNeg)) (bnd (mA S2 55 a1.toNatClampNeg) (fun v47 => some (v47, S2)))))
    else some ((-1 : Int32), S2)))
set_option maxHeartbeats 8000000 in
set_option maxRecDepth 100000 in
theorem cX12_stop_ok (l : Launch) (D : va_G) (cI cJ : ClassId) (ad : Nat → Nat) (n : Nat × Nat) (S : MS) (a1 : Int32) {r : Int32} {T : MS} (h : fX12_stop n S a1 = some (r, T)) : Mi l yX12_stop wsX12_stop (cRm 1 25 0 0) D cI cJ ad [.int a1] S (fun r1 u => r1 = r ∧ u = T) := by
  refine Mi_of (cc := cX12_stop) (nL := 2) (ret := (some .int)) (by decide) rfl rfl (Nat.le_of_ble_eq_true rfl) ?_
  intro p e s m args below meth c A hx hb hr hlocks hml hts hown hA hK hP hD hS ls hl
  have hw : mWd D cI cJ ad A s.heap S s.heap [] := ⟨hP, hD, hS⟩
  unfold fX12_stop at h
  have hin : ∀ w ∈ wsX120, w ∈ wsX12_stop := fun w h => List.mem_cons_of_mem _ (List.mem_append_right _ h)
  have hl : lv_has ls 2 [(0, .ref (ad 0)), (1, .int a1)] := hl
  refine lv_aload_n hx hb dX12_stop_0 rfl (lv_at hl 0 rfl) ?_
  refine lv_iconst (v := 0) hx hb dX12_stop_1 (by decide) ?_
  refine N_put hx hb hts hin hown hK hw 0 (by decide) rfl rfl (index := 156) (by decide +kernel) (ty := .int) (by decide +kernel) rfl rfl (pI_0 cI cJ ad S _) dX12_stop_2 (fun S2 H locs eS2 hw => ?_)
  have h := of_bnd h eS2
  refine lv_aload_n hx hb dX12_stop_5 rfl (lv_at hl 0 rfl) ?_
  refine N_get hx hb hts hin hown hK hw 56 (by decide) rfl (index := 137) (by decide +kernel) rfl dX12_stop_6 ?_
  refine lv_topi (fun v6 ev6 => ?_)
  have h := of_bnd h ev6
  refine lv_if_ge (tgt := 14) hx hb dX12_stop_9 (by decide) (fun c9 => ?_) (fun c9 => ?_)
  · have h := of_it h c9
    refine lv_iload_n hx hb dX12_stop_14 rfl (lv_at hl 1 rfl) ?_
    refine lv_iconst (v := -1) hx hb dX12_stop_15 (by decide) ?_
    refine lv_icmp_ne (tgt := 26) hx hb dX12_stop_16 (by decide) (fun c16 => ?_) (fun c16 => ?_)
    · have h := of_if h c16
      refine lv_iload_n hx hb dX12_stop_26 rfl (lv_at hl 1 rfl) ?_
      refine lv_i2l hx hb dX12_stop_27 rfl ?_
      refine lv_lconst (v := 0) hx hb dX12_stop_28 (by decide) ?_
      refine lv_aload_n hx hb dX12_stop_29 rfl (lv_at hl 0 rfl) ?_
      refine N_get hx hb hts hin hown hK hw 56 (by decide) rfl (index := 137) (by decide +kernel) rfl dX12_stop_30 ?_
      refine lv_topi (fun v30 ev30 => ?_)
      have h := of_bnd h ev30
      refine lv_i2l hx hb dX12_stop_33 rfl ?_
      refine lv_lconst (v := 1) hx hb dX12_stop_34 (by decide) ?_
      refine lv_lsub hx hb dX12_stop_35 ?_
      refine C_s (va_runS (As := [.long a1.toInt64, .long (0 : Int64), .long (v30.toInt64 - (1 : Int64))]) (rest := []) ⟨hx, hb, hml, hown, hts⟩ (cX12_in_ok l a1.toInt64 (0 : Int64) (v30.toInt64 - (1 : Int64))) (va_cwS 3 hts gX12_stop_X12_in rfl rfl rfl (by decide +kernel) ⟨Nat.le_of_ble_eq_true rfl, Nat.le_of_ble_eq_true rfl⟩) ⟨fun a U g mk q => ⟨q.1, trivial⟩, fun U hU hW => ⟨rfl, trivial⟩⟩ rfl rfl hl.1 rfl (lv_room (Nat.le_of_ble_eq_true rfl)) dX12_stop_36 ⟨Nat.le_refl _, Nat.le_refl _⟩) (fun r36 er36 => ?_)
      have h := of_bnd h er36
      refine lv_if_eq (tgt := 51) hx hb dX12_stop_39 (by decide) (fun c39 => ?_) (fun c39 => ?_)
      · have h := of_it h c39
        refine lv_iconst (v := -1) hx hb dX12_stop_51 (by decide) ?_
        obtain ⟨rfl, rfl⟩ := of_ret2 h
        exact M_iret hx hb hr hlocks hK hw.1 hw.2.1 hw.2.2 dX12_stop_52 ⟨rfl, rfl⟩
      · have h := of_if h c39
        refine lv_aload_n hx hb dX12_stop_42 rfl (lv_at hl 0 rfl) ?_
        refine N_get hx hb hts hin hown hK hw 55 (by decide) rfl (index := 134) (by decide +kernel) rfl dX12_stop_43 ?_
        refine lv_iload_n hx hb dX12_stop_46 rfl (lv_at hl 1 rfl) ?_
        obtain ⟨hi47, h⟩ := of_grd h
        refine va_iald hx hb hK hw.1 42 0 rfl rfl hi47 dX12_stop_47 ?_
        refine lv_topi (fun v47 ev47 => ?_)
        have h := of_bnd h ev47
        refine lv_goto (tgt := 52) hx hb dX12_stop_48 (by decide) ?_
        obtain ⟨rfl, rfl⟩ := of_ret2 h
        exact M_iret hx hb hr hlocks hK hw.1 hw.2.1 hw.2.2 dX12_stop_52 ⟨rfl, rfl⟩
    · have h := of_it h c16
      refine lv_aload_n hx hb dX12_stop_19 rfl (lv_at hl 0 rfl) ?_
      refine N_get hx hb hts hin hown hK hw 56 (by decide) rfl (index := 137) (by decide +kernel) rfl dX12_stop_20 ?_
      refine lv_topi (fun v20 ev20 => ?_)
      have h := of_bnd h ev20
      refine lv_goto (tgt := 52) hx hb dX12_stop_23 (by decide) ?_
      obtain ⟨rfl, rfl⟩ := of_ret2 h
      exact M_iret hx hb hr hlocks hK hw.1 hw.2.1 hw.2.2 dX12_stop_52 ⟨rfl, rfl⟩
  · have h := of_if h c9
    refine lv_iconst (v := -1) hx hb dX12_stop_12 (by decide) ?_
    obtain ⟨rfl, rfl⟩ := of_ret2 h
    exact M_iret hx hb hr hlocks hK hw.1 hw.2.1 hw.2.2 dX12_stop_13 ⟨rfl, rfl⟩

def fX12_four_lp3 (n : Nat × Nat) (f1 : Int32) : Nat → Int32 → MS → Option (MS)
  | 0, _, _ => none
  | k + 1, l2, S =>
    if l2 < 0 then 
        some S
        else bnd (mI S 58) (fun v12 => grd (¬ (v12 < 0 ∨ 400 ≤ v12.toNatClampNeg)) (bnd (sA S 57 (upd (mA S 57) v12.toNatClampNeg ((f1 >>> (l2 &&& 31)) &&& (255 : Int32)))) (fun S22 => bnd (mI S22 58) (fun v25 => bnd (sI S22 58 (v25 + (1 : Int32))) (fun S30 => bnd (l2 + -8) (fun x33 => fX12_four_lp3 n f1 k x33 S30))))))
def fX12_four (n : Nat × Nat) (S : MS) (a1 : Int32) : Option (MS) :=
  bnd (24 : Int32) (fun x2 => cal (fX12_four_lp3 n a1 n.1 x2 S) (fun S3 => some S3))
set_option maxHeartbeats 8000000 in
set_option maxRecDepth 100000 in
theorem cX12_four_ok (l : Launch) (D : va_G) (cI cJ : ClassId) (ad : Nat → Nat) (n : Nat × Nat) (S : MS) (a1 : Int32) {T : MS} (h : fX12_four n S a1 = some T) : Mv l yX12_four wsX12_four (cRm 0 0 0 0) D cI cJ ad [.int a1] S (fun u => u = T) := by
  refine Mv_of (cc := cX12_four) (nL := 3) (ret := none) (by decide) rfl rfl (Nat.le_of_ble_eq_true rfl) ?_
  intro p e s m args below meth c A hx hb hr hlocks hml hts hown hA hK hP hD hS ls hl
  have hw : mWd D cI cJ ad A s.heap S s.heap [] := ⟨hP, hD, hS⟩
  unfold fX12_four at h
  have hin : ∀ w ∈ wsX120, w ∈ wsX12_four := fun w h => List.mem_cons_of_mem _ (List.mem_append_right _ h)
  have hl : lv_has ls 3 [(0, .ref (ad 0)), (1, .int a1)] := hl
  refine lv_bipush (v := 24) hx hb dX12_four_0 (by decide) ?_
  refine lv_topi (fun x2 ex2 => ?_)
  have h := of_bnd h ex2
  refine lv_istore_n (lv' := [(2, .int x2), (0, .ref (ad 0)), (1, .int a1)]) hx hb dX12_four_2 rfl hl (by decide) rfl (fun ls hl => ?_)
  have lp3 : ∀ (f1 : Int32) (k : Nat) (l2 : Int32) (S : MS) (q : MS) , fX12_four_lp3 n f1 k l2 S = some q → ∀ (H : Heap) (locs : List Loc), mWd D cI cJ ad A s.heap S H locs → ∀ ls : Array Slot, lv_has ls 3 [(0, .ref (ad 0)), (1, .int f1), (2, .int l2)] → (∀  (S1 : MS), S1 = q → ∀ (H : Heap) (locs : List Loc), mWd D cI cJ ad A s.heap S1 H locs → ∀ ls : Array Slot, lv_has ls 3 [] → W p l e (cRm 0 0 0 0) s m args below meth c H locs (0) (0) (MQ below (va_Qv (fun u => u = T) (mAft D cI cJ ad A) A) args s 0 0 A) (F0 m 39 ls [])) → W p l e (cRm 0 0 0 0) s m args below meth c H locs (0) (0) (MQ below (va_Qv (fun u => u = T) (mAft D cI cJ ad A) A) args s 0 0 A) (F0 m 3 ls []) := by
    intro f1 k
    induction k with
    | zero => intro l2 S q h; rw [fX12_four_lp3] at h; cases h
    | succ k ih3 =>
      intro l2 S q h H locs hw ls hl kx3_0
      rw [fX12_four_lp3] at h
      refine lv_iload_n hx hb dX12_four_3 rfl (lv_at hl 2 rfl) ?_
      refine lv_if_lt (tgt := 39) hx hb dX12_four_4 (by decide) (fun c4 => ?_) (fun c4 => ?_)
      · have h := of_it h c4
        exact kx3_0 S (Option.some.inj h) _ _ hw ls (lv_sub hl [] rfl)
      · have h := of_if h c4
        refine lv_aload_n hx hb dX12_four_7 rfl (lv_at hl 0 rfl) ?_
        refine N_get hx hb hts hin hown hK hw 57 (by decide) rfl (index := 141) (by decide +kernel) rfl dX12_four_8 ?_
        refine lv_aload_n hx hb dX12_four_11 rfl (lv_at hl 0 rfl) ?_
        refine N_get hx hb hts hin hown hK hw 58 (by decide) rfl (index := 291) (by decide +kernel) rfl dX12_four_12 ?_
        refine lv_topi (fun v12 ev12 => ?_)
        have h := of_bnd h ev12
        refine lv_iload_n hx hb dX12_four_15 rfl (lv_at hl 1 rfl) ?_
        refine lv_iload_n hx hb dX12_four_16 rfl (lv_at hl 2 rfl) ?_
        refine lv_ishr hx hb dX12_four_17 ?_
        refine lv_sipush (v := 255) hx hb dX12_four_18 (by decide) ?_
        refine lv_iand hx hb dX12_four_21 ?_
        obtain ⟨hi22, h⟩ := of_grd h
        refine N_iast hx hb hK hw 43 rfl hi22 (pA_57 cI cJ ad S _) dX12_four_22 (fun S22 H locs eS22 hw => ?_)
        have h := of_bnd h eS22
        refine lv_aload_n hx hb dX12_four_23 rfl (lv_at hl 0 rfl) ?_
        refine lv_dup hx hb dX12_four_24 rfl ?_
        refine N_get hx hb hts hin hown hK hw 58 (by decide) rfl (index := 291) (by decide +kernel) rfl dX12_four_25 ?_
        refine lv_topi (fun v25 ev25 => ?_)
        have h := of_bnd h ev25
        refine lv_iconst (v := 1) hx hb dX12_four_28 (by decide) ?_
        refine lv_iadd hx hb dX12_four_29 ?_
        refine N_put hx hb hts hin hown hK hw 58 (by decide) rfl rfl (index := 291) (by decide +kernel) (ty := .int) (by decide +kernel) rfl rfl (pI_58 cI cJ ad S22 _) dX12_four_30 (fun S30 H locs eS30 hw => ?_)
        have h := of_bnd h eS30
        obtain ⟨x33, ex33⟩ : ∃ y : Int32, y = l2 + -8 := ⟨_, rfl⟩
        have h := of_bnd h ex33
        refine lv_iinc (v := x33) (lv' := [(2, .int x33), (0, .ref (ad 0)), (1, .int f1)]) hx hb dX12_four_33 hl (k := 2) rfl (by rw [ex33]; rfl) (by decide) rfl (fun ls hl => ?_)
        refine lv_goto (tgt := 3) hx hb dX12_four_36 (by decide) ?_
        exact ih3 x33 S30 _ h _ _ hw ls (lv_sub hl [1, 2, 0] rfl) kx3_0
  obtain ⟨q3, hq3, h⟩ := of_cal h
  refine lp3 a1 n.1 x2 S q3  hq3 _ _ hw ls (lv_sub hl [1, 2, 0] rfl) ?_
  · intro S3 eq H locs hw ls hl
    subst eq
    obtain rfl := Option.some.inj h
    exact M_vret hx hb hr hlocks hK hw.1 hw.2.1 hw.2.2 dX12_four_39 rfl

def fX12_feed (n : Nat × Nat) (S : MS) (a1 : Int32) (a2 : Int32) (a3 : Int32) (a4 : Int32) (a5 : Int32) : Option (Int32 × MS) :=
  bnd (sI S 0 (0 : Int32)) (fun S2 => bnd (mI S2 58) (fun v6 => if (v6 + (20 : Int32)) ≤ (400 : Int32) then 
    cal (fX12_four n S2 a1) (fun S22 => cal (fX12_four n S22 a2) (fun S27 => cal (fX12_four n S27 a3) (fun S32 => cal (fX12_four n S32 a4) (fun S38 => cal (fX12_four n S38 a5) (fun S44 => bnd (mI S44 58) (fun v48 => some (v48, S44)))))))
    else some ((-1 : Int32), S2)))
set_option maxHeartbeats 8000000 in
set_option maxRecDepth 100000 in
theorem cX12_feed_ok (l : Launch) (D : va_G) (cI cJ : ClassId) (ad : Nat → Nat) (n : Nat × Nat) (S : MS) (a1 : Int32) (a2 : Int32) (a3 : Int32) (a4 : Int32) (a5 : Int32) {r : Int32} {T : MS} (h : fX12_feed n S a1 a2 a3 a4 a5 = some (r, T)) : Mi l yX12_feed wsX12_feed (cRm 1 22 0 0) D cI cJ ad [.int a1, .int a2, .int a3, .int a4, .int a5] S (fun r1 u => r1 = r ∧ u = T) := by
  refine Mi_of (cc := cX12_feed) (nL := 6) (ret := (some .int)) (by decide) rfl rfl (Nat.le_of_ble_eq_true rfl) ?_
  intro p e s m args below meth c A hx hb hr hlocks hml hts hown hA hK hP hD hS ls hl
  have hw : mWd D cI cJ ad A s.heap S s.heap [] := ⟨hP, hD, hS⟩
  unfold fX12_feed at h
  have hin : ∀ w ∈ wsX120, w ∈ wsX12_feed := fun w h => List.mem_cons_of_mem _ (List.mem_append_right _ h)
  have hl : lv_has ls 6 [(0, .ref (ad 0)), (1, .int a1), (2, .int a2), (3, .int a3), (4, .int a4), (5, .int a5)] := hl
  refine lv_aload_n hx hb dX12_feed_0 rfl (lv_at hl 0 rfl) ?_
  refine lv_iconst (v := 0) hx hb dX12_feed_1 (by decide) ?_
  refine N_put hx hb hts hin hown hK hw 0 (by decide) rfl rfl (index := 156) (by decide +kernel) (ty := .int) (by decide +kernel) rfl rfl (pI_0 cI cJ ad S _) dX12_feed_2 (fun S2 H locs eS2 hw => ?_)
  have h := of_bnd h eS2
  refine lv_aload_n hx hb dX12_feed_5 rfl (lv_at hl 0 rfl) ?_
  refine N_get hx hb hts hin hown hK hw 58 (by decide) rfl (index := 291) (by decide +kernel) rfl dX12_feed_6 ?_
  refine lv_topi (fun v6 ev6 => ?_)
  have h := of_bnd h ev6
  refine lv_bipush (v := 20) hx hb dX12_feed_9 (by decide) ?_
  refine lv_iadd hx hb dX12_feed_11 ?_
  refine lv_sipush (v := 400) hx hb dX12_feed_12 (by decide) ?_
  refine lv_icmp_le (tgt := 20) hx hb dX12_feed_15 (by decide) (fun c15 => ?_) (fun c15 => ?_)
  · have h := of_it h c15
    refine lv_aload_n hx hb dX12_feed_20 rfl (lv_at hl 0 rfl) ?_
    refine lv_iload_n hx hb dX12_feed_21 rfl (lv_at hl 1 rfl) ?_
    obtain ⟨q22, hq22, h⟩ := of_cal h
    obtain ⟨S22, eS22⟩ : ∃ x, x = q22 := ⟨_, rfl⟩
    subst eS22
    refine N_callv (av := [.int a1]) (rest := []) ⟨hx, hb, hml, hown, hts⟩ hA hK hw (cX12_four_ok l D cI cJ ad n S2 a1 hq22) (cwV 1 hts gX12_feed_X12_four rfl rfl rfl (by decide +kernel) ⟨Nat.le_of_ble_eq_true rfl, Nat.le_of_ble_eq_true rfl⟩) rfl hl.1 rfl (Nat.le_of_ble_eq_true rfl) dX12_feed_22 ⟨Nat.le_refl _, Nat.le_refl _⟩ (fun H locs hw => ?_)
    refine lv_aload_n hx hb dX12_feed_25 rfl (lv_at hl 0 rfl) ?_
    refine lv_iload_n hx hb dX12_feed_26 rfl (lv_at hl 2 rfl) ?_
    obtain ⟨q27, hq27, h⟩ := of_cal h
    obtain ⟨S27, eS27⟩ : ∃ x, x = q27 := ⟨_, rfl⟩
    subst eS27
    refine N_callv (av := [.int a2]) (rest := []) ⟨hx, hb, hml, hown, hts⟩ hA hK hw (cX12_four_ok l D cI cJ ad n S22 a2 hq27) (cwV 1 hts gX12_feed_X12_four rfl rfl rfl (by decide +kernel) ⟨Nat.le_of_ble_eq_true rfl, Nat.le_of_ble_eq_true rfl⟩) rfl hl.1 rfl (Nat.le_of_ble_eq_true rfl) dX12_feed_27 ⟨Nat.le_refl _, Nat.le_refl _⟩ (fun H locs hw => ?_)
    refine lv_aload_n hx hb dX12_feed_30 rfl (lv_at hl 0 rfl) ?_
    refine lv_iload_n hx hb dX12_feed_31 rfl (lv_at hl 3 rfl) ?_
    obtain ⟨q32, hq32, h⟩ := of_cal h
    obtain ⟨S32, eS32⟩ : ∃ x, x = q32 := ⟨_, rfl⟩
    subst eS32
    refine N_callv (av := [.int a3]) (rest := []) ⟨hx, hb, hml, hown, hts⟩ hA hK hw (cX12_four_ok l D cI cJ ad n S27 a3 hq32) (cwV 1 hts gX12_feed_X12_four rfl rfl rfl (by decide +kernel) ⟨Nat.le_of_ble_eq_true rfl, Nat.le_of_ble_eq_true rfl⟩) rfl hl.1 rfl (Nat.le_of_ble_eq_true rfl) dX12_feed_32 ⟨Nat.le_refl _, Nat.le_refl _⟩ (fun H locs hw => ?_)
    refine lv_aload_n hx hb dX12_feed_35 rfl (lv_at hl 0 rfl) ?_
    refine lv_iload hx hb dX12_feed_36 (lv_at hl 4 rfl) ?_
    obtain ⟨q38, hq38, h⟩ := of_cal h
    obtain ⟨S38, eS38⟩ : ∃ x, x = q38 := ⟨_, rfl⟩
    subst eS38
    refine N_callv (av := [.int a4]) (rest := []) ⟨hx, hb, hml, hown, hts⟩ hA hK hw (cX12_four_ok l D cI cJ ad n S32 a4 hq38) (cwV 1 hts gX12_feed_X12_four rfl rfl rfl (by decide +kernel) ⟨Nat.le_of_ble_eq_true rfl, Nat.le_of_ble_eq_true rfl⟩) rfl hl.1 rfl (Nat.le_of_ble_eq_true rfl) dX12_feed_38 ⟨Nat.le_refl _, Nat.le_refl _⟩ (fun H locs hw => ?_)
    refine lv_aload_n hx hb dX12_feed_41 rfl (lv_at hl 0 rfl) ?_
    refine lv_iload hx hb dX12_feed_42 (lv_at hl 5 rfl) ?_
    obtain ⟨q44, hq44, h⟩ := of_cal h
    obtain ⟨S44, eS44⟩ : ∃ x, x = q44 := ⟨_, rfl⟩
    subst eS44
    refine N_callv (av := [.int a5]) (rest := []) ⟨hx, hb, hml, hown, hts⟩ hA hK hw (cX12_four_ok l D cI cJ ad n S38 a5 hq44) (cwV 1 hts gX12_feed_X12_four rfl rfl rfl (by decide +kernel) ⟨Nat.le_of_ble_eq_true rfl, Nat.le_of_ble_eq_true rfl⟩) rfl hl.1 rfl (Nat.le_of_ble_eq_true rfl) dX12_feed_44 ⟨Nat.le_refl _, Nat.le_refl _⟩ (fun H locs hw => ?_)
    refine lv_aload_n hx hb dX12_feed_47 rfl (lv_at hl 0 rfl) ?_
    refine N_get hx hb hts hin hown hK hw 58 (by decide) rfl (index := 291) (by decide +kernel) rfl dX12_feed_48 ?_
    refine lv_topi (fun v48 ev48 => ?_)
    have h := of_bnd h ev48
    obtain ⟨rfl, rfl⟩ := of_ret2 h
    exact M_iret hx hb hr hlocks hK hw.1 hw.2.1 hw.2.2 dX12_feed_51 ⟨rfl, rfl⟩
  · have h := of_if h c15
    refine lv_iconst (v := -1) hx hb dX12_feed_18 (by decide) ?_
    obtain ⟨rfl, rfl⟩ := of_ret2 h
    exact M_iret hx hb hr hlocks hK hw.1 hw.2.1 hw.2.2 dX12_feed_19 ⟨rfl, rfl⟩

def fX12_end (n : Nat × Nat) (S : MS) (a1 : Int32) : Option (Int32 × MS) :=
  bnd (sI S 0 (0 : Int32)) (fun S2 => if a1 < 0 then 
    some ((-1 : Int32), S2)
    else bnd (mI S2 58) (fun v11 => if a1 ≤ v11 then 
      bnd (sI S2 58 a1) (fun S21 => some (a1, S21))
      else some ((-1 : Int32), S2)))
set_option maxHeartbeats 8000000 in
set_option maxRecDepth 100000 in
theorem cX12_end_ok (l : Launch) (D : va_G) (cI cJ : ClassId) (ad : Nat → Nat) (n : Nat × Nat) (S : MS) (a1 : Int32) {r : Int32} {T : MS} (h : fX12_end n S a1 = some (r, T)) : Mi l yX12_end wsX12_end (cRm 0 0 0 0) D cI cJ ad [.int a1] S (fun r1 u => r1 = r ∧ u = T) := by
  refine Mi_of (cc := cX12_end) (nL := 2) (ret := (some .int)) (by decide) rfl rfl (Nat.le_of_ble_eq_true rfl) ?_
  intro p e s m args below meth c A hx hb hr hlocks hml hts hown hA hK hP hD hS ls hl
  have hw : mWd D cI cJ ad A s.heap S s.heap [] := ⟨hP, hD, hS⟩
  unfold fX12_end at h
  have hin : ∀ w ∈ wsX120, w ∈ wsX12_end := fun w h => List.mem_cons_of_mem _ (List.mem_append_right _ h)
  have hl : lv_has ls 2 [(0, .ref (ad 0)), (1, .int a1)] := hl
  refine lv_aload_n hx hb dX12_end_0 rfl (lv_at hl 0 rfl) ?_
  refine lv_iconst (v := 0) hx hb dX12_end_1 (by decide) ?_
  refine N_put hx hb hts hin hown hK hw 0 (by decide) rfl rfl (index := 156) (by decide +kernel) (ty := .int) (by decide +kernel) rfl rfl (pI_0 cI cJ ad S _) dX12_end_2 (fun S2 H locs eS2 hw => ?_)
  have h := of_bnd h eS2
  refine lv_iload_n hx hb dX12_end_5 rfl (lv_at hl 1 rfl) ?_
  refine lv_if_lt (tgt := 17) hx hb dX12_end_6 (by decide) (fun c6 => ?_) (fun c6 => ?_)
  · have h := of_it h c6
    refine lv_iconst (v := -1) hx hb dX12_end_17 (by decide) ?_
    obtain ⟨rfl, rfl⟩ := of_ret2 h
    exact M_iret hx hb hr hlocks hK hw.1 hw.2.1 hw.2.2 dX12_end_18 ⟨rfl, rfl⟩
  · have h := of_if h c6
    refine lv_iload_n hx hb dX12_end_9 rfl (lv_at hl 1 rfl) ?_
    refine lv_aload_n hx hb dX12_end_10 rfl (lv_at hl 0 rfl) ?_
    refine N_get hx hb hts hin hown hK hw 58 (by decide) rfl (index := 291) (by decide +kernel) rfl dX12_end_11 ?_
    refine lv_topi (fun v11 ev11 => ?_)
    have h := of_bnd h ev11
    refine lv_icmp_le (tgt := 19) hx hb dX12_end_14 (by decide) (fun c14 => ?_) (fun c14 => ?_)
    · have h := of_it h c14
      refine lv_aload_n hx hb dX12_end_19 rfl (lv_at hl 0 rfl) ?_
      refine lv_iload_n hx hb dX12_end_20 rfl (lv_at hl 1 rfl) ?_
      refine N_put hx hb hts hin hown hK hw 58 (by decide) rfl rfl (index := 291) (by decide +kernel) (ty := .int) (by decide +kernel) rfl rfl (pI_58 cI cJ ad S2 _) dX12_end_21 (fun S21 H locs eS21 hw => ?_)
      have h := of_bnd h eS21
      refine lv_iload_n hx hb dX12_end_24 rfl (lv_at hl 1 rfl) ?_
      obtain ⟨rfl, rfl⟩ := of_ret2 h
      exact M_iret hx hb hr hlocks hK hw.1 hw.2.1 hw.2.2 dX12_end_25 ⟨rfl, rfl⟩
    · have h := of_if h c14
      refine lv_iconst (v := -1) hx hb dX12_end_17 (by decide) ?_
      obtain ⟨rfl, rfl⟩ := of_ret2 h
      exact M_iret hx hb hr hlocks hK hw.1 hw.2.1 hw.2.2 dX12_end_18 ⟨rfl, rfl⟩

def fX12_fault (n : Nat × Nat) (S : MS)  : Option (Int32 × MS) :=
  bnd (sI S 0 (0 : Int32)) (fun S2 => bnd (mI S2 63) (fun v6 => some (v6, S2)))
set_option maxHeartbeats 8000000 in
set_option maxRecDepth 100000 in
theorem cX12_fault_ok (l : Launch) (D : va_G) (cI cJ : ClassId) (ad : Nat → Nat) (n : Nat × Nat) (S : MS)  {r : Int32} {T : MS} (h : fX12_fault n S  = some (r, T)) : Mi l yX12_fault wsX12_fault (cRm 0 0 0 0) D cI cJ ad [] S (fun r1 u => r1 = r ∧ u = T) := by
  refine Mi_of (cc := cX12_fault) (nL := 1) (ret := (some .int)) (by decide) rfl rfl (Nat.le_of_ble_eq_true rfl) ?_
  intro p e s m args below meth c A hx hb hr hlocks hml hts hown hA hK hP hD hS ls hl
  have hw : mWd D cI cJ ad A s.heap S s.heap [] := ⟨hP, hD, hS⟩
  unfold fX12_fault at h
  have hin : ∀ w ∈ wsX120, w ∈ wsX12_fault := fun w h => List.mem_cons_of_mem _ (List.mem_append_right _ h)
  have hl : lv_has ls 1 [(0, .ref (ad 0))] := hl
  refine lv_aload_n hx hb dX12_fault_0 rfl (lv_at hl 0 rfl) ?_
  refine lv_iconst (v := 0) hx hb dX12_fault_1 (by decide) ?_
  refine N_put hx hb hts hin hown hK hw 0 (by decide) rfl rfl (index := 156) (by decide +kernel) (ty := .int) (by decide +kernel) rfl rfl (pI_0 cI cJ ad S _) dX12_fault_2 (fun S2 H locs eS2 hw => ?_)
  have h := of_bnd h eS2
  refine lv_aload_n hx hb dX12_fault_5 rfl (lv_at hl 0 rfl) ?_
  refine N_get hx hb hts hin hown hK hw 63 (by decide) rfl (index := 144) (by decide +kernel) rfl dX12_fault_6 ?_
  refine lv_topi (fun v6 ev6 => ?_)
  have h := of_bnd h ev6
  obtain ⟨rfl, rfl⟩ := of_ret2 h
  exact M_iret hx hb hr hlocks hK hw.1 hw.2.1 hw.2.2 dX12_fault_9 ⟨rfl, rfl⟩

def fX12_weigh (n : Nat × Nat) (S : MS) (a1 : Int32) (a2 : Int32) (a3 : Int32) : Option (Int32 × MS) :=
  bnd (sI S 0 (0 : Int32)) (fun S2 => bnd (fX12_in a2.toInt64 (0 : Int64) (1000000 : Int64)) (fun r11 => if r11 = 0 then 
    cal (fX12_told n S2 (-1 : Int32)) (un2 fun r31 S31 => some (r31, S31))
    else bnd (fX12_in a3.toInt64 (0 : Int64) (100000 : Int64)) (fun r23 => if r23 = 0 then 
      cal (fX12_told n S2 (-1 : Int32)) (un2 fun r31 S31 => some (r31, S31))
      else cal (fX12_isLot n S2 a1) (fun q37 => if q37 = 0 then 
        cal (fX12_told n S2 (-2 : Int32)) (un2 fun r46 S46 => some (r46, S46))
        else bnd (mI S2 65) (fun v51 => if v51 = (100 : Int32) then 
          cal (fX12_told n S2 (-5 : Int32)) (un2 fun r62 S62 => some (r62, S62))
          else bnd (mI S2 65) (fun v71 => grd (¬ (v71 < 0 ∨ 100 ≤ v71.toNatClampNeg)) (bnd (sA S2 66 (upd (mA S2 66) v71.toNatClampNeg a1)) (fun S75 => bnd (mI S75 65) (fun v81 => grd (¬ (v81 < 0 ∨ 100 ≤ v81.toNatClampNeg)) (bnd (sA S75 67 (upd (mA S75 67) v81.toNatClampNeg a2)) (fun S85 => bnd (mI S85 65) (fun v91 => grd (¬ (v91 < 0 ∨ 100 ≤ v91.toNatClampNeg)) (bnd (sA S85 68 (upd (mA S85 68) v91.toNatClampNeg a3)) (fun S95 => bnd (mI S95 65) (fun v98 => bnd (sI S95 65 (v98 + (1 : Int32))) (fun S103 => bnd (mI S103 65) (fun v108 => cal (fX12_told n S103 v108) (un2 fun r111 S111 => some (r111, S111)))))))))))))))))))
set_option maxHeartbeats 8000000 in
set_option maxRecDepth 100000 in
theorem cX12_weigh_ok (l : Launch) (D : va_G) (cI cJ : ClassId) (ad : Nat → Nat) (n : Nat × Nat) (S : MS) (a1 : Int32) (a2 : Int32) (a3 : Int32) {r : Int32} {T : MS} (h : fX12_weigh n S a1 a2 a3 = some (r, T)) : Mi l yX12_weigh wsX12_weigh (cRm 2 46 0 0) D cI cJ ad [.int a1, .int a2, .int a3] S (fun r1 u => r1 = r ∧ u = T) := by
  refine Mi_of (cc := cX12_weigh) (nL := 4) (ret := (some .int)) (by decide) rfl rfl (Nat.le_of_ble_eq_true rfl) ?_
  intro p e s m args below meth c A hx hb hr hlocks hml hts hown hA hK hP hD hS ls hl
  have hw : mWd D cI cJ ad A s.heap S s.heap [] := ⟨hP, hD, hS⟩
  unfold fX12_weigh at h
  have hin : ∀ w ∈ wsX120, w ∈ wsX12_weigh := fun w h => List.mem_cons_of_mem _ (List.mem_append_right _ h)
  have hl : lv_has ls 4 [(0, .ref (ad 0)), (1, .int a1), (2, .int a2), (3, .int a3)] := hl
  refine lv_aload_n hx hb dX12_weigh_0 rfl (lv_at hl 0 rfl) ?_
  refine lv_iconst (v := 0) hx hb dX12_weigh_1 (by decide) ?_
  refine N_put hx hb hts hin hown hK hw 0 (by decide) rfl rfl (index := 156) (by decide +kernel) (ty := .int) (by decide +kernel) rfl rfl (pI_0 cI cJ ad S _) dX12_weigh_2 (fun S2 H locs eS2 hw => ?_)
  have h := of_bnd h eS2
  refine lv_iload_n hx hb dX12_weigh_5 rfl (lv_at hl 2 rfl) ?_
  refine lv_i2l hx hb dX12_weigh_6 rfl ?_
  refine lv_lconst (v := 0) hx hb dX12_weigh_7 (by decide) ?_
  refine lv_ldc2 (v := 1000000) hx hb hown (hts (.constantLong RX12 187 (1000000)) (by decide +kernel)) dX12_weigh_8 ?_
  refine C_s (va_runS (As := [.long a2.toInt64, .long (0 : Int64), .long (1000000 : Int64)]) (rest := []) ⟨hx, hb, hml, hown, hts⟩ (cX12_in_ok l a2.toInt64 (0 : Int64) (1000000 : Int64)) (va_cwS 3 hts gX12_weigh_X12_in rfl rfl rfl (by decide +kernel) ⟨Nat.le_of_ble_eq_true rfl, Nat.le_of_ble_eq_true rfl⟩) ⟨fun a U g mk q => ⟨q.1, trivial⟩, fun U hU hW => ⟨rfl, trivial⟩⟩ rfl rfl hl.1 rfl (lv_room (Nat.le_of_ble_eq_true rfl)) dX12_weigh_11 ⟨Nat.le_refl _, Nat.le_refl _⟩) (fun r11 er11 => ?_)
  have h := of_bnd h er11
  refine lv_if_eq (tgt := 29) hx hb dX12_weigh_14 (by decide) (fun c14 => ?_) (fun c14 => ?_)
  · have h := of_it h c14
    refine lv_aload_n hx hb dX12_weigh_29 rfl (lv_at hl 0 rfl) ?_
    refine lv_iconst (v := -1) hx hb dX12_weigh_30 (by decide) ?_
    obtain ⟨q31, hq31, h⟩ := of_cal h
    obtain ⟨r31, S31⟩ := q31
    have h := of_un2 h
    refine N_calli (av := [.int (-1 : Int32)]) (rest := []) ⟨hx, hb, hml, hown, hts⟩ hA hK hw (cX12_told_ok l D cI cJ ad n S2 (-1 : Int32) hq31) (cwV 1 hts gX12_weigh_X12_told rfl rfl rfl (by decide +kernel) ⟨Nat.le_of_ble_eq_true rfl, Nat.le_of_ble_eq_true rfl⟩) rfl hl.1 rfl (Nat.le_of_ble_eq_true rfl) dX12_weigh_31 ⟨Nat.le_refl _, Nat.le_refl _⟩ (fun H locs hw => ?_)
    obtain ⟨rfl, rfl⟩ := of_ret2 h
    exact M_iret hx hb hr hlocks hK hw.1 hw.2.1 hw.2.2 dX12_weigh_34 ⟨rfl, rfl⟩
  · have h := of_if h c14
    refine lv_iload_n hx hb dX12_weigh_17 rfl (lv_at hl 3 rfl) ?_
    refine lv_i2l hx hb dX12_weigh_18 rfl ?_
    refine lv_lconst (v := 0) hx hb dX12_weigh_19 (by decide) ?_
    refine lv_ldc2 (v := 100000) hx hb hown (hts (.constantLong RX12 349 (100000)) (by decide +kernel)) dX12_weigh_20 ?_
    refine C_s (va_runS (As := [.long a3.toInt64, .long (0 : Int64), .long (100000 : Int64)]) (rest := []) ⟨hx, hb, hml, hown, hts⟩ (cX12_in_ok l a3.toInt64 (0 : Int64) (100000 : Int64)) (va_cwS 3 hts gX12_weigh_X12_in rfl rfl rfl (by decide +kernel) ⟨Nat.le_of_ble_eq_true rfl, Nat.le_of_ble_eq_true rfl⟩) ⟨fun a U g mk q => ⟨q.1, trivial⟩, fun U hU hW => ⟨rfl, trivial⟩⟩ rfl rfl hl.1 rfl (lv_room (Nat.le_of_ble_eq_true rfl)) dX12_weigh_23 ⟨Nat.le_refl _, Nat.le_refl _⟩) (fun r23 er23 => ?_)
    have h := of_bnd h er23
    refine lv_if_ne (tgt := 35) hx hb dX12_weigh_26 (by decide) (fun c26 => ?_) (fun c26 => ?_)
    · have h := of_if h c26
      refine lv_aload_n hx hb dX12_weigh_35 rfl (lv_at hl 0 rfl) ?_
      refine lv_iload_n hx hb dX12_weigh_36 rfl (lv_at hl 1 rfl) ?_
      obtain ⟨q37, hq37, h⟩ := of_cal h
      refine N_calli (av := [.int a1]) (rest := []) ⟨hx, hb, hml, hown, hts⟩ hA hK hw (cX12_isLot_ok l D cI cJ ad n S2 a1 hq37) (cwV 1 hts gX12_weigh_X12_isLot rfl rfl rfl (by decide +kernel) ⟨Nat.le_of_ble_eq_true rfl, Nat.le_of_ble_eq_true rfl⟩) rfl hl.1 rfl (Nat.le_of_ble_eq_true rfl) dX12_weigh_37 ⟨Nat.le_refl _, Nat.le_refl _⟩ (fun H locs hw => ?_)
      refine lv_if_ne (tgt := 50) hx hb dX12_weigh_40 (by decide) (fun c40 => ?_) (fun c40 => ?_)
      · have h := of_if h c40
        refine lv_aload_n hx hb dX12_weigh_50 rfl (lv_at hl 0 rfl) ?_
        refine N_get hx hb hts hin hown hK hw 65 (by decide) rfl (index := 356) (by decide +kernel) rfl dX12_weigh_51 ?_
        refine lv_topi (fun v51 ev51 => ?_)
        have h := of_bnd h ev51
        refine lv_bipush (v := 100) hx hb dX12_weigh_54 (by decide) ?_
        refine lv_icmp_ne (tgt := 66) hx hb dX12_weigh_56 (by decide) (fun c56 => ?_) (fun c56 => ?_)
        · have h := of_if h c56
          refine lv_aload_n hx hb dX12_weigh_66 rfl (lv_at hl 0 rfl) ?_
          refine N_get hx hb hts hin hown hK hw 66 (by decide) rfl (index := 147) (by decide +kernel) rfl dX12_weigh_67 ?_
          refine lv_aload_n hx hb dX12_weigh_70 rfl (lv_at hl 0 rfl) ?_
          refine N_get hx hb hts hin hown hK hw 65 (by decide) rfl (index := 356) (by decide +kernel) rfl dX12_weigh_71 ?_
          refine lv_topi (fun v71 ev71 => ?_)
          have h := of_bnd h ev71
          refine lv_iload_n hx hb dX12_weigh_74 rfl (lv_at hl 1 rfl) ?_
          obtain ⟨hi75, h⟩ := of_grd h
          refine N_iast hx hb hK hw 44 rfl hi75 (pA_66 cI cJ ad S2 _) dX12_weigh_75 (fun S75 H locs eS75 hw => ?_)
          have h := of_bnd h eS75
          refine lv_aload_n hx hb dX12_weigh_76 rfl (lv_at hl 0 rfl) ?_
          refine N_get hx hb hts hin hown hK hw 67 (by decide) rfl (index := 150) (by decide +kernel) rfl dX12_weigh_77 ?_
          refine lv_aload_n hx hb dX12_weigh_80 rfl (lv_at hl 0 rfl) ?_
          refine N_get hx hb hts hin hown hK hw 65 (by decide) rfl (index := 356) (by decide +kernel) rfl dX12_weigh_81 ?_
          refine lv_topi (fun v81 ev81 => ?_)
          have h := of_bnd h ev81
          refine lv_iload_n hx hb dX12_weigh_84 rfl (lv_at hl 2 rfl) ?_
          obtain ⟨hi85, h⟩ := of_grd h
          refine N_iast hx hb hK hw 45 rfl hi85 (pA_67 cI cJ ad S75 _) dX12_weigh_85 (fun S85 H locs eS85 hw => ?_)
          have h := of_bnd h eS85
          refine lv_aload_n hx hb dX12_weigh_86 rfl (lv_at hl 0 rfl) ?_
          refine N_get hx hb hts hin hown hK hw 68 (by decide) rfl (index := 153) (by decide +kernel) rfl dX12_weigh_87 ?_
          refine lv_aload_n hx hb dX12_weigh_90 rfl (lv_at hl 0 rfl) ?_
          refine N_get hx hb hts hin hown hK hw 65 (by decide) rfl (index := 356) (by decide +kernel) rfl dX12_weigh_91 ?_
          refine lv_topi (fun v91 ev91 => ?_)
          have h := of_bnd h ev91
          refine lv_iload_n hx hb dX12_weigh_94 rfl (lv_at hl 3 rfl) ?_
          obtain ⟨hi95, h⟩ := of_grd h
          refine N_iast hx hb hK hw 46 rfl hi95 (pA_68 cI cJ ad S85 _) dX12_weigh_95 (fun S95 H locs eS95 hw => ?_)
          have h := of_bnd h eS95
          refine lv_aload_n hx hb dX12_weigh_96 rfl (lv_at hl 0 rfl) ?_
          refine lv_dup hx hb dX12_weigh_97 rfl ?_
          refine N_get hx hb hts hin hown hK hw 65 (by decide) rfl (index := 356) (by decide +kernel) rfl dX12_weigh_98 ?_
          refine lv_topi (fun v98 ev98 => ?_)
          have h := of_bnd h ev98
          refine lv_iconst (v := 1) hx hb dX12_weigh_101 (by decide) ?_
          refine lv_iadd hx hb dX12_weigh_102 ?_
          refine N_put hx hb hts hin hown hK hw 65 (by decide) rfl rfl (index := 356) (by decide +kernel) (ty := .int) (by decide +kernel) rfl rfl (pI_65 cI cJ ad S95 _) dX12_weigh_103 (fun S103 H locs eS103 hw => ?_)
          have h := of_bnd h eS103
          refine lv_aload_n hx hb dX12_weigh_106 rfl (lv_at hl 0 rfl) ?_
          refine lv_aload_n hx hb dX12_weigh_107 rfl (lv_at hl 0 rfl) ?_
          refine N_get hx hb hts hin hown hK hw 65 (by decide) rfl (index := 356) (by decide +kernel) rfl dX12_weigh_108 ?_
          refine lv_topi (fun v108 ev108 => ?_)
          have h := of_bnd h ev108
          obtain ⟨q111, hq111, h⟩ := of_cal h
          obtain ⟨r111, S111⟩ := q111
          have h := of_un2 h
          refine N_calli (av := [.int v108]) (rest := []) ⟨hx, hb, hml, hown, hts⟩ hA hK hw (cX12_told_ok l D cI cJ ad n S103 v108 hq111) (cwV 1 hts gX12_weigh_X12_told rfl rfl rfl (by decide +kernel) ⟨Nat.le_of_ble_eq_true rfl, Nat.le_of_ble_eq_true rfl⟩) rfl hl.1 rfl (Nat.le_of_ble_eq_true rfl) dX12_weigh_111 ⟨Nat.le_refl _, Nat.le_refl _⟩ (fun H locs hw => ?_)
          obtain ⟨rfl, rfl⟩ := of_ret2 h
          exact M_iret hx hb hr hlocks hK hw.1 hw.2.1 hw.2.2 dX12_weigh_114 ⟨rfl, rfl⟩
        · have h := of_it h c56
          refine lv_aload_n hx hb dX12_weigh_59 rfl (lv_at hl 0 rfl) ?_
          refine lv_bipush (v := -5) hx hb dX12_weigh_60 (by decide) ?_
          obtain ⟨q62, hq62, h⟩ := of_cal h
          obtain ⟨r62, S62⟩ := q62
          have h := of_un2 h
          refine N_calli (av := [.int (-5 : Int32)]) (rest := []) ⟨hx, hb, hml, hown, hts⟩ hA hK hw (cX12_told_ok l D cI cJ ad n S2 (-5 : Int32) hq62) (cwV 1 hts gX12_weigh_X12_told rfl rfl rfl (by decide +kernel) ⟨Nat.le_of_ble_eq_true rfl, Nat.le_of_ble_eq_true rfl⟩) rfl hl.1 rfl (Nat.le_of_ble_eq_true rfl) dX12_weigh_62 ⟨Nat.le_refl _, Nat.le_refl _⟩ (fun H locs hw => ?_)
          obtain ⟨rfl, rfl⟩ := of_ret2 h
          exact M_iret hx hb hr hlocks hK hw.1 hw.2.1 hw.2.2 dX12_weigh_65 ⟨rfl, rfl⟩
      · have h := of_it h c40
        refine lv_aload_n hx hb dX12_weigh_43 rfl (lv_at hl 0 rfl) ?_
        refine lv_bipush (v := -2) hx hb dX12_weigh_44 (by decide) ?_
        obtain ⟨q46, hq46, h⟩ := of_cal h
        obtain ⟨r46, S46⟩ := q46
        have h := of_un2 h
        refine N_calli (av := [.int (-2 : Int32)]) (rest := []) ⟨hx, hb, hml, hown, hts⟩ hA hK hw (cX12_told_ok l D cI cJ ad n S2 (-2 : Int32) hq46) (cwV 1 hts gX12_weigh_X12_told rfl rfl rfl (by decide +kernel) ⟨Nat.le_of_ble_eq_true rfl, Nat.le_of_ble_eq_true rfl⟩) rfl hl.1 rfl (Nat.le_of_ble_eq_true rfl) dX12_weigh_46 ⟨Nat.le_refl _, Nat.le_refl _⟩ (fun H locs hw => ?_)
        obtain ⟨rfl, rfl⟩ := of_ret2 h
        exact M_iret hx hb hr hlocks hK hw.1 hw.2.1 hw.2.2 dX12_weigh_49 ⟨rfl, rfl⟩
    · have h := of_it h c26
      refine lv_aload_n hx hb dX12_weigh_29 rfl (lv_at hl 0 rfl) ?_
      refine lv_iconst (v := -1) hx hb dX12_weigh_30 (by decide) ?_
      obtain ⟨q31, hq31, h⟩ := of_cal h
      obtain ⟨r31, S31⟩ := q31
      have h := of_un2 h
      refine N_calli (av := [.int (-1 : Int32)]) (rest := []) ⟨hx, hb, hml, hown, hts⟩ hA hK hw (cX12_told_ok l D cI cJ ad n S2 (-1 : Int32) hq31) (cwV 1 hts gX12_weigh_X12_told rfl rfl rfl (by decide +kernel) ⟨Nat.le_of_ble_eq_true rfl, Nat.le_of_ble_eq_true rfl⟩) rfl hl.1 rfl (Nat.le_of_ble_eq_true rfl) dX12_weigh_31 ⟨Nat.le_refl _, Nat.le_refl _⟩ (fun H locs hw => ?_)
      obtain ⟨rfl, rfl⟩ := of_ret2 h
      exact M_iret hx hb hr hlocks hK hw.1 hw.2.1 hw.2.2 dX12_weigh_34 ⟨rfl, rfl⟩

def fX12_given_lp59 (n : Nat × Nat) (S : MS) (f2 : Int32) (f5 : Int32) : Nat → Int32 → Int32 → Option (Int32)
  | 0, _, _ => none
  | k + 1, l6, l7 =>
    bnd (mI S 65) (fun v62 => if v62 ≤ l7 then 
                  some l6
                  else grd (¬ (l7 < 0 ∨ 100 ≤ l7.toNatClampNeg)) (bnd (mA S 66 l7.toNatClampNeg) (fun v74 => if v74 = f5 then 
                    grd (¬ (l7 < 0 ∨ 100 ≤ l7.toNatClampNeg)) (bnd (mA S 68 l7.toNatClampNeg) (fun v86 => if f2 < v86 then 
                      bnd (l7 + 1) (fun x105 => fX12_given_lp59 n S f2 f5 k l6 x105 )
                      else grd (¬ (l7 < 0 ∨ 100 ≤ l7.toNatClampNeg)) (bnd (mA S 67 l7.toNatClampNeg) (fun v97 => bnd (l7 + 1) (fun x105 => fX12_given_lp59 n S f2 f5 k v97 x105 )))))
                    else bnd (l7 + 1) (fun x105 => fX12_given_lp59 n S f2 f5 k l6 x105 ))))
def fX12_given_lp38 (n : Nat × Nat) (S : MS) (f1 : Int32) (f2 : Int32) : Nat → Int64 → Int32 → Option (Int64)
  | 0, _, _ => none
  | k + 1, l3, l5 =>
    bnd (mI S 4) (fun v41 => if v41 ≤ l5 then 
            some l3
            else grd (¬ (l5 < 0 ∨ 200 ≤ l5.toNatClampNeg)) (bnd (mA S 6 l5.toNatClampNeg) (fun v53 => bnd (0 : Int32) (fun x57 => cal (fX12_given_lp59 n S f2 l5 n.1 v53 x57 ) (fun t6_59 => grd (¬ (l5 < 0 ∨ 200 ≤ l5.toNatClampNeg)) (bnd (mA S 8 l5.toNatClampNeg) (fun v118 => if v118 = f1 then 
                bnd (l3 + t6_59.toInt64) (fun x131 => bnd (l5 + 1) (fun x132 => fX12_given_lp38 n S f1 f2 k x131 x132 ))
                else bnd (l3 + (0 : Int64)) (fun x131 => bnd (l5 + 1) (fun x132 => fX12_given_lp38 n S f1 f2 k x131 x132 )))))))))
def fX12_given (n : Nat × Nat) (S : MS) (a1 : Int32) (a2 : Int32) : Option (Int64 × MS) :=
  bnd (sI S 0 (0 : Int32)) (fun S2 => bnd (fX12_in a1.toInt64 (0 : Int64) (19 : Int64)) (fun r11 => if r11 = 0 then 
    some ((-1 : Int64), S2)
    else bnd (fX12_in a2.toInt64 (0 : Int64) (100000 : Int64)) (fun r23 => if r23 = 0 then 
      some ((-1 : Int64), S2)
      else bnd (0 : Int64) (fun x34 => bnd (0 : Int32) (fun x36 => cal (fX12_given_lp38 n S2 a1 a2 n.1 x34 x36 ) (fun t3_38 => some (t3_38, S2)))))))
set_option maxHeartbeats 8000000 in
set_option maxRecDepth 100000 in
theorem cX12_given_ok (l : Launch) (D : va_G) (cI cJ : ClassId) (ad : Nat → Nat) (n : Nat × Nat) (S : MS) (a1 : Int32) (a2 : Int32) {r : Int64} {T : MS} (h : fX12_given n S a1 a2 = some (r, T)) : Ml l yX12_given wsX12_given (cRm 1 25 0 0) D cI cJ ad [.int a1, .int a2] S (fun r1 u => r1 = r ∧ u = T) := by
  refine Ml_of (cc := cX12_given) (nL := 8) (ret := (some .long)) (by decide) rfl rfl (Nat.le_of_ble_eq_true rfl) ?_
  intro p e s m args below meth c A hx hb hr hlocks hml hts hown hA hK hP hD hS ls hl
  have hw : mWd D cI cJ ad A s.heap S s.heap [] := ⟨hP, hD, hS⟩
  unfold fX12_given at h
  have hin : ∀ w ∈ wsX120, w ∈ wsX12_given := fun w h => List.mem_cons_of_mem _ (List.mem_append_right _ h)
  have hl : lv_has ls 8 [(0, .ref (ad 0)), (1, .int a1), (2, .int a2)] := hl
  refine lv_aload_n hx hb dX12_given_0 rfl (lv_at hl 0 rfl) ?_
  refine lv_iconst (v := 0) hx hb dX12_given_1 (by decide) ?_
  refine N_put hx hb hts hin hown hK hw 0 (by decide) rfl rfl (index := 156) (by decide +kernel) (ty := .int) (by decide +kernel) rfl rfl (pI_0 cI cJ ad S _) dX12_given_2 (fun S2 H locs eS2 hw => ?_)
  have h := of_bnd h eS2
  refine lv_iload_n hx hb dX12_given_5 rfl (lv_at hl 1 rfl) ?_
  refine lv_i2l hx hb dX12_given_6 rfl ?_
  refine lv_lconst (v := 0) hx hb dX12_given_7 (by decide) ?_
  refine lv_ldc2 (v := 19) hx hb hown (hts (.constantLong RX12 194 (19)) (by decide +kernel)) dX12_given_8 ?_
  refine C_s (va_runS (As := [.long a1.toInt64, .long (0 : Int64), .long (19 : Int64)]) (rest := []) ⟨hx, hb, hml, hown, hts⟩ (cX12_in_ok l a1.toInt64 (0 : Int64) (19 : Int64)) (va_cwS 3 hts gX12_given_X12_in rfl rfl rfl (by decide +kernel) ⟨Nat.le_of_ble_eq_true rfl, Nat.le_of_ble_eq_true rfl⟩) ⟨fun a U g mk q => ⟨q.1, trivial⟩, fun U hU hW => ⟨rfl, trivial⟩⟩ rfl rfl hl.1 rfl (lv_room (Nat.le_of_ble_eq_true rfl)) dX12_given_11 ⟨Nat.le_refl _, Nat.le_refl _⟩) (fun r11 er11 => ?_)
  have h := of_bnd h er11
  refine lv_if_eq (tgt := 29) hx hb dX12_given_14 (by decide) (fun c14 => ?_) (fun c14 => ?_)
  · have h := of_it h c14
    refine lv_ldc2 (v := -1) hx hb hown (hts (.constantLong RX12 319 (-1)) (by decide +kernel)) dX12_given_29 ?_
    obtain ⟨rfl, rfl⟩ := of_ret2 h
    exact M_lret hx hb hr hlocks hK hw.1 hw.2.1 hw.2.2 dX12_given_32 ⟨rfl, rfl⟩
  · have h := of_if h c14
    refine lv_iload_n hx hb dX12_given_17 rfl (lv_at hl 2 rfl) ?_
    refine lv_i2l hx hb dX12_given_18 rfl ?_
    refine lv_lconst (v := 0) hx hb dX12_given_19 (by decide) ?_
    refine lv_ldc2 (v := 100000) hx hb hown (hts (.constantLong RX12 349 (100000)) (by decide +kernel)) dX12_given_20 ?_
    refine C_s (va_runS (As := [.long a2.toInt64, .long (0 : Int64), .long (100000 : Int64)]) (rest := []) ⟨hx, hb, hml, hown, hts⟩ (cX12_in_ok l a2.toInt64 (0 : Int64) (100000 : Int64)) (va_cwS 3 hts gX12_given_X12_in rfl rfl rfl (by decide +kernel) ⟨Nat.le_of_ble_eq_true rfl, Nat.le_of_ble_eq_true rfl⟩) ⟨fun a U g mk q => ⟨q.1, trivial⟩, fun U hU hW => ⟨rfl, trivial⟩⟩ rfl rfl hl.1 rfl (lv_room (Nat.le_of_ble_eq_true rfl)) dX12_given_23 ⟨Nat.le_refl _, Nat.le_refl _⟩) (fun r23 er23 => ?_)
    have h := of_bnd h er23
    refine lv_if_ne (tgt := 33) hx hb dX12_given_26 (by decide) (fun c26 => ?_) (fun c26 => ?_)
    · have h := of_if h c26
      refine lv_lconst (v := 0) hx hb dX12_given_33 (by decide) ?_
      refine lv_topl (fun x34 ex34 => ?_)
      have h := of_bnd h ex34
      refine lv_lstore_n (lv' := [(3, .long x34), (0, .ref (ad 0)), (1, .int a1), (2, .int a2)]) hx hb dX12_given_34 rfl hl (by decide) rfl (fun ls hl => ?_)
      refine lv_iconst (v := 0) hx hb dX12_given_35 (by decide) ?_
      refine lv_topi (fun x36 ex36 => ?_)
      have h := of_bnd h ex36
      refine lv_istore (lv' := [(5, .int x36), (3, .long x34), (0, .ref (ad 0)), (1, .int a1), (2, .int a2)]) hx hb dX12_given_36 hl (by decide) rfl (fun ls hl => ?_)
      have lp38 : ∀ (f1 : Int32) (f2 : Int32) (S : MS) (k : Nat) (l3 : Int64) (l5 : Int32) (q : Int64) , fX12_given_lp38 n S f1 f2 k l3 l5  = some q → ∀ (H : Heap) (locs : List Loc), mWd D cI cJ ad A s.heap S H locs → ∀ ls : Array Slot, lv_has ls 8 [(0, .ref (ad 0)), (1, .int f1), (2, .int f2), (3, .long l3), (5, .int l5)] → (∀ (t3 : Int64), t3 = q → ∀ (H : Heap) (locs : List Loc), mWd D cI cJ ad A s.heap S H locs → ∀ ls : Array Slot, lv_has ls 8 [(3, .long t3)] → W p l e (cRm 1 25 0 0) s m args below meth c H locs (0) (0) (MQ below (va_Ql (fun x u => x = r ∧ u = T) (mAft D cI cJ ad A) A) args s 0 0 A) (F0 m 138 ls [])) → W p l e (cRm 1 25 0 0) s m args below meth c H locs (0) (0) (MQ below (va_Ql (fun x u => x = r ∧ u = T) (mAft D cI cJ ad A) A) args s 0 0 A) (F0 m 38 ls []) := by
        intro f1 f2 S k
        induction k with
        | zero => intro l3 l5 q h; rw [fX12_given_lp38] at h; cases h
        | succ k ih38 =>
          intro l3 l5 q h H locs hw ls hl kx38_0
          rw [fX12_given_lp38] at h
          refine lv_iload hx hb dX12_given_38 (lv_at hl 4 rfl) ?_
          refine lv_aload_n hx hb dX12_given_40 rfl (lv_at hl 0 rfl) ?_
          refine N_get hx hb hts hin hown hK hw 4 (by decide) rfl (index := 168) (by decide +kernel) rfl dX12_given_41 ?_
          refine lv_topi (fun v41 ev41 => ?_)
          have h := of_bnd h ev41
          refine lv_icmp_ge (tgt := 138) hx hb dX12_given_44 (by decide) (fun c44 => ?_) (fun c44 => ?_)
          · have h := of_it h c44
            exact kx38_0 l3 (Option.some.inj h) _ _ hw ls (lv_sub hl [3] rfl)
          · have h := of_if h c44
            refine lv_aload_n hx hb dX12_given_47 rfl (lv_at hl 0 rfl) ?_
            refine N_get hx hb hts hin hown hK hw 6 (by decide) rfl (index := 16) (by decide +kernel) rfl dX12_given_48 ?_
            refine lv_iload hx hb dX12_given_51 (lv_at hl 4 rfl) ?_
            obtain ⟨hi53, h⟩ := of_grd h
            refine va_iald hx hb hK hw.1 3 0 rfl rfl hi53 dX12_given_53 ?_
            refine lv_topi (fun v53 ev53 => ?_)
            have h := of_bnd h ev53
            refine lv_istore (lv' := [(6, .int v53), (0, .ref (ad 0)), (1, .int f1), (2, .int f2), (3, .long l3), (5, .int l5)]) hx hb dX12_given_54 hl (by decide) rfl (fun ls hl => ?_)
            refine lv_iconst (v := 0) hx hb dX12_given_56 (by decide) ?_
            refine lv_topi (fun x57 ex57 => ?_)
            have h := of_bnd h ex57
            refine lv_istore (lv' := [(7, .int x57), (6, .int v53), (0, .ref (ad 0)), (1, .int f1), (2, .int f2), (3, .long l3), (5, .int l5)]) hx hb dX12_given_57 hl (by decide) rfl (fun ls hl => ?_)
            have lp59 : ∀ (f1 : Int32) (f2 : Int32) (f3 : Int64) (f5 : Int32) (S : MS) (k : Nat) (l6 : Int32) (l7 : Int32) (q : Int32) , fX12_given_lp59 n S f2 f5 k l6 l7  = some q → ∀ (H : Heap) (locs : List Loc), mWd D cI cJ ad A s.heap S H locs → ∀ ls : Array Slot, lv_has ls 8 [(0, .ref (ad 0)), (1, .int f1), (2, .int f2), (3, .long f3), (5, .int f5), (6, .int l6), (7, .int l7)] → (∀ (t6 : Int32), t6 = q → ∀ (H : Heap) (locs : List Loc), mWd D cI cJ ad A s.heap S H locs → ∀ ls : Array Slot, lv_has ls 8 [(0, .ref (ad 0)), (1, .int f1), (2, .int f2), (3, .long f3), (5, .int f5), (6, .int t6)] → W p l e (cRm 1 25 0 0) s m args below meth c H locs (0) (0) (MQ below (va_Ql (fun x u => x = r ∧ u = T) (mAft D cI cJ ad A) A) args s 0 0 A) (F0 m 111 ls [])) → W p l e (cRm 1 25 0 0) s m args below meth c H locs (0) (0) (MQ below (va_Ql (fun x u => x = r ∧ u = T) (mAft D cI cJ ad A) A) args s 0 0 A) (F0 m 59 ls []) := by
              intro f1 f2 f3 f5 S k
              induction k with
              | zero => intro l6 l7 q h; rw [fX12_given_lp59] at h; cases h
              | succ k ih59 =>
                intro l6 l7 q h H locs hw ls hl kx59_0
                rw [fX12_given_lp59] at h
                refine lv_iload hx hb dX12_given_59 (lv_at hl 6 rfl) ?_
                refine lv_aload_n hx hb dX12_given_61 rfl (lv_at hl 0 rfl) ?_
                refine N_get hx hb hts hin hown hK hw 65 (by decide) rfl (index := 356) (by decide +kernel) rfl dX12_given_62 ?_
                refine lv_topi (fun v62 ev62 => ?_)
                have h := of_bnd h ev62
                refine lv_icmp_ge (tgt := 111) hx hb dX12_given_65 (by decide) (fun c65 => ?_) (fun c65 => ?_)
                · have h := of_it h c65
                  exact kx59_0 l6 (Option.some.inj h) _ _ hw ls (lv_sub hl [0, 1, 2, 3, 4, 5] rfl)
                · have h := of_if h c65
                  refine lv_aload_n hx hb dX12_given_68 rfl (lv_at hl 0 rfl) ?_
                  refine N_get hx hb hts hin hown hK hw 66 (by decide) rfl (index := 147) (by decide +kernel) rfl dX12_given_69 ?_
                  refine lv_iload hx hb dX12_given_72 (lv_at hl 6 rfl) ?_
                  obtain ⟨hi74, h⟩ := of_grd h
                  refine va_iald hx hb hK hw.1 44 0 rfl rfl hi74 dX12_given_74 ?_
                  refine lv_topi (fun v74 ev74 => ?_)
                  have h := of_bnd h ev74
                  refine lv_iload hx hb dX12_given_75 (lv_at hl 4 rfl) ?_
                  refine lv_icmp_ne (tgt := 101) hx hb dX12_given_77 (by decide) (fun c77 => ?_) (fun c77 => ?_)
                  · have h := of_if h c77
                    refine lv_iload hx hb dX12_given_101 (lv_at hl 5 rfl) ?_
                    refine lv_istore (lv' := [(6, .int l6), (0, .ref (ad 0)), (1, .int f1), (2, .int f2), (3, .long f3), (5, .int f5), (7, .int l7)]) hx hb dX12_given_103 hl (by decide) rfl (fun ls hl => ?_)
                    obtain ⟨x105, ex105⟩ : ∃ y : Int32, y = l7 + 1 := ⟨_, rfl⟩
                    have h := of_bnd h ex105
                    refine lv_iinc (v := x105) (lv' := [(7, .int x105), (6, .int l6), (0, .ref (ad 0)), (1, .int f1), (2, .int f2), (3, .long f3), (5, .int f5)]) hx hb dX12_given_105 hl (k := 6) rfl (by rw [ex105]; rfl) (by decide) rfl (fun ls hl => ?_)
                    refine lv_goto (tgt := 59) hx hb dX12_given_108 (by decide) ?_
                    exact ih59 l6 x105 _ h _ _ hw ls (lv_sub hl [2, 3, 4, 5, 6, 1, 0] rfl) kx59_0
                  · have h := of_it h c77
                    refine lv_aload_n hx hb dX12_given_80 rfl (lv_at hl 0 rfl) ?_
                    refine N_get hx hb hts hin hown hK hw 68 (by decide) rfl (index := 153) (by decide +kernel) rfl dX12_given_81 ?_
                    refine lv_iload hx hb dX12_given_84 (lv_at hl 6 rfl) ?_
                    obtain ⟨hi86, h⟩ := of_grd h
                    refine va_iald hx hb hK hw.1 46 0 rfl rfl hi86 dX12_given_86 ?_
                    refine lv_topi (fun v86 ev86 => ?_)
                    have h := of_bnd h ev86
                    refine lv_iload_n hx hb dX12_given_87 rfl (lv_at hl 2 rfl) ?_
                    refine lv_icmp_gt (tgt := 101) hx hb dX12_given_88 (by decide) (fun c88 => ?_) (fun c88 => ?_)
                    · have h := of_it h c88
                      refine lv_iload hx hb dX12_given_101 (lv_at hl 5 rfl) ?_
                      refine lv_istore (lv' := [(6, .int l6), (0, .ref (ad 0)), (1, .int f1), (2, .int f2), (3, .long f3), (5, .int f5), (7, .int l7)]) hx hb dX12_given_103 hl (by decide) rfl (fun ls hl => ?_)
                      obtain ⟨x105, ex105⟩ : ∃ y : Int32, y = l7 + 1 := ⟨_, rfl⟩
                      have h := of_bnd h ex105
                      refine lv_iinc (v := x105) (lv' := [(7, .int x105), (6, .int l6), (0, .ref (ad 0)), (1, .int f1), (2, .int f2), (3, .long f3), (5, .int f5)]) hx hb dX12_given_105 hl (k := 6) rfl (by rw [ex105]; rfl) (by decide) rfl (fun ls hl => ?_)
                      refine lv_goto (tgt := 59) hx hb dX12_given_108 (by decide) ?_
                      exact ih59 l6 x105 _ h _ _ hw ls (lv_sub hl [2, 3, 4, 5, 6, 1, 0] rfl) kx59_0
                    · have h := of_if h c88
                      refine lv_aload_n hx hb dX12_given_91 rfl (lv_at hl 0 rfl) ?_
                      refine N_get hx hb hts hin hown hK hw 67 (by decide) rfl (index := 150) (by decide +kernel) rfl dX12_given_92 ?_
                      refine lv_iload hx hb dX12_given_95 (lv_at hl 6 rfl) ?_
                      obtain ⟨hi97, h⟩ := of_grd h
                      refine va_iald hx hb hK hw.1 45 0 rfl rfl hi97 dX12_given_97 ?_
                      refine lv_topi (fun v97 ev97 => ?_)
                      have h := of_bnd h ev97
                      refine lv_goto (tgt := 103) hx hb dX12_given_98 (by decide) ?_
                      refine lv_istore (lv' := [(6, .int v97), (0, .ref (ad 0)), (1, .int f1), (2, .int f2), (3, .long f3), (5, .int f5), (7, .int l7)]) hx hb dX12_given_103 hl (by decide) rfl (fun ls hl => ?_)
                      obtain ⟨x105, ex105⟩ : ∃ y : Int32, y = l7 + 1 := ⟨_, rfl⟩
                      have h := of_bnd h ex105
                      refine lv_iinc (v := x105) (lv' := [(7, .int x105), (6, .int v97), (0, .ref (ad 0)), (1, .int f1), (2, .int f2), (3, .long f3), (5, .int f5)]) hx hb dX12_given_105 hl (k := 6) rfl (by rw [ex105]; rfl) (by decide) rfl (fun ls hl => ?_)
                      refine lv_goto (tgt := 59) hx hb dX12_given_108 (by decide) ?_
                      exact ih59 v97 x105 _ h _ _ hw ls (lv_sub hl [2, 3, 4, 5, 6, 1, 0] rfl) kx59_0
            obtain ⟨q59, hq59, h⟩ := of_cal h
            refine lp59 f1 f2 l3 l5 S n.1 v53 x57 q59  hq59 _ _ hw ls (lv_sub hl [2, 3, 4, 5, 6, 1, 0] rfl) ?_
            · intro t6_59 eq H locs hw ls hl
              subst eq
              refine lv_lload_n hx hb dX12_given_111 rfl (lv_at hl 3 rfl) ?_
              refine lv_aload_n hx hb dX12_given_112 rfl (lv_at hl 0 rfl) ?_
              refine N_get hx hb hts hin hown hK hw 8 (by decide) rfl (index := 22) (by decide +kernel) rfl dX12_given_113 ?_
              refine lv_iload hx hb dX12_given_116 (lv_at hl 4 rfl) ?_
              obtain ⟨hi118, h⟩ := of_grd h
              refine va_iald hx hb hK hw.1 5 0 rfl rfl hi118 dX12_given_118 ?_
              refine lv_topi (fun v118 ev118 => ?_)
              have h := of_bnd h ev118
              refine lv_iload_n hx hb dX12_given_119 rfl (lv_at hl 1 rfl) ?_
              refine lv_icmp_ne (tgt := 129) hx hb dX12_given_120 (by decide) (fun c120 => ?_) (fun c120 => ?_)
              · have h := of_if h c120
                refine lv_lconst (v := 0) hx hb dX12_given_129 (by decide) ?_
                refine lv_ladd hx hb dX12_given_130 ?_
                refine lv_topl (fun x131 ex131 => ?_)
                have h := of_bnd h ex131
                refine lv_lstore_n (lv' := [(3, .long x131), (0, .ref (ad 0)), (1, .int f1), (2, .int f2), (5, .int l5), (6, .int t6_59)]) hx hb dX12_given_131 rfl hl (by decide) rfl (fun ls hl => ?_)
                obtain ⟨x132, ex132⟩ : ∃ y : Int32, y = l5 + 1 := ⟨_, rfl⟩
                have h := of_bnd h ex132
                refine lv_iinc (v := x132) (lv' := [(5, .int x132), (3, .long x131), (0, .ref (ad 0)), (1, .int f1), (2, .int f2), (6, .int t6_59)]) hx hb dX12_given_132 hl (k := 4) rfl (by rw [ex132]; rfl) (by decide) rfl (fun ls hl => ?_)
                refine lv_goto (tgt := 38) hx hb dX12_given_135 (by decide) ?_
                exact ih38 x131 x132 _ h _ _ hw ls (lv_sub hl [2, 3, 4, 1, 0] rfl) kx38_0
              · have h := of_it h c120
                refine lv_iload hx hb dX12_given_123 (lv_at hl 5 rfl) ?_
                refine lv_i2l hx hb dX12_given_125 rfl ?_
                refine lv_goto (tgt := 130) hx hb dX12_given_126 (by decide) ?_
                refine lv_ladd hx hb dX12_given_130 ?_
                refine lv_topl (fun x131 ex131 => ?_)
                have h := of_bnd h ex131
                refine lv_lstore_n (lv' := [(3, .long x131), (0, .ref (ad 0)), (1, .int f1), (2, .int f2), (5, .int l5), (6, .int t6_59)]) hx hb dX12_given_131 rfl hl (by decide) rfl (fun ls hl => ?_)
                obtain ⟨x132, ex132⟩ : ∃ y : Int32, y = l5 + 1 := ⟨_, rfl⟩
                have h := of_bnd h ex132
                refine lv_iinc (v := x132) (lv' := [(5, .int x132), (3, .long x131), (0, .ref (ad 0)), (1, .int f1), (2, .int f2), (6, .int t6_59)]) hx hb dX12_given_132 hl (k := 4) rfl (by rw [ex132]; rfl) (by decide) rfl (fun ls hl => ?_)
                refine lv_goto (tgt := 38) hx hb dX12_given_135 (by decide) ?_
                exact ih38 x131 x132 _ h _ _ hw ls (lv_sub hl [2, 3, 4, 1, 0] rfl) kx38_0
      obtain ⟨q38, hq38, h⟩ := of_cal h
      refine lp38 a1 a2 S2 n.1 x34 x36 q38  hq38 _ _ hw ls (lv_sub hl [2, 3, 4, 1, 0] rfl) ?_
      · intro t3_38 eq H locs hw ls hl
        subst eq
        refine lv_lload_n hx hb dX12_given_138 rfl (lv_at hl 0 rfl) ?_
        obtain ⟨rfl, rfl⟩ := of_ret2 h
        exact M_lret hx hb hr hlocks hK hw.1 hw.2.1 hw.2.2 dX12_given_139 ⟨rfl, rfl⟩
    · have h := of_it h c26
      refine lv_ldc2 (v := -1) hx hb hown (hts (.constantLong RX12 319 (-1)) (by decide +kernel)) dX12_given_29 ?_
      obtain ⟨rfl, rfl⟩ := of_ret2 h
      exact M_lret hx hb hr hlocks hK hw.1 hw.2.1 hw.2.2 dX12_given_32 ⟨rfl, rfl⟩

def fX12_led_lp52 (n : Nat × Nat) (S : MS) (f1 : Int32) (f2 : Int32) (f5 : Int32) : Nat → Int64 → Int32 → Option (Int64)
  | 0, _, _ => none
  | k + 1, l3, l6 =>
    grd (¬ ((f5 + (1 : Int32)) < 0 ∨ 521 ≤ (f5 + (1 : Int32)).toNatClampNeg)) (bnd (mA S 35 (f5 + (1 : Int32)).toNatClampNeg) (fun v62 => if v62 ≤ l6 then 
                  some l3
                  else grd (¬ (f5 < 0 ∨ 520 ≤ f5.toNatClampNeg)) (bnd (mA S 33 f5.toNatClampNeg) (fun v72 => if v72 = f2 then 
                    grd (¬ (l6 < 0 ∨ 24000 ≤ l6.toNatClampNeg)) (bnd (mA S 38 l6.toNatClampNeg) (fun v88 => grd (¬ (v88 < 0 ∨ 200 ≤ v88.toNatClampNeg)) (bnd (mA S 8 v88.toNatClampNeg) (fun v89 => if v89 = f1 then 
                      grd (¬ (l6 < 0 ∨ 24000 ≤ l6.toNatClampNeg)) (bnd (mA S 39 l6.toNatClampNeg) (fun v100 => bnd (l3 + v100.toInt64) (fun x107 => bnd (l6 + 1) (fun x108 => fX12_led_lp52 n S f1 f2 f5 k x107 x108 ))))
                      else bnd (l3 + (0 : Int64)) (fun x107 => bnd (l6 + 1) (fun x108 => fX12_led_lp52 n S f1 f2 f5 k x107 x108 ))))))
                    else some l3))))
def fX12_led_lp34 (n : Nat × Nat) (S : MS) (f1 : Int32) (f2 : Int32) : Nat → Int64 → Int32 → Option (Int64)
  | 0, _, _ => none
  | k + 1, l3, l5 =>
    bnd (mI S 32) (fun v37 => if v37 ≤ l5 then 
            some l3
            else grd (¬ (l5 < 0 ∨ 521 ≤ l5.toNatClampNeg)) (bnd (mA S 35 l5.toNatClampNeg) (fun v49 => cal (fX12_led_lp52 n S f1 f2 l5 n.1 l3 v49 ) (fun t3_52 => bnd (l5 + 1) (fun x114 => fX12_led_lp34 n S f1 f2 k t3_52 x114 )))))
def fX12_led (n : Nat × Nat) (S : MS) (a1 : Int32) (a2 : Int32) : Option (Int64 × MS) :=
  bnd (sI S 0 (0 : Int32)) (fun S2 => bnd (fX12_in a1.toInt64 (0 : Int64) (19 : Int64)) (fun r11 => if r11 = 0 then 
    some ((-1 : Int64), S2)
    else cal (fX12_isFamily n S2 a2) (fun q19 => if q19 = 0 then 
      some ((-1 : Int64), S2)
      else bnd (0 : Int64) (fun x30 => bnd (0 : Int32) (fun x32 => cal (fX12_led_lp34 n S2 a1 a2 n.1 x30 x32 ) (fun t3_34 => some (t3_34, S2)))))))
set_option maxHeartbeats 8000000 in
set_option maxRecDepth 100000 in
theorem cX12_led_ok (l : Launch) (D : va_G) (cI cJ : ClassId) (ad : Nat → Nat) (n : Nat × Nat) (S : MS) (a1 : Int32) (a2 : Int32) {r : Int64} {T : MS} (h : fX12_led n S a1 a2 = some (r, T)) : Ml l yX12_led wsX12_led (cRm 2 46 0 0) D cI cJ ad [.int a1, .int a2] S (fun r1 u => r1 = r ∧ u = T) := by
  refine Ml_of (cc := cX12_led) (nL := 7) (ret := (some .long)) (by decide) rfl rfl (Nat.le_of_ble_eq_true rfl) ?_
  intro p e s m args below meth c A hx hb hr hlocks hml hts hown hA hK hP hD hS ls hl
  have hw : mWd D cI cJ ad A s.heap S s.heap [] := ⟨hP, hD, hS⟩
  unfold fX12_led at h
  have hin : ∀ w ∈ wsX120, w ∈ wsX12_led := fun w h => List.mem_cons_of_mem _ (List.mem_append_right _ h)
  have hl : lv_has ls 7 [(0, .ref (ad 0)), (1, .int a1), (2, .int a2)] := hl
  refine lv_aload_n hx hb dX12_led_0 rfl (lv_at hl 0 rfl) ?_
  refine lv_iconst (v := 0) hx hb dX12_led_1 (by decide) ?_
  refine N_put hx hb hts hin hown hK hw 0 (by decide) rfl rfl (index := 156) (by decide +kernel) (ty := .int) (by decide +kernel) rfl rfl (pI_0 cI cJ ad S _) dX12_led_2 (fun S2 H locs eS2 hw => ?_)
  have h := of_bnd h eS2
  refine lv_iload_n hx hb dX12_led_5 rfl (lv_at hl 1 rfl) ?_
  refine lv_i2l hx hb dX12_led_6 rfl ?_
  refine lv_lconst (v := 0) hx hb dX12_led_7 (by decide) ?_
  refine lv_ldc2 (v := 19) hx hb hown (hts (.constantLong RX12 194 (19)) (by decide +kernel)) dX12_led_8 ?_
  refine C_s (va_runS (As := [.long a1.toInt64, .long (0 : Int64), .long (19 : Int64)]) (rest := []) ⟨hx, hb, hml, hown, hts⟩ (cX12_in_ok l a1.toInt64 (0 : Int64) (19 : Int64)) (va_cwS 3 hts gX12_led_X12_in rfl rfl rfl (by decide +kernel) ⟨Nat.le_of_ble_eq_true rfl, Nat.le_of_ble_eq_true rfl⟩) ⟨fun a U g mk q => ⟨q.1, trivial⟩, fun U hU hW => ⟨rfl, trivial⟩⟩ rfl rfl hl.1 rfl (lv_room (Nat.le_of_ble_eq_true rfl)) dX12_led_11 ⟨Nat.le_refl _, Nat.le_refl _⟩) (fun r11 er11 => ?_)
  have h := of_bnd h er11
  refine lv_if_eq (tgt := 25) hx hb dX12_led_14 (by decide) (fun c14 => ?_) (fun c14 => ?_)
  · have h := of_it h c14
    refine lv_ldc2 (v := -1) hx hb hown (hts (.constantLong RX12 319 (-1)) (by decide +kernel)) dX12_led_25 ?_
    obtain ⟨rfl, rfl⟩ := of_ret2 h
    exact M_lret hx hb hr hlocks hK hw.1 hw.2.1 hw.2.2 dX12_led_28 ⟨rfl, rfl⟩
  · have h := of_if h c14
    refine lv_aload_n hx hb dX12_led_17 rfl (lv_at hl 0 rfl) ?_
    refine lv_iload_n hx hb dX12_led_18 rfl (lv_at hl 2 rfl) ?_
    obtain ⟨q19, hq19, h⟩ := of_cal h
    refine N_calli (av := [.int a2]) (rest := []) ⟨hx, hb, hml, hown, hts⟩ hA hK hw (cX12_isFamily_ok l D cI cJ ad n S2 a2 hq19) (cwV 1 hts gX12_led_X12_isFamily rfl rfl rfl (by decide +kernel) ⟨Nat.le_of_ble_eq_true rfl, Nat.le_of_ble_eq_true rfl⟩) rfl hl.1 rfl (Nat.le_of_ble_eq_true rfl) dX12_led_19 ⟨Nat.le_refl _, Nat.le_refl _⟩ (fun H locs hw => ?_)
    refine lv_if_ne (tgt := 29) hx hb dX12_led_22 (by decide) (fun c22 => ?_) (fun c22 => ?_)
    · have h := of_if h c22
      refine lv_lconst (v := 0) hx hb dX12_led_29 (by decide) ?_
      refine lv_topl (fun x30 ex30 => ?_)
      have h := of_bnd h ex30
      refine lv_lstore_n (lv' := [(3, .long x30), (0, .ref (ad 0)), (1, .int a1), (2, .int a2)]) hx hb dX12_led_30 rfl hl (by decide) rfl (fun ls hl => ?_)
      refine lv_iconst (v := 0) hx hb dX12_led_31 (by decide) ?_
      refine lv_topi (fun x32 ex32 => ?_)
      have h := of_bnd h ex32
      refine lv_istore (lv' := [(5, .int x32), (3, .long x30), (0, .ref (ad 0)), (1, .int a1), (2, .int a2)]) hx hb dX12_led_32 hl (by decide) rfl (fun ls hl => ?_)
      have lp34 : ∀ (f1 : Int32) (f2 : Int32) (S : MS) (k : Nat) (l3 : Int64) (l5 : Int32) (q : Int64) , fX12_led_lp34 n S f1 f2 k l3 l5  = some q → ∀ (H : Heap) (locs : List Loc), mWd D cI cJ ad A s.heap S H locs → ∀ ls : Array Slot, lv_has ls 7 [(0, .ref (ad 0)), (1, .int f1), (2, .int f2), (3, .long l3), (5, .int l5)] → (∀ (t3 : Int64), t3 = q → ∀ (H : Heap) (locs : List Loc), mWd D cI cJ ad A s.heap S H locs → ∀ ls : Array Slot, lv_has ls 7 [(3, .long t3)] → W p l e (cRm 2 46 0 0) s m args below meth c H locs (0) (0) (MQ below (va_Ql (fun x u => x = r ∧ u = T) (mAft D cI cJ ad A) A) args s 0 0 A) (F0 m 120 ls [])) → W p l e (cRm 2 46 0 0) s m args below meth c H locs (0) (0) (MQ below (va_Ql (fun x u => x = r ∧ u = T) (mAft D cI cJ ad A) A) args s 0 0 A) (F0 m 34 ls []) := by
        intro f1 f2 S k
        induction k with
        | zero => intro l3 l5 q h; rw [fX12_led_lp34] at h; cases h
        | succ k ih34 =>
          intro l3 l5 q h H locs hw ls hl kx34_0
          rw [fX12_led_lp34] at h
          refine lv_iload hx hb dX12_led_34 (lv_at hl 4 rfl) ?_
          refine lv_aload_n hx hb dX12_led_36 rfl (lv_at hl 0 rfl) ?_
          refine N_get hx hb hts hin hown hK hw 32 (by decide) rfl (index := 239) (by decide +kernel) rfl dX12_led_37 ?_
          refine lv_topi (fun v37 ev37 => ?_)
          have h := of_bnd h ev37
          refine lv_icmp_ge (tgt := 120) hx hb dX12_led_40 (by decide) (fun c40 => ?_) (fun c40 => ?_)
          · have h := of_it h c40
            exact kx34_0 l3 (Option.some.inj h) _ _ hw ls (lv_sub hl [3] rfl)
          · have h := of_if h c40
            refine lv_aload_n hx hb dX12_led_43 rfl (lv_at hl 0 rfl) ?_
            refine N_get hx hb hts hin hown hK hw 35 (by decide) rfl (index := 86) (by decide +kernel) rfl dX12_led_44 ?_
            refine lv_iload hx hb dX12_led_47 (lv_at hl 4 rfl) ?_
            obtain ⟨hi49, h⟩ := of_grd h
            refine va_iald hx hb hK hw.1 26 0 rfl rfl hi49 dX12_led_49 ?_
            refine lv_topi (fun v49 ev49 => ?_)
            have h := of_bnd h ev49
            refine lv_istore (lv' := [(6, .int v49), (0, .ref (ad 0)), (1, .int f1), (2, .int f2), (3, .long l3), (5, .int l5)]) hx hb dX12_led_50 hl (by decide) rfl (fun ls hl => ?_)
            have lp52 : ∀ (f1 : Int32) (f2 : Int32) (f5 : Int32) (S : MS) (k : Nat) (l3 : Int64) (l6 : Int32) (q : Int64) , fX12_led_lp52 n S f1 f2 f5 k l3 l6  = some q → ∀ (H : Heap) (locs : List Loc), mWd D cI cJ ad A s.heap S H locs → ∀ ls : Array Slot, lv_has ls 7 [(0, .ref (ad 0)), (1, .int f1), (2, .int f2), (5, .int f5), (3, .long l3), (6, .int l6)] → (∀ (t3 : Int64), t3 = q → ∀ (H : Heap) (locs : List Loc), mWd D cI cJ ad A s.heap S H locs → ∀ ls : Array Slot, lv_has ls 7 [(0, .ref (ad 0)), (1, .int f1), (2, .int f2), (5, .int f5), (3, .long t3)] → W p l e (cRm 2 46 0 0) s m args below meth c H locs (0) (0) (MQ below (va_Ql (fun x u => x = r ∧ u = T) (mAft D cI cJ ad A) A) args s 0 0 A) (F0 m 114 ls [])) → W p l e (cRm 2 46 0 0) s m args below meth c H locs (0) (0) (MQ below (va_Ql (fun x u => x = r ∧ u = T) (mAft D cI cJ ad A) A) args s 0 0 A) (F0 m 52 ls []) := by
              intro f1 f2 f5 S k
              induction k with
              | zero => intro l3 l6 q h; rw [fX12_led_lp52] at h; cases h
              | succ k ih52 =>
                intro l3 l6 q h H locs hw ls hl kx52_0
                rw [fX12_led_lp52] at h
                refine lv_iload hx hb dX12_led_52 (lv_at hl 5 rfl) ?_
                refine lv_aload_n hx hb dX12_led_54 rfl (lv_at hl 0 rfl) ?_
                refine N_get hx hb hts hin hown hK hw 35 (by decide) rfl (index := 86) (by decide +kernel) rfl dX12_led_55 ?_
                refine lv_iload hx hb dX12_led_58 (lv_at hl 3 rfl) ?_
                refine lv_iconst (v := 1) hx hb dX12_led_60 (by decide) ?_
                refine lv_iadd hx hb dX12_led_61 ?_
                obtain ⟨hi62, h⟩ := of_grd h
                refine va_iald hx hb hK hw.1 26 0 rfl rfl hi62 dX12_led_62 ?_
                refine lv_topi (fun v62 ev62 => ?_)
                have h := of_bnd h ev62
                refine lv_icmp_ge (tgt := 114) hx hb dX12_led_63 (by decide) (fun c63 => ?_) (fun c63 => ?_)
                · have h := of_it h c63
                  exact kx52_0 l3 (Option.some.inj h) _ _ hw ls (lv_sub hl [0, 1, 2, 3, 4] rfl)
                · have h := of_if h c63
                  refine lv_aload_n hx hb dX12_led_66 rfl (lv_at hl 0 rfl) ?_
                  refine N_get hx hb hts hin hown hK hw 33 (by decide) rfl (index := 80) (by decide +kernel) rfl dX12_led_67 ?_
                  refine lv_iload hx hb dX12_led_70 (lv_at hl 3 rfl) ?_
                  obtain ⟨hi72, h⟩ := of_grd h
                  refine va_iald hx hb hK hw.1 24 0 rfl rfl hi72 dX12_led_72 ?_
                  refine lv_topi (fun v72 ev72 => ?_)
                  have h := of_bnd h ev72
                  refine lv_iload_n hx hb dX12_led_73 rfl (lv_at hl 2 rfl) ?_
                  refine lv_icmp_ne (tgt := 114) hx hb dX12_led_74 (by decide) (fun c74 => ?_) (fun c74 => ?_)
                  · have h := of_if h c74
                    exact kx52_0 l3 (Option.some.inj h) _ _ hw ls (lv_sub hl [0, 1, 2, 3, 4] rfl)
                  · have h := of_it h c74
                    refine lv_lload_n hx hb dX12_led_77 rfl (lv_at hl 4 rfl) ?_
                    refine lv_aload_n hx hb dX12_led_78 rfl (lv_at hl 0 rfl) ?_
                    refine N_get hx hb hts hin hown hK hw 8 (by decide) rfl (index := 22) (by decide +kernel) rfl dX12_led_79 ?_
                    refine lv_aload_n hx hb dX12_led_82 rfl (lv_at hl 0 rfl) ?_
                    refine N_get hx hb hts hin hown hK hw 38 (by decide) rfl (index := 92) (by decide +kernel) rfl dX12_led_83 ?_
                    refine lv_iload hx hb dX12_led_86 (lv_at hl 5 rfl) ?_
                    obtain ⟨hi88, h⟩ := of_grd h
                    refine va_iald hx hb hK hw.1 28 0 rfl rfl hi88 dX12_led_88 ?_
                    refine lv_topi (fun v88 ev88 => ?_)
                    have h := of_bnd h ev88
                    obtain ⟨hi89, h⟩ := of_grd h
                    refine va_iald hx hb hK hw.1 5 0 rfl rfl hi89 dX12_led_89 ?_
                    refine lv_topi (fun v89 ev89 => ?_)
                    have h := of_bnd h ev89
                    refine lv_iload_n hx hb dX12_led_90 rfl (lv_at hl 1 rfl) ?_
                    refine lv_icmp_ne (tgt := 105) hx hb dX12_led_91 (by decide) (fun c91 => ?_) (fun c91 => ?_)
                    · have h := of_if h c91
                      refine lv_lconst (v := 0) hx hb dX12_led_105 (by decide) ?_
                      refine lv_ladd hx hb dX12_led_106 ?_
                      refine lv_topl (fun x107 ex107 => ?_)
                      have h := of_bnd h ex107
                      refine lv_lstore_n (lv' := [(3, .long x107), (0, .ref (ad 0)), (1, .int f1), (2, .int f2), (5, .int f5), (6, .int l6)]) hx hb dX12_led_107 rfl hl (by decide) rfl (fun ls hl => ?_)
                      obtain ⟨x108, ex108⟩ : ∃ y : Int32, y = l6 + 1 := ⟨_, rfl⟩
                      have h := of_bnd h ex108
                      refine lv_iinc (v := x108) (lv' := [(6, .int x108), (3, .long x107), (0, .ref (ad 0)), (1, .int f1), (2, .int f2), (5, .int f5)]) hx hb dX12_led_108 hl (k := 5) rfl (by rw [ex108]; rfl) (by decide) rfl (fun ls hl => ?_)
                      refine lv_goto (tgt := 52) hx hb dX12_led_111 (by decide) ?_
                      exact ih52 x107 x108 _ h _ _ hw ls (lv_sub hl [2, 3, 4, 5, 1, 0] rfl) kx52_0
                    · have h := of_it h c91
                      refine lv_aload_n hx hb dX12_led_94 rfl (lv_at hl 0 rfl) ?_
                      refine N_get hx hb hts hin hown hK hw 39 (by decide) rfl (index := 95) (by decide +kernel) rfl dX12_led_95 ?_
                      refine lv_iload hx hb dX12_led_98 (lv_at hl 5 rfl) ?_
                      obtain ⟨hi100, h⟩ := of_grd h
                      refine va_iald hx hb hK hw.1 29 0 rfl rfl hi100 dX12_led_100 ?_
                      refine lv_topi (fun v100 ev100 => ?_)
                      have h := of_bnd h ev100
                      refine lv_i2l hx hb dX12_led_101 rfl ?_
                      refine lv_goto (tgt := 106) hx hb dX12_led_102 (by decide) ?_
                      refine lv_ladd hx hb dX12_led_106 ?_
                      refine lv_topl (fun x107 ex107 => ?_)
                      have h := of_bnd h ex107
                      refine lv_lstore_n (lv' := [(3, .long x107), (0, .ref (ad 0)), (1, .int f1), (2, .int f2), (5, .int f5), (6, .int l6)]) hx hb dX12_led_107 rfl hl (by decide) rfl (fun ls hl => ?_)
                      obtain ⟨x108, ex108⟩ : ∃ y : Int32, y = l6 + 1 := ⟨_, rfl⟩
                      have h := of_bnd h ex108
                      refine lv_iinc (v := x108) (lv' := [(6, .int x108), (3, .long x107), (0, .ref (ad 0)), (1, .int f1), (2, .int f2), (5, .int f5)]) hx hb dX12_led_108 hl (k := 5) rfl (by rw [ex108]; rfl) (by decide) rfl (fun ls hl => ?_)
                      refine lv_goto (tgt := 52) hx hb dX12_led_111 (by decide) ?_
                      exact ih52 x107 x108 _ h _ _ hw ls (lv_sub hl [2, 3, 4, 5, 1, 0] rfl) kx52_0
            obtain ⟨q52, hq52, h⟩ := of_cal h
            refine lp52 f1 f2 l5 S n.1 l3 v49 q52  hq52 _ _ hw ls (lv_sub hl [1, 2, 3, 5, 4, 0] rfl) ?_
            · intro t3_52 eq H locs hw ls hl
              subst eq
              obtain ⟨x114, ex114⟩ : ∃ y : Int32, y = l5 + 1 := ⟨_, rfl⟩
              have h := of_bnd h ex114
              refine lv_iinc (v := x114) (lv' := [(5, .int x114), (0, .ref (ad 0)), (1, .int f1), (2, .int f2), (3, .long t3_52)]) hx hb dX12_led_114 hl (k := 3) rfl (by rw [ex114]; rfl) (by decide) rfl (fun ls hl => ?_)
              refine lv_goto (tgt := 34) hx hb dX12_led_117 (by decide) ?_
              exact ih34 t3_52 x114 _ h _ _ hw ls (lv_sub hl [1, 2, 3, 4, 0] rfl) kx34_0
      obtain ⟨q34, hq34, h⟩ := of_cal h
      refine lp34 a1 a2 S2 n.1 x30 x32 q34  hq34 _ _ hw ls (lv_sub hl [2, 3, 4, 1, 0] rfl) ?_
      · intro t3_34 eq H locs hw ls hl
        subst eq
        refine lv_lload_n hx hb dX12_led_120 rfl (lv_at hl 0 rfl) ?_
        obtain ⟨rfl, rfl⟩ := of_ret2 h
        exact M_lret hx hb hr hlocks hK hw.1 hw.2.1 hw.2.2 dX12_led_121 ⟨rfl, rfl⟩
    · have h := of_it h c22
      refine lv_ldc2 (v := -1) hx hb hown (hts (.constantLong RX12 319 (-1)) (by decide +kernel)) dX12_led_25 ?_
      obtain ⟨rfl, rfl⟩ := of_ret2 h
      exact M_lret hx hb hr hlocks hK hw.1 hw.2.1 hw.2.2 dX12_led_28 ⟨rfl, rfl⟩

def fX12_sumOf_lp5 (n : Nat × Nat) (S : MS) (f1 : Int32) (f2 : Int32) : Nat → Int64 → Int32 → Option (Int64)
  | 0, _, _ => none
  | k + 1, l3, l5 =>
    bnd (mI S 4) (fun v8 => if v8 ≤ l5 then 
        some l3
        else bnd (fun (z0_85 : Int32) => if f2 < 0 then 
            bnd (l3 + z0_85.toInt64) (fun x111 => bnd (l5 + 1) (fun x112 => fX12_sumOf_lp5 n S f1 f2 k x111 x112 ))
            else grd (¬ (l5 < 0 ∨ 200 ≤ l5.toNatClampNeg)) (bnd (mA S 5 l5.toNatClampNeg) (fun v98 => if v98 = f2 then 
              bnd (l3 + z0_85.toInt64) (fun x111 => bnd (l5 + 1) (fun x112 => fX12_sumOf_lp5 n S f1 f2 k x111 x112 ))
              else bnd (l3 + (0 : Int64)) (fun x111 => bnd (l5 + 1) (fun x112 => fX12_sumOf_lp5 n S f1 f2 k x111 x112 ))))) (fun j85 => if f1 = (8 : Int32) then 
          grd (¬ (l5 < 0 ∨ 200 ≤ l5.toNatClampNeg)) (bnd (mA S 6 l5.toNatClampNeg) (fun v26 => j85 v26))
          else if f1 = (9 : Int32) then 
            grd (¬ (l5 < 0 ∨ 200 ≤ l5.toNatClampNeg)) (bnd (mA S 9 l5.toNatClampNeg) (fun v42 => j85 v42))
            else if f1 = (10 : Int32) then 
              grd (¬ (l5 < 0 ∨ 200 ≤ l5.toNatClampNeg)) (bnd (mA S 10 l5.toNatClampNeg) (fun v58 => j85 v58))
              else if f1 = (11 : Int32) then 
                grd (¬ (l5 < 0 ∨ 200 ≤ l5.toNatClampNeg)) (bnd (mA S 11 l5.toNatClampNeg) (fun v74 => j85 v74))
                else grd (¬ (l5 < 0 ∨ 200 ≤ l5.toNatClampNeg)) (bnd (mA S 12 l5.toNatClampNeg) (fun v84 => j85 v84))))
def fX12_sumOf (n : Nat × Nat) (S : MS) (a1 : Int32) (a2 : Int32) : Option Int64 :=
  bnd (0 : Int64) (fun x1 => bnd (0 : Int32) (fun x3 => cal (fX12_sumOf_lp5 n S a1 a2 n.1 x1 x3 ) (fun t3_5 => some t3_5)))
set_option maxHeartbeats 8000000 in
set_option maxRecDepth 100000 in
theorem cX12_sumOf_ok (l : Launch) (D : va_G) (cI cJ : ClassId) (ad : Nat → Nat) (n : Nat × Nat) (S : MS) (a1 : Int32) (a2 : Int32) {r : Int64} (h : fX12_sumOf n S a1 a2 = some r) : Ml l yX12_sumOf wsX12_sumOf (cRm 0 0 0 0) D cI cJ ad [.int a1, .int a2] S (fun r1 u => r1 = r ∧ u = S) := by
  refine Ml_of (cc := cX12_sumOf) (nL := 7) (ret := (some .long)) (by decide) rfl rfl (Nat.le_of_ble_eq_true rfl) ?_
  intro p e s m args below meth c A hx hb hr hlocks hml hts hown hA hK hP hD hS ls hl
  have hw : mWd D cI cJ ad A s.heap S s.heap [] := ⟨hP, hD, hS⟩
  unfold fX12_sumOf at h
  have hin : ∀ w ∈ wsX120, w ∈ wsX12_sumOf := fun w h => List.mem_cons_of_mem _ (List.mem_append_right _ h)
  have hl : lv_has ls 7 [(0, .ref (ad 0)), (1, .int a1), (2, .int a2)] := hl
  refine lv_lconst (v := 0) hx hb dX12_sumOf_0 (by decide) ?_
  refine lv_topl (fun x1 ex1 => ?_)
  have h := of_bnd h ex1
  refine lv_lstore_n (lv' := [(3, .long x1), (0, .ref (ad 0)), (1, .int a1), (2, .int a2)]) hx hb dX12_sumOf_1 rfl hl (by decide) rfl (fun ls hl => ?_)
  refine lv_iconst (v := 0) hx hb dX12_sumOf_2 (by decide) ?_
  refine lv_topi (fun x3 ex3 => ?_)
  have h := of_bnd h ex3
  refine lv_istore (lv' := [(5, .int x3), (3, .long x1), (0, .ref (ad 0)), (1, .int a1), (2, .int a2)]) hx hb dX12_sumOf_3 hl (by decide) rfl (fun ls hl => ?_)
  have lp5 : ∀ (f1 : Int32) (f2 : Int32) (S : MS) (k : Nat) (l3 : Int64) (l5 : Int32) (q : Int64) , fX12_sumOf_lp5 n S f1 f2 k l3 l5  = some q → ∀ (H : Heap) (locs : List Loc), mWd D cI cJ ad A s.heap S H locs → ∀ ls : Array Slot, lv_has ls 7 [(0, .ref (ad 0)), (1, .int f1), (2, .int f2), (3, .long l3), (5, .int l5)] → (∀ (t3 : Int64), t3 = q → ∀ (H : Heap) (locs : List Loc), mWd D cI cJ ad A s.heap S H locs → ∀ ls : Array Slot, lv_has ls 7 [(3, .long t3)] → W p l e (cRm 0 0 0 0) s m args below meth c H locs (0) (0) (MQ below (va_Ql (fun x u => x = r ∧ u = S) (mAft D cI cJ ad A) A) args s 0 0 A) (F0 m 118 ls [])) → W p l e (cRm 0 0 0 0) s m args below meth c H locs (0) (0) (MQ below (va_Ql (fun x u => x = r ∧ u = S) (mAft D cI cJ ad A) A) args s 0 0 A) (F0 m 5 ls []) := by
    intro f1 f2 S k
    induction k with
    | zero => intro l3 l5 q h; rw [fX12_sumOf_lp5] at h; cases h
    | succ k ih5 =>
      intro l3 l5 q h H locs hw ls hl kx5_0
      rw [fX12_sumOf_lp5] at h
      refine lv_iload hx hb dX12_sumOf_5 (lv_at hl 4 rfl) ?_
      refine lv_aload_n hx hb dX12_sumOf_7 rfl (lv_at hl 0 rfl) ?_
      refine N_get hx hb hts hin hown hK hw 4 (by decide) rfl (index := 168) (by decide +kernel) rfl dX12_sumOf_8 ?_
      refine lv_topi (fun v8 ev8 => ?_)
      have h := of_bnd h ev8
      refine lv_icmp_ge (tgt := 118) hx hb dX12_sumOf_11 (by decide) (fun c11 => ?_) (fun c11 => ?_)
      · have h := of_it h c11
        exact kx5_0 l3 (Option.some.inj h) _ _ hw ls (lv_sub hl [3] rfl)
      · have h := of_if h c11
        refine lv_iload_n hx hb dX12_sumOf_14 rfl (lv_at hl 1 rfl) ?_
        refine lv_bipush (v := 8) hx hb dX12_sumOf_15 (by decide) ?_
        obtain ⟨j85, ej85, h⟩ := of_bndE h
        have hj85 : ∀ (z0_85 : Int32), j85 z0_85 = some q → ∀ (H : Heap) (locs : List Loc), mWd D cI cJ ad A s.heap S H locs → ∀ ls : Array Slot, lv_has ls 7 [(0, .ref (ad 0)), (1, .int f1), (2, .int f2), (3, .long l3), (5, .int l5)] → W p l e (cRm 0 0 0 0) s m args below meth c H locs (0) (0) (MQ below (va_Ql (fun x u => x = r ∧ u = S) (mAft D cI cJ ad A) A) args s 0 0 A) (F0 m 85 ls [.int z0_85]) := by
          intro z0_85 h H locs hw ls hl
          rw [ej85] at h
          dsimp only at h
          refine lv_istore (lv' := [(6, .int z0_85), (0, .ref (ad 0)), (1, .int f1), (2, .int f2), (3, .long l3), (5, .int l5)]) hx hb dX12_sumOf_85 hl (by decide) rfl (fun ls hl => ?_)
          refine lv_lload_n hx hb dX12_sumOf_87 rfl (lv_at hl 4 rfl) ?_
          refine lv_iload_n hx hb dX12_sumOf_88 rfl (lv_at hl 3 rfl) ?_
          refine lv_if_lt (tgt := 103) hx hb dX12_sumOf_89 (by decide) (fun c89 => ?_) (fun c89 => ?_)
          · have h := of_it h c89
            refine lv_iload hx hb dX12_sumOf_103 (lv_at hl 0 rfl) ?_
            refine lv_i2l hx hb dX12_sumOf_105 rfl ?_
            refine lv_goto (tgt := 110) hx hb dX12_sumOf_106 (by decide) ?_
            refine lv_ladd hx hb dX12_sumOf_110 ?_
            refine lv_topl (fun x111 ex111 => ?_)
            have h := of_bnd h ex111
            refine lv_lstore_n (lv' := [(3, .long x111), (6, .int z0_85), (0, .ref (ad 0)), (1, .int f1), (2, .int f2), (5, .int l5)]) hx hb dX12_sumOf_111 rfl hl (by decide) rfl (fun ls hl => ?_)
            obtain ⟨x112, ex112⟩ : ∃ y : Int32, y = l5 + 1 := ⟨_, rfl⟩
            have h := of_bnd h ex112
            refine lv_iinc (v := x112) (lv' := [(5, .int x112), (3, .long x111), (6, .int z0_85), (0, .ref (ad 0)), (1, .int f1), (2, .int f2)]) hx hb dX12_sumOf_112 hl (k := 5) rfl (by rw [ex112]; rfl) (by decide) rfl (fun ls hl => ?_)
            refine lv_goto (tgt := 5) hx hb dX12_sumOf_115 (by decide) ?_
            exact ih5 x111 x112 _ h _ _ hw ls (lv_sub hl [3, 4, 5, 1, 0] rfl) kx5_0
          · have h := of_if h c89
            refine lv_aload_n hx hb dX12_sumOf_92 rfl (lv_at hl 1 rfl) ?_
            refine N_get hx hb hts hin hown hK hw 5 (by decide) rfl (index := 13) (by decide +kernel) rfl dX12_sumOf_93 ?_
            refine lv_iload hx hb dX12_sumOf_96 (lv_at hl 5 rfl) ?_
            obtain ⟨hi98, h⟩ := of_grd h
            refine va_iald hx hb hK hw.1 2 0 rfl rfl hi98 dX12_sumOf_98 ?_
            refine lv_topi (fun v98 ev98 => ?_)
            have h := of_bnd h ev98
            refine lv_iload_n hx hb dX12_sumOf_99 rfl (lv_at hl 3 rfl) ?_
            refine lv_icmp_ne (tgt := 109) hx hb dX12_sumOf_100 (by decide) (fun c100 => ?_) (fun c100 => ?_)
            · have h := of_if h c100
              refine lv_lconst (v := 0) hx hb dX12_sumOf_109 (by decide) ?_
              refine lv_ladd hx hb dX12_sumOf_110 ?_
              refine lv_topl (fun x111 ex111 => ?_)
              have h := of_bnd h ex111
              refine lv_lstore_n (lv' := [(3, .long x111), (6, .int z0_85), (0, .ref (ad 0)), (1, .int f1), (2, .int f2), (5, .int l5)]) hx hb dX12_sumOf_111 rfl hl (by decide) rfl (fun ls hl => ?_)
              obtain ⟨x112, ex112⟩ : ∃ y : Int32, y = l5 + 1 := ⟨_, rfl⟩
              have h := of_bnd h ex112
              refine lv_iinc (v := x112) (lv' := [(5, .int x112), (3, .long x111), (6, .int z0_85), (0, .ref (ad 0)), (1, .int f1), (2, .int f2)]) hx hb dX12_sumOf_112 hl (k := 5) rfl (by rw [ex112]; rfl) (by decide) rfl (fun ls hl => ?_)
              refine lv_goto (tgt := 5) hx hb dX12_sumOf_115 (by decide) ?_
              exact ih5 x111 x112 _ h _ _ hw ls (lv_sub hl [3, 4, 5, 1, 0] rfl) kx5_0
            · have h := of_it h c100
              refine lv_iload hx hb dX12_sumOf_103 (lv_at hl 0 rfl) ?_
              refine lv_i2l hx hb dX12_sumOf_105 rfl ?_
              refine lv_goto (tgt := 110) hx hb dX12_sumOf_106 (by decide) ?_
              refine lv_ladd hx hb dX12_sumOf_110 ?_
              refine lv_topl (fun x111 ex111 => ?_)
              have h := of_bnd h ex111
              refine lv_lstore_n (lv' := [(3, .long x111), (6, .int z0_85), (0, .ref (ad 0)), (1, .int f1), (2, .int f2), (5, .int l5)]) hx hb dX12_sumOf_111 rfl hl (by decide) rfl (fun ls hl => ?_)
              obtain ⟨x112, ex112⟩ : ∃ y : Int32, y = l5 + 1 := ⟨_, rfl⟩
              have h := of_bnd h ex112
              refine lv_iinc (v := x112) (lv' := [(5, .int x112), (3, .long x111), (6, .int z0_85), (0, .ref (ad 0)), (1, .int f1), (2, .int f2)]) hx hb dX12_sumOf_112 hl (k := 5) rfl (by rw [ex112]; rfl) (by decide) rfl (fun ls hl => ?_)
              refine lv_goto (tgt := 5) hx hb dX12_sumOf_115 (by decide) ?_
              exact ih5 x111 x112 _ h _ _ hw ls (lv_sub hl [3, 4, 5, 1, 0] rfl) kx5_0
        refine lv_icmp_ne (tgt := 30) hx hb dX12_sumOf_17 (by decide) (fun c17 => ?_) (fun c17 => ?_)
        · have h := of_if h c17
          refine lv_iload_n hx hb dX12_sumOf_30 rfl (lv_at hl 1 rfl) ?_
          refine lv_bipush (v := 9) hx hb dX12_sumOf_31 (by decide) ?_
          refine lv_icmp_ne (tgt := 46) hx hb dX12_sumOf_33 (by decide) (fun c33 => ?_) (fun c33 => ?_)
          · have h := of_if h c33
            refine lv_iload_n hx hb dX12_sumOf_46 rfl (lv_at hl 1 rfl) ?_
            refine lv_bipush (v := 10) hx hb dX12_sumOf_47 (by decide) ?_
            refine lv_icmp_ne (tgt := 62) hx hb dX12_sumOf_49 (by decide) (fun c49 => ?_) (fun c49 => ?_)
            · have h := of_if h c49
              refine lv_iload_n hx hb dX12_sumOf_62 rfl (lv_at hl 1 rfl) ?_
              refine lv_bipush (v := 11) hx hb dX12_sumOf_63 (by decide) ?_
              refine lv_icmp_ne (tgt := 78) hx hb dX12_sumOf_65 (by decide) (fun c65 => ?_) (fun c65 => ?_)
              · have h := of_if h c65
                refine lv_aload_n hx hb dX12_sumOf_78 rfl (lv_at hl 0 rfl) ?_
                refine N_get hx hb hts hin hown hK hw 12 (by decide) rfl (index := 34) (by decide +kernel) rfl dX12_sumOf_79 ?_
                refine lv_iload hx hb dX12_sumOf_82 (lv_at hl 4 rfl) ?_
                obtain ⟨hi84, h⟩ := of_grd h
                refine va_iald hx hb hK hw.1 9 0 rfl rfl hi84 dX12_sumOf_84 ?_
                refine lv_topi (fun v84 ev84 => ?_)
                have h := of_bnd h ev84
                exact hj85 v84 h _ _ hw ls (lv_sub hl [0, 1, 2, 3, 4] rfl)
              · have h := of_it h c65
                refine lv_aload_n hx hb dX12_sumOf_68 rfl (lv_at hl 0 rfl) ?_
                refine N_get hx hb hts hin hown hK hw 11 (by decide) rfl (index := 31) (by decide +kernel) rfl dX12_sumOf_69 ?_
                refine lv_iload hx hb dX12_sumOf_72 (lv_at hl 4 rfl) ?_
                obtain ⟨hi74, h⟩ := of_grd h
                refine va_iald hx hb hK hw.1 8 0 rfl rfl hi74 dX12_sumOf_74 ?_
                refine lv_topi (fun v74 ev74 => ?_)
                have h := of_bnd h ev74
                refine lv_goto (tgt := 85) hx hb dX12_sumOf_75 (by decide) ?_
                exact hj85 v74 h _ _ hw ls (lv_sub hl [0, 1, 2, 3, 4] rfl)
            · have h := of_it h c49
              refine lv_aload_n hx hb dX12_sumOf_52 rfl (lv_at hl 0 rfl) ?_
              refine N_get hx hb hts hin hown hK hw 10 (by decide) rfl (index := 28) (by decide +kernel) rfl dX12_sumOf_53 ?_
              refine lv_iload hx hb dX12_sumOf_56 (lv_at hl 4 rfl) ?_
              obtain ⟨hi58, h⟩ := of_grd h
              refine va_iald hx hb hK hw.1 7 0 rfl rfl hi58 dX12_sumOf_58 ?_
              refine lv_topi (fun v58 ev58 => ?_)
              have h := of_bnd h ev58
              refine lv_goto (tgt := 85) hx hb dX12_sumOf_59 (by decide) ?_
              exact hj85 v58 h _ _ hw ls (lv_sub hl [0, 1, 2, 3, 4] rfl)
          · have h := of_it h c33
            refine lv_aload_n hx hb dX12_sumOf_36 rfl (lv_at hl 0 rfl) ?_
            refine N_get hx hb hts hin hown hK hw 9 (by decide) rfl (index := 25) (by decide +kernel) rfl dX12_sumOf_37 ?_
            refine lv_iload hx hb dX12_sumOf_40 (lv_at hl 4 rfl) ?_
            obtain ⟨hi42, h⟩ := of_grd h
            refine va_iald hx hb hK hw.1 6 0 rfl rfl hi42 dX12_sumOf_42 ?_
            refine lv_topi (fun v42 ev42 => ?_)
            have h := of_bnd h ev42
            refine lv_goto (tgt := 85) hx hb dX12_sumOf_43 (by decide) ?_
            exact hj85 v42 h _ _ hw ls (lv_sub hl [0, 1, 2, 3, 4] rfl)
        · have h := of_it h c17
          refine lv_aload_n hx hb dX12_sumOf_20 rfl (lv_at hl 0 rfl) ?_
          refine N_get hx hb hts hin hown hK hw 6 (by decide) rfl (index := 16) (by decide +kernel) rfl dX12_sumOf_21 ?_
          refine lv_iload hx hb dX12_sumOf_24 (lv_at hl 4 rfl) ?_
          obtain ⟨hi26, h⟩ := of_grd h
          refine va_iald hx hb hK hw.1 3 0 rfl rfl hi26 dX12_sumOf_26 ?_
          refine lv_topi (fun v26 ev26 => ?_)
          have h := of_bnd h ev26
          refine lv_goto (tgt := 85) hx hb dX12_sumOf_27 (by decide) ?_
          exact hj85 v26 h _ _ hw ls (lv_sub hl [0, 1, 2, 3, 4] rfl)
  obtain ⟨q5, hq5, h⟩ := of_cal h
  refine lp5 a1 a2 S n.1 x1 x3 q5  hq5 _ _ hw ls (lv_sub hl [2, 3, 4, 1, 0] rfl) ?_
  · intro t3_5 eq H locs hw ls hl
    subst eq
    refine lv_lload_n hx hb dX12_sumOf_118 rfl (lv_at hl 0 rfl) ?_
    obtain rfl := Option.some.inj h
    exact M_lret hx hb hr hlocks hK hw.1 hw.2.1 hw.2.2 dX12_sumOf_119 ⟨rfl, rfl⟩

def fX12_count (n : Nat × Nat) (S : MS) (a1 : Int32) : Option (Int64 × MS) :=
  bnd (sI S 0 (0 : Int32)) (fun S2 => bnd (fX12_in a1.toInt64 (20 : Int64) (29 : Int64)) (fun r13 => if r13 = 0 then 
    if a1 = 0 then bnd (mI S2 2) (fun v105 => some (v105.toInt64, S2)) else if a1 = 1 then bnd (mI S2 4) (fun v111 => some (v111.toInt64, S2)) else if a1 = 2 then bnd (mI S2 13) (fun v117 => some (v117.toInt64, S2)) else if a1 = 3 then bnd (mI S2 16) (fun v123 => some (v123.toInt64, S2)) else if a1 = 4 then bnd (mI S2 20) (fun v129 => some (v129.toInt64, S2)) else if a1 = 5 then bnd (mI S2 32) (fun v135 => some (v135.toInt64, S2)) else if a1 = 6 then bnd (mI S2 25) (fun v141 => some (v141.toInt64, S2)) else if a1 = 7 then bnd (mI S2 65) (fun v147 => some (v147.toInt64, S2)) else if a1 = 8 then cal (fX12_sumOf n S2 a1 (-1 : Int32)) (fun q155 => some (q155, S2)) else if a1 = 9 then cal (fX12_sumOf n S2 a1 (-1 : Int32)) (fun q155 => some (q155, S2)) else if a1 = 10 then cal (fX12_sumOf n S2 a1 (-1 : Int32)) (fun q155 => some (q155, S2)) else if a1 = 11 then cal (fX12_sumOf n S2 a1 (-1 : Int32)) (fun q155 => some (q155, S2)) else if a1 = 12 then cal (fX12_sumOf n S2 a1 (-1 : Int32)) (fun q155 => some (q155, S2)) else if a1 = 13 then bnd (mL S2 40) (fun v160 => some (v160, S2)) else if a1 = 14 then bnd (mI S2 58) (fun v165 => some (v165.toInt64, S2)) else some ((-1 : Int64), S2)
    else cal (fX12_sumOf n S2 (9 : Int32) (a1 - (20 : Int32))) (fun q26 => some (q26, S2))))
set_option maxHeartbeats 8000000 in
set_option maxRecDepth 100000 in
theorem cX12_count_ok (l : Launch) (D : va_G) (cI cJ : ClassId) (ad : Nat → Nat) (n : Nat × Nat) (S : MS) (a1 : Int32) {r : Int64} {T : MS} (h : fX12_count n S a1 = some (r, T)) : Ml l yX12_count wsX12_count (cRm 1 26 0 0) D cI cJ ad [.int a1] S (fun r1 u => r1 = r ∧ u = T) := by
  refine Ml_of (cc := cX12_count) (nL := 2) (ret := (some .long)) (by decide) rfl rfl (Nat.le_of_ble_eq_true rfl) ?_
  intro p e s m args below meth c A hx hb hr hlocks hml hts hown hA hK hP hD hS ls hl
  have hw : mWd D cI cJ ad A s.heap S s.heap [] := ⟨hP, hD, hS⟩
  unfold fX12_count at h
  have hin : ∀ w ∈ wsX120, w ∈ wsX12_count := fun w h => List.mem_cons_of_mem _ (List.mem_append_right _ h)
  have hl : lv_has ls 2 [(0, .ref (ad 0)), (1, .int a1)] := hl
  refine lv_aload_n hx hb dX12_count_0 rfl (lv_at hl 0 rfl) ?_
  refine lv_iconst (v := 0) hx hb dX12_count_1 (by decide) ?_
  refine N_put hx hb hts hin hown hK hw 0 (by decide) rfl rfl (index := 156) (by decide +kernel) (ty := .int) (by decide +kernel) rfl rfl (pI_0 cI cJ ad S _) dX12_count_2 (fun S2 H locs eS2 hw => ?_)
  have h := of_bnd h eS2
  refine lv_iload_n hx hb dX12_count_5 rfl (lv_at hl 1 rfl) ?_
  refine lv_i2l hx hb dX12_count_6 rfl ?_
  refine lv_ldc2 (v := 20) hx hb hown (hts (.constantLong RX12 204 (20)) (by decide +kernel)) dX12_count_7 ?_
  refine lv_ldc2 (v := 29) hx hb hown (hts (.constantLong RX12 359 (29)) (by decide +kernel)) dX12_count_10 ?_
  refine C_s (va_runS (As := [.long a1.toInt64, .long (20 : Int64), .long (29 : Int64)]) (rest := []) ⟨hx, hb, hml, hown, hts⟩ (cX12_in_ok l a1.toInt64 (20 : Int64) (29 : Int64)) (va_cwS 3 hts gX12_count_X12_in rfl rfl rfl (by decide +kernel) ⟨Nat.le_of_ble_eq_true rfl, Nat.le_of_ble_eq_true rfl⟩) ⟨fun a U g mk q => ⟨q.1, trivial⟩, fun U hU hW => ⟨rfl, trivial⟩⟩ rfl rfl hl.1 rfl (lv_room (Nat.le_of_ble_eq_true rfl)) dX12_count_13 ⟨Nat.le_refl _, Nat.le_refl _⟩) (fun r13 er13 => ?_)
  have h := of_bnd h er13
  refine lv_if_eq (tgt := 30) hx hb dX12_count_16 (by decide) (fun c16 => ?_) (fun c16 => ?_)
  · have h := of_it h c16
    refine lv_iload_n hx hb dX12_count_30 rfl (lv_at hl 1 rfl) ?_
    by_cases c31_0 : a1 = 0
    · have h := of_it h c31_0
      refine lv_tableIn (tgt := 104) hx hb dX12_count_31 (by rw [c31_0]; decide) (by rw [c31_0]; decide) (by rw [c31_0]; rfl) (by decide) ?_
      refine lv_aload_n hx hb dX12_count_104 rfl (lv_at hl 0 rfl) ?_
      refine N_get hx hb hts hin hown hK hw 2 (by decide) rfl (index := 189) (by decide +kernel) rfl dX12_count_105 ?_
      refine lv_topi (fun v105 ev105 => ?_)
      have h := of_bnd h ev105
      refine lv_i2l hx hb dX12_count_108 rfl ?_
      obtain ⟨rfl, rfl⟩ := of_ret2 h
      exact M_lret hx hb hr hlocks hK hw.1 hw.2.1 hw.2.2 dX12_count_109 ⟨rfl, rfl⟩
    have h := of_if h c31_0
    by_cases c31_1 : a1 = 1
    · have h := of_it h c31_1
      refine lv_tableIn (tgt := 110) hx hb dX12_count_31 (by rw [c31_1]; decide) (by rw [c31_1]; decide) (by rw [c31_1]; rfl) (by decide) ?_
      refine lv_aload_n hx hb dX12_count_110 rfl (lv_at hl 0 rfl) ?_
      refine N_get hx hb hts hin hown hK hw 4 (by decide) rfl (index := 168) (by decide +kernel) rfl dX12_count_111 ?_
      refine lv_topi (fun v111 ev111 => ?_)
      have h := of_bnd h ev111
      refine lv_i2l hx hb dX12_count_114 rfl ?_
      obtain ⟨rfl, rfl⟩ := of_ret2 h
      exact M_lret hx hb hr hlocks hK hw.1 hw.2.1 hw.2.2 dX12_count_115 ⟨rfl, rfl⟩
    have h := of_if h c31_1
    by_cases c31_2 : a1 = 2
    · have h := of_it h c31_2
      refine lv_tableIn (tgt := 116) hx hb dX12_count_31 (by rw [c31_2]; decide) (by rw [c31_2]; decide) (by rw [c31_2]; rfl) (by decide) ?_
      refine lv_aload_n hx hb dX12_count_116 rfl (lv_at hl 0 rfl) ?_
      refine N_get hx hb hts hin hown hK hw 13 (by decide) rfl (index := 171) (by decide +kernel) rfl dX12_count_117 ?_
      refine lv_topi (fun v117 ev117 => ?_)
      have h := of_bnd h ev117
      refine lv_i2l hx hb dX12_count_120 rfl ?_
      obtain ⟨rfl, rfl⟩ := of_ret2 h
      exact M_lret hx hb hr hlocks hK hw.1 hw.2.1 hw.2.2 dX12_count_121 ⟨rfl, rfl⟩
    have h := of_if h c31_2
    by_cases c31_3 : a1 = 3
    · have h := of_it h c31_3
      refine lv_tableIn (tgt := 122) hx hb dX12_count_31 (by rw [c31_3]; decide) (by rw [c31_3]; decide) (by rw [c31_3]; rfl) (by decide) ?_
      refine lv_aload_n hx hb dX12_count_122 rfl (lv_at hl 0 rfl) ?_
      refine N_get hx hb hts hin hown hK hw 16 (by decide) rfl (index := 174) (by decide +kernel) rfl dX12_count_123 ?_
      refine lv_topi (fun v123 ev123 => ?_)
      have h := of_bnd h ev123
      refine lv_i2l hx hb dX12_count_126 rfl ?_
      obtain ⟨rfl, rfl⟩ := of_ret2 h
      exact M_lret hx hb hr hlocks hK hw.1 hw.2.1 hw.2.2 dX12_count_127 ⟨rfl, rfl⟩
    have h := of_if h c31_3
    by_cases c31_4 : a1 = 4
    · have h := of_it h c31_4
      refine lv_tableIn (tgt := 128) hx hb dX12_count_31 (by rw [c31_4]; decide) (by rw [c31_4]; decide) (by rw [c31_4]; rfl) (by decide) ?_
      refine lv_aload_n hx hb dX12_count_128 rfl (lv_at hl 0 rfl) ?_
      refine N_get hx hb hts hin hown hK hw 20 (by decide) rfl (index := 209) (by decide +kernel) rfl dX12_count_129 ?_
      refine lv_topi (fun v129 ev129 => ?_)
      have h := of_bnd h ev129
      refine lv_i2l hx hb dX12_count_132 rfl ?_
      obtain ⟨rfl, rfl⟩ := of_ret2 h
      exact M_lret hx hb hr hlocks hK hw.1 hw.2.1 hw.2.2 dX12_count_133 ⟨rfl, rfl⟩
    have h := of_if h c31_4
    by_cases c31_5 : a1 = 5
    · have h := of_it h c31_5
      refine lv_tableIn (tgt := 134) hx hb dX12_count_31 (by rw [c31_5]; decide) (by rw [c31_5]; decide) (by rw [c31_5]; rfl) (by decide) ?_
      refine lv_aload_n hx hb dX12_count_134 rfl (lv_at hl 0 rfl) ?_
      refine N_get hx hb hts hin hown hK hw 32 (by decide) rfl (index := 239) (by decide +kernel) rfl dX12_count_135 ?_
      refine lv_topi (fun v135 ev135 => ?_)
      have h := of_bnd h ev135
      refine lv_i2l hx hb dX12_count_138 rfl ?_
      obtain ⟨rfl, rfl⟩ := of_ret2 h
      exact M_lret hx hb hr hlocks hK hw.1 hw.2.1 hw.2.2 dX12_count_139 ⟨rfl, rfl⟩
    have h := of_if h c31_5
    by_cases c31_6 : a1 = 6
    · have h := of_it h c31_6
      refine lv_tableIn (tgt := 140) hx hb dX12_count_31 (by rw [c31_6]; decide) (by rw [c31_6]; decide) (by rw [c31_6]; rfl) (by decide) ?_
      refine lv_aload_n hx hb dX12_count_140 rfl (lv_at hl 0 rfl) ?_
      refine N_get hx hb hts hin hown hK hw 25 (by decide) rfl (index := 216) (by decide +kernel) rfl dX12_count_141 ?_
      refine lv_topi (fun v141 ev141 => ?_)
      have h := of_bnd h ev141
      refine lv_i2l hx hb dX12_count_144 rfl ?_
      obtain ⟨rfl, rfl⟩ := of_ret2 h
      exact M_lret hx hb hr hlocks hK hw.1 hw.2.1 hw.2.2 dX12_count_145 ⟨rfl, rfl⟩
    have h := of_if h c31_6
    by_cases c31_7 : a1 = 7
    · have h := of_it h c31_7
      refine lv_tableIn (tgt := 146) hx hb dX12_count_31 (by rw [c31_7]; decide) (by rw [c31_7]; decide) (by rw [c31_7]; rfl) (by decide) ?_
      refine lv_aload_n hx hb dX12_count_146 rfl (lv_at hl 0 rfl) ?_
      refine N_get hx hb hts hin hown hK hw 65 (by decide) rfl (index := 356) (by decide +kernel) rfl dX12_count_147 ?_
      refine lv_topi (fun v147 ev147 => ?_)
      have h := of_bnd h ev147
      refine lv_i2l hx hb dX12_count_150 rfl ?_
      obtain ⟨rfl, rfl⟩ := of_ret2 h
      exact M_lret hx hb hr hlocks hK hw.1 hw.2.1 hw.2.2 dX12_count_151 ⟨rfl, rfl⟩
    have h := of_if h c31_7
    by_cases c31_8 : a1 = 8
    · have h := of_it h c31_8
      refine lv_tableIn (tgt := 152) hx hb dX12_count_31 (by rw [c31_8]; decide) (by rw [c31_8]; decide) (by rw [c31_8]; rfl) (by decide) ?_
      refine lv_aload_n hx hb dX12_count_152 rfl (lv_at hl 0 rfl) ?_
      refine lv_iload_n hx hb dX12_count_153 rfl (lv_at hl 1 rfl) ?_
      refine lv_iconst (v := -1) hx hb dX12_count_154 (by decide) ?_
      obtain ⟨q155, hq155, h⟩ := of_cal h
      refine N_calll (av := [.int a1, .int (-1 : Int32)]) (rest := []) ⟨hx, hb, hml, hown, hts⟩ hA hK hw (cX12_sumOf_ok l D cI cJ ad n S2 a1 (-1 : Int32) hq155) (cwV 2 hts gX12_count_X12_sumOf rfl rfl rfl (by decide +kernel) ⟨Nat.le_of_ble_eq_true rfl, Nat.le_of_ble_eq_true rfl⟩) rfl hl.1 rfl (Nat.le_of_ble_eq_true rfl) dX12_count_155 ⟨Nat.le_refl _, Nat.le_refl _⟩ (fun H locs hw => ?_)
      obtain ⟨rfl, rfl⟩ := of_ret2 h
      exact M_lret hx hb hr hlocks hK hw.1 hw.2.1 hw.2.2 dX12_count_158 ⟨rfl, rfl⟩
    have h := of_if h c31_8
    by_cases c31_9 : a1 = 9
    · have h := of_it h c31_9
      refine lv_tableIn (tgt := 152) hx hb dX12_count_31 (by rw [c31_9]; decide) (by rw [c31_9]; decide) (by rw [c31_9]; rfl) (by decide) ?_
      refine lv_aload_n hx hb dX12_count_152 rfl (lv_at hl 0 rfl) ?_
      refine lv_iload_n hx hb dX12_count_153 rfl (lv_at hl 1 rfl) ?_
      refine lv_iconst (v := -1) hx hb dX12_count_154 (by decide) ?_
      obtain ⟨q155, hq155, h⟩ := of_cal h
      refine N_calll (av := [.int a1, .int (-1 : Int32)]) (rest := []) ⟨hx, hb, hml, hown, hts⟩ hA hK hw (cX12_sumOf_ok l D cI cJ ad n S2 a1 (-1 : Int32) hq155) (cwV 2 hts gX12_count_X12_sumOf rfl rfl rfl (by decide +kernel) ⟨Nat.le_of_ble_eq_true rfl, Nat.le_of_ble_eq_true rfl⟩) rfl hl.1 rfl (Nat.le_of_ble_eq_true rfl) dX12_count_155 ⟨Nat.le_refl _, Nat.le_refl _⟩ (fun H locs hw => ?_)
      obtain ⟨rfl, rfl⟩ := of_ret2 h
      exact M_lret hx hb hr hlocks hK hw.1 hw.2.1 hw.2.2 dX12_count_158 ⟨rfl, rfl⟩
    have h := of_if h c31_9
    by_cases c31_10 : a1 = 10
    · have h := of_it h c31_10
      refine lv_tableIn (tgt := 152) hx hb dX12_count_31 (by rw [c31_10]; decide) (by rw [c31_10]; decide) (by rw [c31_10]; rfl) (by decide) ?_
      refine lv_aload_n hx hb dX12_count_152 rfl (lv_at hl 0 rfl) ?_
      refine lv_iload_n hx hb dX12_count_153 rfl (lv_at hl 1 rfl) ?_
      refine lv_iconst (v := -1) hx hb dX12_count_154 (by decide) ?_
      obtain ⟨q155, hq155, h⟩ := of_cal h
      refine N_calll (av := [.int a1, .int (-1 : Int32)]) (rest := []) ⟨hx, hb, hml, hown, hts⟩ hA hK hw (cX12_sumOf_ok l D cI cJ ad n S2 a1 (-1 : Int32) hq155) (cwV 2 hts gX12_count_X12_sumOf rfl rfl rfl (by decide +kernel) ⟨Nat.le_of_ble_eq_true rfl, Nat.le_of_ble_eq_true rfl⟩) rfl hl.1 rfl (Nat.le_of_ble_eq_true rfl) dX12_count_155 ⟨Nat.le_refl _, Nat.le_refl _⟩ (fun H locs hw => ?_)
      obtain ⟨rfl, rfl⟩ := of_ret2 h
      exact M_lret hx hb hr hlocks hK hw.1 hw.2.1 hw.2.2 dX12_count_158 ⟨rfl, rfl⟩
    have h := of_if h c31_10
    by_cases c31_11 : a1 = 11
    · have h := of_it h c31_11
      refine lv_tableIn (tgt := 152) hx hb dX12_count_31 (by rw [c31_11]; decide) (by rw [c31_11]; decide) (by rw [c31_11]; rfl) (by decide) ?_
      refine lv_aload_n hx hb dX12_count_152 rfl (lv_at hl 0 rfl) ?_
      refine lv_iload_n hx hb dX12_count_153 rfl (lv_at hl 1 rfl) ?_
      refine lv_iconst (v := -1) hx hb dX12_count_154 (by decide) ?_
      obtain ⟨q155, hq155, h⟩ := of_cal h
      refine N_calll (av := [.int a1, .int (-1 : Int32)]) (rest := []) ⟨hx, hb, hml, hown, hts⟩ hA hK hw (cX12_sumOf_ok l D cI cJ ad n S2 a1 (-1 : Int32) hq155) (cwV 2 hts gX12_count_X12_sumOf rfl rfl rfl (by decide +kernel) ⟨Nat.le_of_ble_eq_true rfl, Nat.le_of_ble_eq_true rfl⟩) rfl hl.1 rfl (Nat.le_of_ble_eq_true rfl) dX12_count_155 ⟨Nat.le_refl _, Nat.le_refl _⟩ (fun H locs hw => ?_)
      obtain ⟨rfl, rfl⟩ := of_ret2 h
      exact M_lret hx hb hr hlocks hK hw.1 hw.2.1 hw.2.2 dX12_count_158 ⟨rfl, rfl⟩
    have h := of_if h c31_11
    by_cases c31_12 : a1 = 12
    · have h := of_it h c31_12
      refine lv_tableIn (tgt := 152) hx hb dX12_count_31 (by rw [c31_12]; decide) (by rw [c31_12]; decide) (by rw [c31_12]; rfl) (by decide) ?_
      refine lv_aload_n hx hb dX12_count_152 rfl (lv_at hl 0 rfl) ?_
      refine lv_iload_n hx hb dX12_count_153 rfl (lv_at hl 1 rfl) ?_
      refine lv_iconst (v := -1) hx hb dX12_count_154 (by decide) ?_
      obtain ⟨q155, hq155, h⟩ := of_cal h
      refine N_calll (av := [.int a1, .int (-1 : Int32)]) (rest := []) ⟨hx, hb, hml, hown, hts⟩ hA hK hw (cX12_sumOf_ok l D cI cJ ad n S2 a1 (-1 : Int32) hq155) (cwV 2 hts gX12_count_X12_sumOf rfl rfl rfl (by decide +kernel) ⟨Nat.le_of_ble_eq_true rfl, Nat.le_of_ble_eq_true rfl⟩) rfl hl.1 rfl (Nat.le_of_ble_eq_true rfl) dX12_count_155 ⟨Nat.le_refl _, Nat.le_refl _⟩ (fun H locs hw => ?_)
      obtain ⟨rfl, rfl⟩ := of_ret2 h
      exact M_lret hx hb hr hlocks hK hw.1 hw.2.1 hw.2.2 dX12_count_158 ⟨rfl, rfl⟩
    have h := of_if h c31_12
    by_cases c31_13 : a1 = 13
    · have h := of_it h c31_13
      refine lv_tableIn (tgt := 159) hx hb dX12_count_31 (by rw [c31_13]; decide) (by rw [c31_13]; decide) (by rw [c31_13]; rfl) (by decide) ?_
      refine lv_aload_n hx hb dX12_count_159 rfl (lv_at hl 0 rfl) ?_
      refine N_get hx hb hts hin hown hK hw 40 (by decide) rfl (index := 242) (by decide +kernel) rfl dX12_count_160 ?_
      refine lv_topl (fun v160 ev160 => ?_)
      have h := of_bnd h ev160
      obtain ⟨rfl, rfl⟩ := of_ret2 h
      exact M_lret hx hb hr hlocks hK hw.1 hw.2.1 hw.2.2 dX12_count_163 ⟨rfl, rfl⟩
    have h := of_if h c31_13
    by_cases c31_14 : a1 = 14
    · have h := of_it h c31_14
      refine lv_tableIn (tgt := 164) hx hb dX12_count_31 (by rw [c31_14]; decide) (by rw [c31_14]; decide) (by rw [c31_14]; rfl) (by decide) ?_
      refine lv_aload_n hx hb dX12_count_164 rfl (lv_at hl 0 rfl) ?_
      refine N_get hx hb hts hin hown hK hw 58 (by decide) rfl (index := 291) (by decide +kernel) rfl dX12_count_165 ?_
      refine lv_topi (fun v165 ev165 => ?_)
      have h := of_bnd h ev165
      refine lv_i2l hx hb dX12_count_168 rfl ?_
      obtain ⟨rfl, rfl⟩ := of_ret2 h
      exact M_lret hx hb hr hlocks hK hw.1 hw.2.1 hw.2.2 dX12_count_169 ⟨rfl, rfl⟩
    have h := of_if h c31_14
    refine lv_tableOut (tgt := 170) hx hb dX12_count_31 ?_ (by decide) ?_
    · refine sw_out (0) (14) a1 (by decide) (fun k h1 h2 => ?_)
      have h3 : k = 0 ∨ k = 1 ∨ k = 2 ∨ k = 3 ∨ k = 4 ∨ k = 5 ∨ k = 6 ∨ k = 7 ∨ k = 8 ∨ k = 9 ∨ k = 10 ∨ k = 11 ∨ k = 12 ∨ k = 13 ∨ k = 14 := by omega
      rcases h3 with rfl | rfl | rfl | rfl | rfl | rfl | rfl | rfl | rfl | rfl | rfl | rfl | rfl | rfl | rfl <;> first | exact c31_0 | exact c31_1 | exact c31_2 | exact c31_3 | exact c31_4 | exact c31_5 | exact c31_6 | exact c31_7 | exact c31_8 | exact c31_9 | exact c31_10 | exact c31_11 | exact c31_12 | exact c31_13 | exact c31_14
    refine lv_ldc2 (v := -1) hx hb hown (hts (.constantLong RX12 319 (-1)) (by decide +kernel)) dX12_count_170 ?_
    obtain ⟨rfl, rfl⟩ := of_ret2 h
    exact M_lret hx hb hr hlocks hK hw.1 hw.2.1 hw.2.2 dX12_count_173 ⟨rfl, rfl⟩
  · have h := of_if h c16
    refine lv_aload_n hx hb dX12_count_19 rfl (lv_at hl 0 rfl) ?_
    refine lv_bipush (v := 9) hx hb dX12_count_20 (by decide) ?_
    refine lv_iload_n hx hb dX12_count_22 rfl (lv_at hl 1 rfl) ?_
    refine lv_bipush (v := 20) hx hb dX12_count_23 (by decide) ?_
    refine lv_isub hx hb dX12_count_25 ?_
    obtain ⟨q26, hq26, h⟩ := of_cal h
    refine N_calll (av := [.int (9 : Int32), .int (a1 - (20 : Int32))]) (rest := []) ⟨hx, hb, hml, hown, hts⟩ hA hK hw (cX12_sumOf_ok l D cI cJ ad n S2 (9 : Int32) (a1 - (20 : Int32)) hq26) (cwV 2 hts gX12_count_X12_sumOf rfl rfl rfl (by decide +kernel) ⟨Nat.le_of_ble_eq_true rfl, Nat.le_of_ble_eq_true rfl⟩) rfl hl.1 rfl (Nat.le_of_ble_eq_true rfl) dX12_count_26 ⟨Nat.le_refl _, Nat.le_refl _⟩ (fun H locs hw => ?_)
    obtain ⟨rfl, rfl⟩ := of_ret2 h
    exact M_lret hx hb hr hlocks hK hw.1 hw.2.1 hw.2.2 dX12_count_29 ⟨rfl, rfl⟩

def fX12_status (n : Nat × Nat) (S : MS)  : Option (Int32 × MS) :=
  bnd (sI S 0 (0 : Int32)) (fun S2 => bnd (mI S2 1) (fun v6 => some (v6, S2)))
set_option maxHeartbeats 8000000 in
set_option maxRecDepth 100000 in
theorem cX12_status_ok (l : Launch) (D : va_G) (cI cJ : ClassId) (ad : Nat → Nat) (n : Nat × Nat) (S : MS)  {r : Int32} {T : MS} (h : fX12_status n S  = some (r, T)) : Mi l yX12_status wsX12_status (cRm 0 0 0 0) D cI cJ ad [] S (fun r1 u => r1 = r ∧ u = T) := by
  refine Mi_of (cc := cX12_status) (nL := 1) (ret := (some .int)) (by decide) rfl rfl (Nat.le_of_ble_eq_true rfl) ?_
  intro p e s m args below meth c A hx hb hr hlocks hml hts hown hA hK hP hD hS ls hl
  have hw : mWd D cI cJ ad A s.heap S s.heap [] := ⟨hP, hD, hS⟩
  unfold fX12_status at h
  have hin : ∀ w ∈ wsX120, w ∈ wsX12_status := fun w h => List.mem_cons_of_mem _ (List.mem_append_right _ h)
  have hl : lv_has ls 1 [(0, .ref (ad 0))] := hl
  refine lv_aload_n hx hb dX12_status_0 rfl (lv_at hl 0 rfl) ?_
  refine lv_iconst (v := 0) hx hb dX12_status_1 (by decide) ?_
  refine N_put hx hb hts hin hown hK hw 0 (by decide) rfl rfl (index := 156) (by decide +kernel) (ty := .int) (by decide +kernel) rfl rfl (pI_0 cI cJ ad S _) dX12_status_2 (fun S2 H locs eS2 hw => ?_)
  have h := of_bnd h eS2
  refine lv_aload_n hx hb dX12_status_5 rfl (lv_at hl 0 rfl) ?_
  refine N_get hx hb hts hin hown hK hw 1 (by decide) rfl (index := 159) (by decide +kernel) rfl dX12_status_6 ?_
  refine lv_topi (fun v6 ev6 => ?_)
  have h := of_bnd h ev6
  obtain ⟨rfl, rfl⟩ := of_ret2 h
  exact M_iret hx hb hr hlocks hK hw.1 hw.2.1 hw.2.2 dX12_status_9 ⟨rfl, rfl⟩
