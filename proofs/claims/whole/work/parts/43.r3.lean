def fX12_findTours_lp93 (n : Nat × Nat) (S : MS) (f1 : Int32) (f3 : Int32) (f4 : Int32) : Nat → Int32 → Int32 → Option (Int32)
  | 0, _, _ => none
  | k + 1, l5, l6 =>
    if f1 ≤ l6 then 
                        some l5
                        else if ((f4 >>> (l6 &&& 31)) &&& (1 : Int32)) = (1 : Int32) then 
                          cal (fX12_way n S f3 l6) (fun q114 => grd (¬ ((((8 : Int32) * f4) + l6) < 0 ∨ 2048 ≤ (((8 : Int32) * f4) + l6).toNatClampNeg)) (bnd (mA S 46 (((8 : Int32) * f4) + l6).toNatClampNeg) (fun v129 => bnd (q114 + v129) (fun x131 => if l5 ≤ x131 then 
                          bnd (l6 + 1) (fun x149 => fX12_findTours_lp93 n S f1 f3 f4 k l5 x149 )
                          else bnd (l6 + 1) (fun x149 => fX12_findTours_lp93 n S f1 f3 f4 k x131 x149 )))))
                          else bnd (l6 + 1) (fun x149 => fX12_findTours_lp93 n S f1 f3 f4 k l5 x149 )
def fX12_findTours_lp27 (n : Nat × Nat) (f1 : Int32) (f2 : Int32) : Nat → Int32 → MS → Option (MS)
  | 0, _, _ => none
  | k + 1, l3, S =>
    if f1 ≤ l3 then 
              some S
              else if ((f2 >>> (l3 &&& 31)) &&& (1 : Int32)) = 0 then 
                bnd (l3 + 1) (fun x207 => fX12_findTours_lp27 n f1 f2 k x207 S)
                else grd (¬ (f2 < 0 ∨ 256 ≤ f2.toNatClampNeg)) (bnd (mB S 48 f2.toNatClampNeg) (fun v49 => grd (¬ (l3 < 0 ∨ 8 ≤ l3.toNatClampNeg)) (bnd (mA S 45 l3.toNatClampNeg) (fun v59 => grd (¬ (v59 < 0 ∨ 12 ≤ v59.toNatClampNeg)) (bnd (mA S 43 v59.toNatClampNeg) (fun v60 => grd (¬ (f2 < 0 ∨ 256 ≤ f2.toNatClampNeg)) (bnd (sB S 48 (vp_updL (mB S 48) f2.toNatClampNeg (v49 + v60.toInt64))) (fun S63 => bnd (f2 ^^^ ((1 : Int32) <<< (l3 &&& 31))) (fun x69 => bnd (fun (z0_88 : Int32) (S : MS) => bnd (0 : Int32) (fun x91 => cal (fX12_findTours_lp93 n S f1 l3 x69 n.1 z0_88 x91 ) (fun t5_93 => grd (¬ ((((8 : Int32) * f2) + l3) < 0 ∨ 2048 ≤ (((8 : Int32) * f2) + l3).toNatClampNeg)) (bnd (sA S 46 (upd (mA S 46) (((8 : Int32) * f2) + l3).toNatClampNeg t5_93)) (fun S167 => cal (fX12_way n S167 (-1 : Int32) l3) (fun q171 => bnd (q171 + t5_93) (fun x177 => grd (¬ (f2 < 0 ∨ 256 ≤ f2.toNatClampNeg)) (bnd (mA S167 47 f2.toNatClampNeg) (fun v191 => if v191 ≤ x177 then 
                      grd (¬ (f2 < 0 ∨ 256 ≤ f2.toNatClampNeg)) (bnd (mA S167 47 f2.toNatClampNeg) (fun v205 => grd (¬ (f2 < 0 ∨ 256 ≤ f2.toNatClampNeg)) (bnd (sA S167 47 (upd (mA S167 47) f2.toNatClampNeg v205)) (fun S206 => bnd (l3 + 1) (fun x207 => fX12_findTours_lp27 n f1 f2 k x207 S206)))))
                      else grd (¬ (f2 < 0 ∨ 256 ≤ f2.toNatClampNeg)) (bnd (sA S167 47 (upd (mA S167 47) f2.toNatClampNeg x177)) (fun S206 => bnd (l3 + 1) (fun x207 => fX12_findTours_lp27 n f1 f2 k x207 S206)))))))))))) (fun j88 => if x69 = 0 then 
                  cal (fX12_way n S63 l3 (-1 : Int32)) (fun q79 => j88 q79 S63)
                  else j88 (1000000 : Int32) S63))))))))))
def fX12_findTours_lp2 (n : Nat × Nat) (f1 : Int32) : Nat → Int32 → MS → Option (MS)
  | 0, _, _ => none
  | k + 1, l2, S =>
    if ((1 : Int32) <<< (f1 &&& 31)) ≤ l2 then 
        some S
        else grd (¬ (l2 < 0 ∨ 256 ≤ l2.toNatClampNeg)) (bnd (sA S 47 (upd (mA S 47) l2.toNatClampNeg (1000000 : Int32))) (fun S17 => grd (¬ (l2 < 0 ∨ 256 ≤ l2.toNatClampNeg)) (bnd (sB S17 48 (vp_updL (mB S17 48) l2.toNatClampNeg (0 : Int64))) (fun S24 => bnd (0 : Int32) (fun x26 => cal (fX12_findTours_lp27 n f1 l2 n.1 x26 S24) (fun S27 => bnd (l2 + 1) (fun x213 => fX12_findTours_lp2 n f1 k x213 S27)))))))
def fX12_findTours (n : Nat × Nat) (S : MS) (a1 : Int32) : Option (MS) :=
  bnd (1 : Int32) (fun x1 => cal (fX12_findTours_lp2 n a1 n.1 x1 S) (fun S2 => some S2))
set_option maxHeartbeats 8000000 in
set_option maxRecDepth 100000 in
theorem cX12_findTours_ok (l : Launch) (D : va_G) (cI cJ : ClassId) (ad : Nat → Nat) (n : Nat × Nat) (S : MS) (a1 : Int32) {T : MS} (h : fX12_findTours n S a1 = some T) : Mv l yX12_findTours wsX12_findTours (cRm 1 22 0 0) D cI cJ ad [.int a1] S (fun u => u = T) := by
  refine Mv_of (cc := cX12_findTours) (nL := 8) (ret := none) (by decide) rfl rfl (Nat.le_of_ble_eq_true rfl) ?_
  intro p e s m args below meth c A hx hb hr hlocks hml hts hown hA hK hP hD hS ls hl
  have hw : mWd D cI cJ ad A s.heap S s.heap [] := ⟨hP, hD, hS⟩
  unfold fX12_findTours at h
  have hin : ∀ w ∈ wsX120, w ∈ wsX12_findTours := fun w h => List.mem_cons_of_mem _ (List.mem_append_right _ h)
  have hl : lv_has ls 8 [(0, .ref (ad 0)), (1, .int a1)] := hl
  refine lv_iconst (v := 1) hx hb dX12_findTours_0 (by decide) ?_
  refine lv_topi (fun x1 ex1 => ?_)
  have h := of_bnd h ex1
  refine lv_istore_n (lv' := [(2, .int x1), (0, .ref (ad 0)), (1, .int a1)]) hx hb dX12_findTours_1 rfl hl (by decide) rfl (fun ls hl => ?_)
  have lp2 : ∀ (f1 : Int32) (k : Nat) (l2 : Int32) (S : MS) (q : MS) , fX12_findTours_lp2 n f1 k l2 S = some q → ∀ (H : Heap) (locs : List Loc), mWd D cI cJ ad A s.heap S H locs → ∀ ls : Array Slot, lv_has ls 8 [(0, .ref (ad 0)), (1, .int f1), (2, .int l2)] → (∀  (S1 : MS), S1 = q → ∀ (H : Heap) (locs : List Loc), mWd D cI cJ ad A s.heap S1 H locs → ∀ ls : Array Slot, lv_has ls 8 [] → W p l e (cRm 1 22 0 0) s m args below meth c H locs (0) (0) (MQ below (va_Qv (fun u => u = T) (mAft D cI cJ ad A) A) args s 0 0 A) (F0 m 219 ls [])) → W p l e (cRm 1 22 0 0) s m args below meth c H locs (0) (0) (MQ below (va_Qv (fun u => u = T) (mAft D cI cJ ad A) A) args s 0 0 A) (F0 m 2 ls []) := by
    intro f1 k
    induction k with
    | zero => intro l2 S q h; rw [fX12_findTours_lp2] at h; cases h
    | succ k ih2 =>
      intro l2 S q h H locs hw ls hl kx2_0
      rw [fX12_findTours_lp2] at h
      refine lv_iload_n hx hb dX12_findTours_2 rfl (lv_at hl 2 rfl) ?_
      refine lv_iconst (v := 1) hx hb dX12_findTours_3 (by decide) ?_
      refine lv_iload_n hx hb dX12_findTours_4 rfl (lv_at hl 1 rfl) ?_
      refine lv_ishl hx hb dX12_findTours_5 ?_
      refine lv_icmp_ge (tgt := 219) hx hb dX12_findTours_6 (by decide) (fun c6 => ?_) (fun c6 => ?_)
      · have h := of_it h c6
        exact kx2_0 S (Option.some.inj h) _ _ hw ls (lv_sub hl [] rfl)
      · have h := of_if h c6
        refine lv_aload_n hx hb dX12_findTours_9 rfl (lv_at hl 0 rfl) ?_
        refine N_get hx hb hts hin hown hK hw 47 (by decide) rfl (index := 113) (by decide +kernel) rfl dX12_findTours_10 ?_
        refine lv_iload_n hx hb dX12_findTours_13 rfl (lv_at hl 2 rfl) ?_
        refine lv_ldcw (v := 1000000) hx hb hown (hts (.constant RX12 267 (1000000)) (by decide +kernel)) dX12_findTours_14 ?_
        obtain ⟨hi17, h⟩ := of_grd h
        refine N_iast hx hb hK hw 35 rfl hi17 (pA_47 cI cJ ad S _) dX12_findTours_17 (fun S17 H locs eS17 hw => ?_)
        have h := of_bnd h eS17
        refine lv_aload_n hx hb dX12_findTours_18 rfl (lv_at hl 0 rfl) ?_
        refine N_get hx hb hts hin hown hK hw 48 (by decide) rfl (index := 116) (by decide +kernel) rfl dX12_findTours_19 ?_
        refine lv_iload_n hx hb dX12_findTours_22 rfl (lv_at hl 2 rfl) ?_
        refine lv_lconst (v := 0) hx hb dX12_findTours_23 (by decide) ?_
        obtain ⟨hi24, h⟩ := of_grd h
        refine N_last hx hb hK hw 36 rfl hi24 (pA_48 cI cJ ad S17 _) dX12_findTours_24 (fun S24 H locs eS24 hw => ?_)
        have h := of_bnd h eS24
        refine lv_iconst (v := 0) hx hb dX12_findTours_25 (by decide) ?_
        refine lv_topi (fun x26 ex26 => ?_)
        have h := of_bnd h ex26
        refine lv_istore_n (lv' := [(3, .int x26), (0, .ref (ad 0)), (1, .int f1), (2, .int l2)]) hx hb dX12_findTours_26 rfl hl (by decide) rfl (fun ls hl => ?_)
        have lp27 : ∀ (f1 : Int32) (f2 : Int32) (k : Nat) (l3 : Int32) (S : MS) (q : MS) , fX12_findTours_lp27 n f1 f2 k l3 S = some q → ∀ (H : Heap) (locs : List Loc), mWd D cI cJ ad A s.heap S H locs → ∀ ls : Array Slot, lv_has ls 8 [(0, .ref (ad 0)), (1, .int f1), (2, .int f2), (3, .int l3)] → (∀  (S1 : MS), S1 = q → ∀ (H : Heap) (locs : List Loc), mWd D cI cJ ad A s.heap S1 H locs → ∀ ls : Array Slot, lv_has ls 8 [(0, .ref (ad 0)), (1, .int f1), (2, .int f2)] → W p l e (cRm 1 22 0 0) s m args below meth c H locs (0) (0) (MQ below (va_Qv (fun u => u = T) (mAft D cI cJ ad A) A) args s 0 0 A) (F0 m 213 ls [])) → W p l e (cRm 1 22 0 0) s m args below meth c H locs (0) (0) (MQ below (va_Qv (fun u => u = T) (mAft D cI cJ ad A) A) args s 0 0 A) (F0 m 27 ls []) := by
          intro f1 f2 k
          induction k with
          | zero => intro l3 S q h; rw [fX12_findTours_lp27] at h; cases h
          | succ k ih27 =>
            intro l3 S q h H locs hw ls hl kx27_0
            rw [fX12_findTours_lp27] at h
            refine lv_iload_n hx hb dX12_findTours_27 rfl (lv_at hl 3 rfl) ?_
            refine lv_iload_n hx hb dX12_findTours_28 rfl (lv_at hl 1 rfl) ?_
            refine lv_icmp_ge (tgt := 213) hx hb dX12_findTours_29 (by decide) (fun c29 => ?_) (fun c29 => ?_)
            · have h := of_it h c29
              exact kx27_0 S (Option.some.inj h) _ _ hw ls (lv_sub hl [0, 1, 2] rfl)
            · have h := of_if h c29
              refine lv_iload_n hx hb dX12_findTours_32 rfl (lv_at hl 2 rfl) ?_
              refine lv_iload_n hx hb dX12_findTours_33 rfl (lv_at hl 3 rfl) ?_
              refine lv_ishr hx hb dX12_findTours_34 ?_
              refine lv_iconst (v := 1) hx hb dX12_findTours_35 (by decide) ?_
              refine lv_iand hx hb dX12_findTours_36 ?_
              refine lv_if_ne (tgt := 43) hx hb dX12_findTours_37 (by decide) (fun c37 => ?_) (fun c37 => ?_)
              · have h := of_if h c37
                refine lv_aload_n hx hb dX12_findTours_43 rfl (lv_at hl 0 rfl) ?_
                refine N_get hx hb hts hin hown hK hw 48 (by decide) rfl (index := 116) (by decide +kernel) rfl dX12_findTours_44 ?_
                refine lv_iload_n hx hb dX12_findTours_47 rfl (lv_at hl 2 rfl) ?_
                refine lv_dup2_11 hx hb dX12_findTours_48 rfl rfl ?_
                obtain ⟨hi49, h⟩ := of_grd h
                refine va_lald hx hb hK hw.1 36 1 rfl rfl hi49 dX12_findTours_49 ?_
                refine lv_topl (fun v49 ev49 => ?_)
                have h := of_bnd h ev49
                refine lv_aload_n hx hb dX12_findTours_50 rfl (lv_at hl 0 rfl) ?_
                refine N_get hx hb hts hin hown hK hw 43 (by decide) rfl (index := 104) (by decide +kernel) rfl dX12_findTours_51 ?_
                refine lv_aload_n hx hb dX12_findTours_54 rfl (lv_at hl 0 rfl) ?_
                refine N_get hx hb hts hin hown hK hw 45 (by decide) rfl (index := 107) (by decide +kernel) rfl dX12_findTours_55 ?_
                refine lv_iload_n hx hb dX12_findTours_58 rfl (lv_at hl 3 rfl) ?_
                obtain ⟨hi59, h⟩ := of_grd h
                refine va_iald hx hb hK hw.1 33 0 rfl rfl hi59 dX12_findTours_59 ?_
                refine lv_topi (fun v59 ev59 => ?_)
                have h := of_bnd h ev59
                obtain ⟨hi60, h⟩ := of_grd h
                refine va_iald hx hb hK hw.1 32 0 rfl rfl hi60 dX12_findTours_60 ?_
                refine lv_topi (fun v60 ev60 => ?_)
                have h := of_bnd h ev60
                refine lv_i2l hx hb dX12_findTours_61 rfl ?_
                refine lv_ladd hx hb dX12_findTours_62 ?_
                obtain ⟨hi63, h⟩ := of_grd h
                refine N_last hx hb hK hw 36 rfl hi63 (pA_48 cI cJ ad S _) dX12_findTours_63 (fun S63 H locs eS63 hw => ?_)
                have h := of_bnd h eS63
                refine lv_iload_n hx hb dX12_findTours_64 rfl (lv_at hl 2 rfl) ?_
                refine lv_iconst (v := 1) hx hb dX12_findTours_65 (by decide) ?_
                refine lv_iload_n hx hb dX12_findTours_66 rfl (lv_at hl 3 rfl) ?_
                refine lv_ishl hx hb dX12_findTours_67 ?_
                refine lv_ixor hx hb dX12_findTours_68 ?_
                refine lv_topi (fun x69 ex69 => ?_)
                have h := of_bnd h ex69
                refine lv_istore (lv' := [(4, .int x69), (0, .ref (ad 0)), (1, .int f1), (2, .int f2), (3, .int l3)]) hx hb dX12_findTours_69 hl (by decide) rfl (fun ls hl => ?_)
                refine lv_iload hx hb dX12_findTours_71 (lv_at hl 0 rfl) ?_
                obtain ⟨j88, ej88, h⟩ := of_bndE h
                have hj88 : ∀ (z0_88 : Int32) (S : MS), j88 z0_88 S = some q → ∀ (H : Heap) (locs : List Loc), mWd D cI cJ ad A s.heap S H locs → ∀ ls : Array Slot, lv_has ls 8 [(0, .ref (ad 0)), (1, .int f1), (2, .int f2), (3, .int l3), (4, .int x69)] → W p l e (cRm 1 22 0 0) s m args below meth c H locs (0) (0) (MQ below (va_Qv (fun u => u = T) (mAft D cI cJ ad A) A) args s 0 0 A) (F0 m 88 ls [.int z0_88]) := by
                  intro z0_88 S h H locs hw ls hl
                  rw [ej88] at h
                  dsimp only at h
                  refine lv_istore (lv' := [(5, .int z0_88), (0, .ref (ad 0)), (1, .int f1), (2, .int f2), (3, .int l3), (4, .int x69)]) hx hb dX12_findTours_88 hl (by decide) rfl (fun ls hl => ?_)
                  refine lv_iconst (v := 0) hx hb dX12_findTours_90 (by decide) ?_
                  refine lv_topi (fun x91 ex91 => ?_)
                  have h := of_bnd h ex91
                  refine lv_istore (lv' := [(6, .int x91), (5, .int z0_88), (0, .ref (ad 0)), (1, .int f1), (2, .int f2), (3, .int l3), (4, .int x69)]) hx hb dX12_findTours_91 hl (by decide) rfl (fun ls hl => ?_)
                  have lp93 : ∀ (f1 : Int32) (f2 : Int32) (f3 : Int32) (f4 : Int32) (S : MS) (k : Nat) (l5 : Int32) (l6 : Int32) (q : Int32) , fX12_findTours_lp93 n S f1 f3 f4 k l5 l6  = some q → ∀ (H : Heap) (locs : List Loc), mWd D cI cJ ad A s.heap S H locs → ∀ ls : Array Slot, lv_has ls 8 [(0, .ref (ad 0)), (1, .int f1), (2, .int f2), (3, .int f3), (4, .int f4), (5, .int l5), (6, .int l6)] → (∀ (t5 : Int32), t5 = q → ∀ (H : Heap) (locs : List Loc), mWd D cI cJ ad A s.heap S H locs → ∀ ls : Array Slot, lv_has ls 8 [(0, .ref (ad 0)), (1, .int f1), (2, .int f2), (3, .int f3), (5, .int t5)] → W p l e (cRm 1 22 0 0) s m args below meth c H locs (0) (0) (MQ below (va_Qv (fun u => u = T) (mAft D cI cJ ad A) A) args s 0 0 A) (F0 m 155 ls [])) → W p l e (cRm 1 22 0 0) s m args below meth c H locs (0) (0) (MQ below (va_Qv (fun u => u = T) (mAft D cI cJ ad A) A) args s 0 0 A) (F0 m 93 ls []) := by
                    intro f1 f2 f3 f4 S k
                    induction k with
                    | zero => intro l5 l6 q h; rw [fX12_findTours_lp93] at h; cases h
                    | succ k ih93 =>
                      intro l5 l6 q h H locs hw ls hl kx93_0
                      rw [fX12_findTours_lp93] at h
                      refine lv_iload hx hb dX12_findTours_93 (lv_at hl 6 rfl) ?_
                      refine lv_iload_n hx hb dX12_findTours_95 rfl (lv_at hl 1 rfl) ?_
                      refine lv_icmp_ge (tgt := 155) hx hb dX12_findTours_96 (by decide) (fun c96 => ?_) (fun c96 => ?_)
                      · have h := of_it h c96
                        exact kx93_0 l5 (Option.some.inj h) _ _ hw ls (lv_sub hl [0, 1, 2, 3, 5] rfl)
                      · have h := of_if h c96
                        refine lv_iload hx hb dX12_findTours_99 (lv_at hl 4 rfl) ?_
                        refine lv_iload hx hb dX12_findTours_101 (lv_at hl 6 rfl) ?_
                        refine lv_ishr hx hb dX12_findTours_103 ?_
                        refine lv_iconst (v := 1) hx hb dX12_findTours_104 (by decide) ?_
                        refine lv_iand hx hb dX12_findTours_105 ?_
                        refine lv_iconst (v := 1) hx hb dX12_findTours_106 (by decide) ?_
                        refine lv_icmp_ne (tgt := 149) hx hb dX12_findTours_107 (by decide) (fun c107 => ?_) (fun c107 => ?_)
                        · have h := of_if h c107
                          obtain ⟨x149, ex149⟩ : ∃ y : Int32, y = l6 + 1 := ⟨_, rfl⟩
                          have h := of_bnd h ex149
                          refine lv_iinc (v := x149) (lv' := [(6, .int x149), (0, .ref (ad 0)), (1, .int f1), (2, .int f2), (3, .int f3), (4, .int f4), (5, .int l5)]) hx hb dX12_findTours_149 hl (k := 6) rfl (by rw [ex149]; rfl) (by decide) rfl (fun ls hl => ?_)
                          refine lv_goto (tgt := 93) hx hb dX12_findTours_152 (by decide) ?_
                          exact ih93 l5 x149 _ h _ _ hw ls (lv_sub hl [1, 2, 3, 4, 5, 6, 0] rfl) kx93_0
                        · have h := of_it h c107
                          refine lv_aload_n hx hb dX12_findTours_110 rfl (lv_at hl 0 rfl) ?_
                          refine lv_iload_n hx hb dX12_findTours_111 rfl (lv_at hl 3 rfl) ?_
                          refine lv_iload hx hb dX12_findTours_112 (lv_at hl 6 rfl) ?_
                          obtain ⟨q114, hq114, h⟩ := of_cal h
                          refine N_calli (av := [.int f3, .int l6]) (rest := []) ⟨hx, hb, hml, hown, hts⟩ hA hK hw (cX12_way_ok l D cI cJ ad n S f3 l6 hq114) (cwV 2 hts gX12_findTours_X12_way rfl rfl rfl (by decide +kernel) ⟨Nat.le_of_ble_eq_true rfl, Nat.le_of_ble_eq_true rfl⟩) rfl hl.1 rfl (Nat.le_of_ble_eq_true rfl) dX12_findTours_114 ⟨Nat.le_refl _, Nat.le_refl _⟩ (fun H locs hw => ?_)
                          refine lv_aload_n hx hb dX12_findTours_117 rfl (lv_at hl 0 rfl) ?_
                          refine N_get hx hb hts hin hown hK hw 46 (by decide) rfl (index := 110) (by decide +kernel) rfl dX12_findTours_118 ?_
                          refine lv_bipush (v := 8) hx hb dX12_findTours_121 (by decide) ?_
                          refine lv_iload hx hb dX12_findTours_123 (lv_at hl 4 rfl) ?_
                          refine lv_imul hx hb dX12_findTours_125 ?_
                          refine lv_iload hx hb dX12_findTours_126 (lv_at hl 6 rfl) ?_
                          refine lv_iadd hx hb dX12_findTours_128 ?_
                          obtain ⟨hi129, h⟩ := of_grd h
                          refine va_iald hx hb hK hw.1 34 0 rfl rfl hi129 dX12_findTours_129 ?_
                          refine lv_topi (fun v129 ev129 => ?_)
                          have h := of_bnd h ev129
                          refine lv_iadd hx hb dX12_findTours_130 ?_
                          refine lv_topi (fun x131 ex131 => ?_)
                          have h := of_bnd h ex131
                          refine lv_istore (lv' := [(7, .int x131), (0, .ref (ad 0)), (1, .int f1), (2, .int f2), (3, .int f3), (4, .int f4), (5, .int l5), (6, .int l6)]) hx hb dX12_findTours_131 hl (by decide) rfl (fun ls hl => ?_)
                          refine lv_iload hx hb dX12_findTours_133 (lv_at hl 0 rfl) ?_
                          refine lv_iload hx hb dX12_findTours_135 (lv_at hl 6 rfl) ?_
                          refine lv_icmp_ge (tgt := 145) hx hb dX12_findTours_137 (by decide) (fun c137 => ?_) (fun c137 => ?_)
                          · have h := of_it h c137
                            refine lv_iload hx hb dX12_findTours_145 (lv_at hl 6 rfl) ?_
                            refine lv_istore (lv' := [(5, .int l5), (7, .int x131), (0, .ref (ad 0)), (1, .int f1), (2, .int f2), (3, .int f3), (4, .int f4), (6, .int l6)]) hx hb dX12_findTours_147 hl (by decide) rfl (fun ls hl => ?_)
                            obtain ⟨x149, ex149⟩ : ∃ y : Int32, y = l6 + 1 := ⟨_, rfl⟩
                            have h := of_bnd h ex149
                            refine lv_iinc (v := x149) (lv' := [(6, .int x149), (5, .int l5), (7, .int x131), (0, .ref (ad 0)), (1, .int f1), (2, .int f2), (3, .int f3), (4, .int f4)]) hx hb dX12_findTours_149 hl (k := 7) rfl (by rw [ex149]; rfl) (by decide) rfl (fun ls hl => ?_)
                            refine lv_goto (tgt := 93) hx hb dX12_findTours_152 (by decide) ?_
                            exact ih93 l5 x149 _ h _ _ hw ls (lv_sub hl [3, 4, 5, 6, 7, 1, 0] rfl) kx93_0
                          · have h := of_if h c137
                            refine lv_iload hx hb dX12_findTours_140 (lv_at hl 0 rfl) ?_
                            refine lv_goto (tgt := 147) hx hb dX12_findTours_142 (by decide) ?_
                            refine lv_istore (lv' := [(5, .int x131), (7, .int x131), (0, .ref (ad 0)), (1, .int f1), (2, .int f2), (3, .int f3), (4, .int f4), (6, .int l6)]) hx hb dX12_findTours_147 hl (by decide) rfl (fun ls hl => ?_)
                            obtain ⟨x149, ex149⟩ : ∃ y : Int32, y = l6 + 1 := ⟨_, rfl⟩
                            have h := of_bnd h ex149
                            refine lv_iinc (v := x149) (lv' := [(6, .int x149), (5, .int x131), (7, .int x131), (0, .ref (ad 0)), (1, .int f1), (2, .int f2), (3, .int f3), (4, .int f4)]) hx hb dX12_findTours_149 hl (k := 7) rfl (by rw [ex149]; rfl) (by decide) rfl (fun ls hl => ?_)
                            refine lv_goto (tgt := 93) hx hb dX12_findTours_152 (by decide) ?_
                            exact ih93 x131 x149 _ h _ _ hw ls (lv_sub hl [3, 4, 5, 6, 7, 1, 0] rfl) kx93_0
                  obtain ⟨q93, hq93, h⟩ := of_cal h
                  refine lp93 f1 f2 l3 x69 S n.1 z0_88 x91 q93  hq93 _ _ hw ls (lv_sub hl [2, 3, 4, 5, 6, 1, 0] rfl) ?_
                  · intro t5_93 eq H locs hw ls hl
                    subst eq
                    refine lv_aload_n hx hb dX12_findTours_155 rfl (lv_at hl 0 rfl) ?_
                    refine N_get hx hb hts hin hown hK hw 46 (by decide) rfl (index := 110) (by decide +kernel) rfl dX12_findTours_156 ?_
                    refine lv_bipush (v := 8) hx hb dX12_findTours_159 (by decide) ?_
                    refine lv_iload_n hx hb dX12_findTours_161 rfl (lv_at hl 2 rfl) ?_
                    refine lv_imul hx hb dX12_findTours_162 ?_
                    refine lv_iload_n hx hb dX12_findTours_163 rfl (lv_at hl 3 rfl) ?_
                    refine lv_iadd hx hb dX12_findTours_164 ?_
                    refine lv_iload hx hb dX12_findTours_165 (lv_at hl 4 rfl) ?_
                    obtain ⟨hi167, h⟩ := of_grd h
                    refine N_iast hx hb hK hw 34 rfl hi167 (pA_46 cI cJ ad S _) dX12_findTours_167 (fun S167 H locs eS167 hw => ?_)
                    have h := of_bnd h eS167
                    refine lv_aload_n hx hb dX12_findTours_168 rfl (lv_at hl 0 rfl) ?_
                    refine lv_iconst (v := -1) hx hb dX12_findTours_169 (by decide) ?_
                    refine lv_iload_n hx hb dX12_findTours_170 rfl (lv_at hl 3 rfl) ?_
                    obtain ⟨q171, hq171, h⟩ := of_cal h
                    refine N_calli (av := [.int (-1 : Int32), .int l3]) (rest := []) ⟨hx, hb, hml, hown, hts⟩ hA hK hw (cX12_way_ok l D cI cJ ad n S167 (-1 : Int32) l3 hq171) (cwV 2 hts gX12_findTours_X12_way rfl rfl rfl (by decide +kernel) ⟨Nat.le_of_ble_eq_true rfl, Nat.le_of_ble_eq_true rfl⟩) rfl hl.1 rfl (Nat.le_of_ble_eq_true rfl) dX12_findTours_171 ⟨Nat.le_refl _, Nat.le_refl _⟩ (fun H locs hw => ?_)
                    refine lv_iload hx hb dX12_findTours_174 (lv_at hl 4 rfl) ?_
                    refine lv_iadd hx hb dX12_findTours_176 ?_
                    refine lv_topi (fun x177 ex177 => ?_)
                    have h := of_bnd h ex177
                    refine lv_istore (lv' := [(6, .int x177), (0, .ref (ad 0)), (1, .int f1), (2, .int f2), (3, .int l3), (5, .int t5_93)]) hx hb dX12_findTours_177 hl (by decide) rfl (fun ls hl => ?_)
                    refine lv_aload_n hx hb dX12_findTours_179 rfl (lv_at hl 1 rfl) ?_
                    refine N_get hx hb hts hin hown hK hw 47 (by decide) rfl (index := 113) (by decide +kernel) rfl dX12_findTours_180 ?_
                    refine lv_iload_n hx hb dX12_findTours_183 rfl (lv_at hl 3 rfl) ?_
                    refine lv_iload hx hb dX12_findTours_184 (lv_at hl 0 rfl) ?_
                    refine lv_aload_n hx hb dX12_findTours_186 rfl (lv_at hl 1 rfl) ?_
                    refine N_get hx hb hts hin hown hK hw 47 (by decide) rfl (index := 113) (by decide +kernel) rfl dX12_findTours_187 ?_
                    refine lv_iload_n hx hb dX12_findTours_190 rfl (lv_at hl 3 rfl) ?_
                    obtain ⟨hi191, h⟩ := of_grd h
                    refine va_iald hx hb hK hw.1 35 0 rfl rfl hi191 dX12_findTours_191 ?_
                    refine lv_topi (fun v191 ev191 => ?_)
                    have h := of_bnd h ev191
                    refine lv_icmp_ge (tgt := 200) hx hb dX12_findTours_192 (by decide) (fun c192 => ?_) (fun c192 => ?_)
                    · have h := of_it h c192
                      refine lv_aload_n hx hb dX12_findTours_200 rfl (lv_at hl 1 rfl) ?_
                      refine N_get hx hb hts hin hown hK hw 47 (by decide) rfl (index := 113) (by decide +kernel) rfl dX12_findTours_201 ?_
                      refine lv_iload_n hx hb dX12_findTours_204 rfl (lv_at hl 3 rfl) ?_
                      obtain ⟨hi205, h⟩ := of_grd h
                      refine va_iald hx hb hK hw.1 35 0 rfl rfl hi205 dX12_findTours_205 ?_
                      refine lv_topi (fun v205 ev205 => ?_)
                      have h := of_bnd h ev205
                      obtain ⟨hi206, h⟩ := of_grd h
                      refine N_iast hx hb hK hw 35 rfl hi206 (pA_47 cI cJ ad S167 _) dX12_findTours_206 (fun S206 H locs eS206 hw => ?_)
                      have h := of_bnd h eS206
                      obtain ⟨x207, ex207⟩ : ∃ y : Int32, y = l3 + 1 := ⟨_, rfl⟩
                      have h := of_bnd h ex207
                      refine lv_iinc (v := x207) (lv' := [(3, .int x207), (6, .int x177), (0, .ref (ad 0)), (1, .int f1), (2, .int f2), (5, .int t5_93)]) hx hb dX12_findTours_207 hl (k := 4) rfl (by rw [ex207]; rfl) (by decide) rfl (fun ls hl => ?_)
                      refine lv_goto (tgt := 27) hx hb dX12_findTours_210 (by decide) ?_
                      exact ih27 x207 S206 _ h _ _ hw ls (lv_sub hl [2, 3, 4, 0] rfl) kx27_0
                    · have h := of_if h c192
                      refine lv_iload hx hb dX12_findTours_195 (lv_at hl 0 rfl) ?_
                      refine lv_goto (tgt := 206) hx hb dX12_findTours_197 (by decide) ?_
                      obtain ⟨hi206, h⟩ := of_grd h
                      refine N_iast hx hb hK hw 35 rfl hi206 (pA_47 cI cJ ad S167 _) dX12_findTours_206 (fun S206 H locs eS206 hw => ?_)
                      have h := of_bnd h eS206
                      obtain ⟨x207, ex207⟩ : ∃ y : Int32, y = l3 + 1 := ⟨_, rfl⟩
                      have h := of_bnd h ex207
                      refine lv_iinc (v := x207) (lv' := [(3, .int x207), (6, .int x177), (0, .ref (ad 0)), (1, .int f1), (2, .int f2), (5, .int t5_93)]) hx hb dX12_findTours_207 hl (k := 4) rfl (by rw [ex207]; rfl) (by decide) rfl (fun ls hl => ?_)
                      refine lv_goto (tgt := 27) hx hb dX12_findTours_210 (by decide) ?_
                      exact ih27 x207 S206 _ h _ _ hw ls (lv_sub hl [2, 3, 4, 0] rfl) kx27_0
                refine lv_if_ne (tgt := 85) hx hb dX12_findTours_73 (by decide) (fun c73 => ?_) (fun c73 => ?_)
                · have h := of_if h c73
                  refine lv_ldcw (v := 1000000) hx hb hown (hts (.constant RX12 267 (1000000)) (by decide +kernel)) dX12_findTours_85 ?_
                  exact hj88 (1000000 : Int32) S63 h _ _ hw ls (lv_sub hl [1, 2, 3, 4, 0] rfl)
                · have h := of_it h c73
                  refine lv_aload_n hx hb dX12_findTours_76 rfl (lv_at hl 1 rfl) ?_
                  refine lv_iload_n hx hb dX12_findTours_77 rfl (lv_at hl 4 rfl) ?_
                  refine lv_iconst (v := -1) hx hb dX12_findTours_78 (by decide) ?_
                  obtain ⟨q79, hq79, h⟩ := of_cal h
                  refine N_calli (av := [.int l3, .int (-1 : Int32)]) (rest := []) ⟨hx, hb, hml, hown, hts⟩ hA hK hw (cX12_way_ok l D cI cJ ad n S63 l3 (-1 : Int32) hq79) (cwV 2 hts gX12_findTours_X12_way rfl rfl rfl (by decide +kernel) ⟨Nat.le_of_ble_eq_true rfl, Nat.le_of_ble_eq_true rfl⟩) rfl hl.1 rfl (Nat.le_of_ble_eq_true rfl) dX12_findTours_79 ⟨Nat.le_refl _, Nat.le_refl _⟩ (fun H locs hw => ?_)
                  refine lv_goto (tgt := 88) hx hb dX12_findTours_82 (by decide) ?_
                  exact hj88 q79 S63 h _ _ hw ls (lv_sub hl [1, 2, 3, 4, 0] rfl)
              · have h := of_it h c37
                refine lv_goto (tgt := 207) hx hb dX12_findTours_40 (by decide) ?_
                obtain ⟨x207, ex207⟩ : ∃ y : Int32, y = l3 + 1 := ⟨_, rfl⟩
                have h := of_bnd h ex207
                refine lv_iinc (v := x207) (lv' := [(3, .int x207), (0, .ref (ad 0)), (1, .int f1), (2, .int f2)]) hx hb dX12_findTours_207 hl (k := 3) rfl (by rw [ex207]; rfl) (by decide) rfl (fun ls hl => ?_)
                refine lv_goto (tgt := 27) hx hb dX12_findTours_210 (by decide) ?_
                exact ih27 x207 S _ h _ _ hw ls (lv_sub hl [1, 2, 3, 0] rfl) kx27_0
        obtain ⟨q27, hq27, h⟩ := of_cal h
        refine lp27 f1 l2 n.1 x26 S24 q27  hq27 _ _ hw ls (lv_sub hl [1, 2, 3, 0] rfl) ?_
        · intro S27 eq H locs hw ls hl
          subst eq
          obtain ⟨x213, ex213⟩ : ∃ y : Int32, y = l2 + 1 := ⟨_, rfl⟩
          have h := of_bnd h ex213
          refine lv_iinc (v := x213) (lv' := [(2, .int x213), (0, .ref (ad 0)), (1, .int f1)]) hx hb dX12_findTours_213 hl (k := 2) rfl (by rw [ex213]; rfl) (by decide) rfl (fun ls hl => ?_)
          refine lv_goto (tgt := 2) hx hb dX12_findTours_216 (by decide) ?_
          exact ih2 x213 S27 _ h _ _ hw ls (lv_sub hl [1, 2, 0] rfl) kx2_0
  obtain ⟨q2, hq2, h⟩ := of_cal h
  refine lp2 a1 n.1 x1 S q2  hq2 _ _ hw ls (lv_sub hl [1, 2, 0] rfl) ?_
  · intro S2 eq H locs hw ls hl
    subst eq
    obtain rfl := Option.some.inj h
    exact M_vret hx hb hr hlocks hK hw.1 hw.2.1 hw.2.2 dX12_findTours_219 rfl

def fX12_writeTour_lp20 (n : Nat × Nat) (S : MS) (f3 : Int32) (f4 : Int32) (f5 : Int32) : Nat → Int32 → Option (Int32)
  | 0, _ => none
  | k + 1, l6 =>
    if ((f3 >>> (l6 &&& 31)) &&& (1 : Int32)) = 0 then 
              bnd (l6 + 1) (fun x55 => fX12_writeTour_lp20 n S f3 f4 f5 k x55 )
              else cal (fX12_way n S f4 l6) (fun q34 => grd (¬ ((((8 : Int32) * f3) + l6) < 0 ∨ 2048 ≤ (((8 : Int32) * f3) + l6).toNatClampNeg)) (bnd (mA S 46 (((8 : Int32) * f3) + l6).toNatClampNeg) (fun v48 => if (q34 + v48) = f5 then 
                some l6
                else bnd (l6 + 1) (fun x55 => fX12_writeTour_lp20 n S f3 f4 f5 k x55 ))))
def fX12_writeTour_lp13 (n : Nat × Nat) : Nat → Int32 → Int32 → Int32 → MS → Option (MS)
  | 0, _, _, _, _ => none
  | k + 1, l3, l4, l5, S =>
    if l3 = 0 then 
        some S
        else bnd (0 : Int32) (fun x18 => cal (fX12_writeTour_lp20 n S l3 l4 l5 n.1 x18 ) (fun t6_20 => cal (fX12_way n S l4 t6_20) (fun q68 => bnd (l5 - q68) (fun x72 => bnd (mI S 54) (fun v79 => grd (¬ (t6_20 < 0 ∨ 8 ≤ t6_20.toNatClampNeg)) (bnd (mA S 45 t6_20.toNatClampNeg) (fun v88 => grd (¬ (v79 < 0 ∨ 16 ≤ v79.toNatClampNeg)) (bnd (sA S 53 (upd (mA S 53) v79.toNatClampNeg v88)) (fun S89 => bnd (mI S89 54) (fun v92 => bnd (sI S89 54 (v92 + (1 : Int32))) (fun S97 => bnd (l3 ^^^ ((1 : Int32) <<< (t6_20 &&& 31))) (fun x106 => fX12_writeTour_lp13 n k x106 t6_20 x72 S97))))))))))))
def fX12_writeTour (n : Nat × Nat) (S : MS) (a1 : Int32) (a2 : Int32) : Option (MS) :=
  bnd (-1 : Int32) (fun x3 => grd (¬ (a1 < 0 ∨ 256 ≤ a1.toNatClampNeg)) (bnd (mA S 47 a1.toNatClampNeg) (fun v10 => cal (fX12_writeTour_lp13 n n.1 a1 x3 v10 S) (fun S13 => some S13))))
set_option maxHeartbeats 8000000 in
set_option maxRecDepth 100000 in
theorem cX12_writeTour_ok (l : Launch) (D : va_G) (cI cJ : ClassId) (ad : Nat → Nat) (n : Nat × Nat) (S : MS) (a1 : Int32) (a2 : Int32) {T : MS} (h : fX12_writeTour n S a1 a2 = some T) : Mv l yX12_writeTour wsX12_writeTour (cRm 1 22 0 0) D cI cJ ad [.int a1, .int a2] S (fun u => u = T) := by
  refine Mv_of (cc := cX12_writeTour) (nL := 7) (ret := none) (by decide) rfl rfl (Nat.le_of_ble_eq_true rfl) ?_
  intro p e s m args below meth c A hx hb hr hlocks hml hts hown hA hK hP hD hS ls hl
  have hw : mWd D cI cJ ad A s.heap S s.heap [] := ⟨hP, hD, hS⟩
  unfold fX12_writeTour at h
  have hin : ∀ w ∈ wsX120, w ∈ wsX12_writeTour := fun w h => List.mem_cons_of_mem _ (List.mem_append_right _ h)
  have hl : lv_has ls 7 [(0, .ref (ad 0)), (1, .int a1), (2, .int a2)] := hl
  refine lv_iload_n hx hb dX12_writeTour_0 rfl (lv_at hl 1 rfl) ?_
  refine lv_istore_n (lv' := [(3, .int a1), (0, .ref (ad 0)), (1, .int a1), (2, .int a2)]) hx hb dX12_writeTour_1 rfl hl (by decide) rfl (fun ls hl => ?_)
  refine lv_iconst (v := -1) hx hb dX12_writeTour_2 (by decide) ?_
  refine lv_topi (fun x3 ex3 => ?_)
  have h := of_bnd h ex3
  refine lv_istore (lv' := [(4, .int x3), (3, .int a1), (0, .ref (ad 0)), (1, .int a1), (2, .int a2)]) hx hb dX12_writeTour_3 hl (by decide) rfl (fun ls hl => ?_)
  refine lv_aload_n hx hb dX12_writeTour_5 rfl (lv_at hl 2 rfl) ?_
  refine N_get hx hb hts hin hown hK hw 47 (by decide) rfl (index := 113) (by decide +kernel) rfl dX12_writeTour_6 ?_
  refine lv_iload_n hx hb dX12_writeTour_9 rfl (lv_at hl 3 rfl) ?_
  obtain ⟨hi10, h⟩ := of_grd h
  refine va_iald hx hb hK hw.1 35 0 rfl rfl hi10 dX12_writeTour_10 ?_
  refine lv_topi (fun v10 ev10 => ?_)
  have h := of_bnd h ev10
  refine lv_istore (lv' := [(5, .int v10), (4, .int x3), (3, .int a1), (0, .ref (ad 0)), (1, .int a1), (2, .int a2)]) hx hb dX12_writeTour_11 hl (by decide) rfl (fun ls hl => ?_)
  have lp13 : ∀ (k : Nat) (l3 : Int32) (l4 : Int32) (l5 : Int32) (S : MS) (q : MS) , fX12_writeTour_lp13 n k l3 l4 l5 S = some q → ∀ (H : Heap) (locs : List Loc), mWd D cI cJ ad A s.heap S H locs → ∀ ls : Array Slot, lv_has ls 7 [(0, .ref (ad 0)), (3, .int l3), (4, .int l4), (5, .int l5)] → (∀  (S1 : MS), S1 = q → ∀ (H : Heap) (locs : List Loc), mWd D cI cJ ad A s.heap S1 H locs → ∀ ls : Array Slot, lv_has ls 7 [] → W p l e (cRm 1 22 0 0) s m args below meth c H locs (0) (0) (MQ below (va_Qv (fun u => u = T) (mAft D cI cJ ad A) A) args s 0 0 A) (F0 m 114 ls [])) → W p l e (cRm 1 22 0 0) s m args below meth c H locs (0) (0) (MQ below (va_Qv (fun u => u = T) (mAft D cI cJ ad A) A) args s 0 0 A) (F0 m 13 ls []) := by
    intro k
    induction k with
    | zero => intro l3 l4 l5 S q h; rw [fX12_writeTour_lp13] at h; cases h
    | succ k ih13 =>
      intro l3 l4 l5 S q h H locs hw ls hl kx13_0
      rw [fX12_writeTour_lp13] at h
      refine lv_iload_n hx hb dX12_writeTour_13 rfl (lv_at hl 1 rfl) ?_
      refine lv_if_eq (tgt := 114) hx hb dX12_writeTour_14 (by decide) (fun c14 => ?_) (fun c14 => ?_)
      · have h := of_it h c14
        exact kx13_0 S (Option.some.inj h) _ _ hw ls (lv_sub hl [] rfl)
      · have h := of_if h c14
        refine lv_iconst (v := 0) hx hb dX12_writeTour_17 (by decide) ?_
        refine lv_topi (fun x18 ex18 => ?_)
        have h := of_bnd h ex18
        refine lv_istore (lv' := [(6, .int x18), (0, .ref (ad 0)), (3, .int l3), (4, .int l4), (5, .int l5)]) hx hb dX12_writeTour_18 hl (by decide) rfl (fun ls hl => ?_)
        have lp20 : ∀ (f3 : Int32) (f4 : Int32) (f5 : Int32) (S : MS) (k : Nat) (l6 : Int32) (q : Int32) , fX12_writeTour_lp20 n S f3 f4 f5 k l6  = some q → ∀ (H : Heap) (locs : List Loc), mWd D cI cJ ad A s.heap S H locs → ∀ ls : Array Slot, lv_has ls 7 [(0, .ref (ad 0)), (3, .int f3), (4, .int f4), (5, .int f5), (6, .int l6)] → (∀ (t6 : Int32), t6 = q → ∀ (H : Heap) (locs : List Loc), mWd D cI cJ ad A s.heap S H locs → ∀ ls : Array Slot, lv_has ls 7 [(0, .ref (ad 0)), (3, .int f3), (4, .int f4), (5, .int f5), (6, .int t6)] → W p l e (cRm 1 22 0 0) s m args below meth c H locs (0) (0) (MQ below (va_Qv (fun u => u = T) (mAft D cI cJ ad A) A) args s 0 0 A) (F0 m 61 ls [])) → W p l e (cRm 1 22 0 0) s m args below meth c H locs (0) (0) (MQ below (va_Qv (fun u => u = T) (mAft D cI cJ ad A) A) args s 0 0 A) (F0 m 20 ls []) := by
          intro f3 f4 f5 S k
          induction k with
          | zero => intro l6 q h; rw [fX12_writeTour_lp20] at h; cases h
          | succ k ih20 =>
            intro l6 q h H locs hw ls hl kx20_0
            rw [fX12_writeTour_lp20] at h
            refine lv_iload_n hx hb dX12_writeTour_20 rfl (lv_at hl 1 rfl) ?_
            refine lv_iload hx hb dX12_writeTour_21 (lv_at hl 4 rfl) ?_
            refine lv_ishr hx hb dX12_writeTour_23 ?_
            refine lv_iconst (v := 1) hx hb dX12_writeTour_24 (by decide) ?_
            refine lv_iand hx hb dX12_writeTour_25 ?_
            refine lv_if_eq (tgt := 55) hx hb dX12_writeTour_26 (by decide) (fun c26 => ?_) (fun c26 => ?_)
            · have h := of_it h c26
              obtain ⟨x55, ex55⟩ : ∃ y : Int32, y = l6 + 1 := ⟨_, rfl⟩
              have h := of_bnd h ex55
              refine lv_iinc (v := x55) (lv' := [(6, .int x55), (0, .ref (ad 0)), (3, .int f3), (4, .int f4), (5, .int f5)]) hx hb dX12_writeTour_55 hl (k := 4) rfl (by rw [ex55]; rfl) (by decide) rfl (fun ls hl => ?_)
              refine lv_goto (tgt := 20) hx hb dX12_writeTour_58 (by decide) ?_
              exact ih20 x55 _ h _ _ hw ls (lv_sub hl [1, 2, 3, 4, 0] rfl) kx20_0
            · have h := of_if h c26
              refine lv_aload_n hx hb dX12_writeTour_29 rfl (lv_at hl 0 rfl) ?_
              refine lv_iload hx hb dX12_writeTour_30 (lv_at hl 2 rfl) ?_
              refine lv_iload hx hb dX12_writeTour_32 (lv_at hl 4 rfl) ?_
              obtain ⟨q34, hq34, h⟩ := of_cal h
              refine N_calli (av := [.int f4, .int l6]) (rest := []) ⟨hx, hb, hml, hown, hts⟩ hA hK hw (cX12_way_ok l D cI cJ ad n S f4 l6 hq34) (cwV 2 hts gX12_writeTour_X12_way rfl rfl rfl (by decide +kernel) ⟨Nat.le_of_ble_eq_true rfl, Nat.le_of_ble_eq_true rfl⟩) rfl hl.1 rfl (Nat.le_of_ble_eq_true rfl) dX12_writeTour_34 ⟨Nat.le_refl _, Nat.le_refl _⟩ (fun H locs hw => ?_)
              refine lv_aload_n hx hb dX12_writeTour_37 rfl (lv_at hl 0 rfl) ?_
              refine N_get hx hb hts hin hown hK hw 46 (by decide) rfl (index := 110) (by decide +kernel) rfl dX12_writeTour_38 ?_
              refine lv_bipush (v := 8) hx hb dX12_writeTour_41 (by decide) ?_
              refine lv_iload_n hx hb dX12_writeTour_43 rfl (lv_at hl 1 rfl) ?_
              refine lv_imul hx hb dX12_writeTour_44 ?_
              refine lv_iload hx hb dX12_writeTour_45 (lv_at hl 4 rfl) ?_
              refine lv_iadd hx hb dX12_writeTour_47 ?_
              obtain ⟨hi48, h⟩ := of_grd h
              refine va_iald hx hb hK hw.1 34 0 rfl rfl hi48 dX12_writeTour_48 ?_
              refine lv_topi (fun v48 ev48 => ?_)
              have h := of_bnd h ev48
              refine lv_iadd hx hb dX12_writeTour_49 ?_
              refine lv_iload hx hb dX12_writeTour_50 (lv_at hl 3 rfl) ?_
              refine lv_icmp_eq (tgt := 61) hx hb dX12_writeTour_52 (by decide) (fun c52 => ?_) (fun c52 => ?_)
              · have h := of_it h c52
                exact kx20_0 l6 (Option.some.inj h) _ _ hw ls (lv_sub hl [0, 1, 2, 3, 4] rfl)
              · have h := of_if h c52
                obtain ⟨x55, ex55⟩ : ∃ y : Int32, y = l6 + 1 := ⟨_, rfl⟩
                have h := of_bnd h ex55
                refine lv_iinc (v := x55) (lv' := [(6, .int x55), (0, .ref (ad 0)), (3, .int f3), (4, .int f4), (5, .int f5)]) hx hb dX12_writeTour_55 hl (k := 4) rfl (by rw [ex55]; rfl) (by decide) rfl (fun ls hl => ?_)
                refine lv_goto (tgt := 20) hx hb dX12_writeTour_58 (by decide) ?_
                exact ih20 x55 _ h _ _ hw ls (lv_sub hl [1, 2, 3, 4, 0] rfl) kx20_0
        obtain ⟨q20, hq20, h⟩ := of_cal h
        refine lp20 l3 l4 l5 S n.1 x18 q20  hq20 _ _ hw ls (lv_sub hl [1, 2, 3, 4, 0] rfl) ?_
        · intro t6_20 eq H locs hw ls hl
          subst eq
          refine lv_iload hx hb dX12_writeTour_61 (lv_at hl 3 rfl) ?_
          refine lv_aload_n hx hb dX12_writeTour_63 rfl (lv_at hl 0 rfl) ?_
          refine lv_iload hx hb dX12_writeTour_64 (lv_at hl 2 rfl) ?_
          refine lv_iload hx hb dX12_writeTour_66 (lv_at hl 4 rfl) ?_
          obtain ⟨q68, hq68, h⟩ := of_cal h
          refine N_calli (av := [.int l4, .int t6_20]) (rest := [.int l5]) ⟨hx, hb, hml, hown, hts⟩ hA hK hw (cX12_way_ok l D cI cJ ad n S l4 t6_20 hq68) (cwV 2 hts gX12_writeTour_X12_way rfl rfl rfl (by decide +kernel) ⟨Nat.le_of_ble_eq_true rfl, Nat.le_of_ble_eq_true rfl⟩) rfl hl.1 rfl (Nat.le_of_ble_eq_true rfl) dX12_writeTour_68 ⟨Nat.le_refl _, Nat.le_refl _⟩ (fun H locs hw => ?_)
          refine lv_isub hx hb dX12_writeTour_71 ?_
          refine lv_topi (fun x72 ex72 => ?_)
          have h := of_bnd h ex72
          refine lv_istore (lv' := [(5, .int x72), (0, .ref (ad 0)), (3, .int l3), (4, .int l4), (6, .int t6_20)]) hx hb dX12_writeTour_72 hl (by decide) rfl (fun ls hl => ?_)
          refine lv_aload_n hx hb dX12_writeTour_74 rfl (lv_at hl 1 rfl) ?_
          refine N_get hx hb hts hin hown hK hw 53 (by decide) rfl (index := 131) (by decide +kernel) rfl dX12_writeTour_75 ?_
          refine lv_aload_n hx hb dX12_writeTour_78 rfl (lv_at hl 1 rfl) ?_
          refine N_get hx hb hts hin hown hK hw 54 (by decide) rfl (index := 271) (by decide +kernel) rfl dX12_writeTour_79 ?_
          refine lv_topi (fun v79 ev79 => ?_)
          have h := of_bnd h ev79
          refine lv_aload_n hx hb dX12_writeTour_82 rfl (lv_at hl 1 rfl) ?_
          refine N_get hx hb hts hin hown hK hw 45 (by decide) rfl (index := 107) (by decide +kernel) rfl dX12_writeTour_83 ?_
          refine lv_iload hx hb dX12_writeTour_86 (lv_at hl 4 rfl) ?_
          obtain ⟨hi88, h⟩ := of_grd h
          refine va_iald hx hb hK hw.1 33 0 rfl rfl hi88 dX12_writeTour_88 ?_
          refine lv_topi (fun v88 ev88 => ?_)
          have h := of_bnd h ev88
          obtain ⟨hi89, h⟩ := of_grd h
          refine N_iast hx hb hK hw 41 rfl hi89 (pA_53 cI cJ ad S _) dX12_writeTour_89 (fun S89 H locs eS89 hw => ?_)
          have h := of_bnd h eS89
          refine lv_aload_n hx hb dX12_writeTour_90 rfl (lv_at hl 1 rfl) ?_
          refine lv_dup hx hb dX12_writeTour_91 rfl ?_
          refine N_get hx hb hts hin hown hK hw 54 (by decide) rfl (index := 271) (by decide +kernel) rfl dX12_writeTour_92 ?_
          refine lv_topi (fun v92 ev92 => ?_)
          have h := of_bnd h ev92
          refine lv_iconst (v := 1) hx hb dX12_writeTour_95 (by decide) ?_
          refine lv_iadd hx hb dX12_writeTour_96 ?_
          refine N_put hx hb hts hin hown hK hw 54 (by decide) rfl rfl (index := 271) (by decide +kernel) (ty := .int) (by decide +kernel) rfl rfl (pI_54 cI cJ ad S89 _) dX12_writeTour_97 (fun S97 H locs eS97 hw => ?_)
          have h := of_bnd h eS97
          refine lv_iload_n hx hb dX12_writeTour_100 rfl (lv_at hl 2 rfl) ?_
          refine lv_iconst (v := 1) hx hb dX12_writeTour_101 (by decide) ?_
          refine lv_iload hx hb dX12_writeTour_102 (lv_at hl 4 rfl) ?_
          refine lv_ishl hx hb dX12_writeTour_104 ?_
          refine lv_ixor hx hb dX12_writeTour_105 ?_
          refine lv_topi (fun x106 ex106 => ?_)
          have h := of_bnd h ex106
          refine lv_istore_n (lv' := [(3, .int x106), (5, .int x72), (0, .ref (ad 0)), (4, .int l4), (6, .int t6_20)]) hx hb dX12_writeTour_106 rfl hl (by decide) rfl (fun ls hl => ?_)
          refine lv_iload hx hb dX12_writeTour_107 (lv_at hl 4 rfl) ?_
          refine lv_istore (lv' := [(4, .int t6_20), (3, .int x106), (5, .int x72), (0, .ref (ad 0)), (6, .int t6_20)]) hx hb dX12_writeTour_109 hl (by decide) rfl (fun ls hl => ?_)
          refine lv_goto (tgt := 13) hx hb dX12_writeTour_111 (by decide) ?_
          exact ih13 x106 t6_20 x72 S97 _ h _ _ hw ls (lv_sub hl [3, 1, 0, 2] rfl) kx13_0
  obtain ⟨q13, hq13, h⟩ := of_cal h
  refine lp13 n.1 a1 x3 v10 S q13  hq13 _ _ hw ls (lv_sub hl [3, 2, 1, 0] rfl) ?_
  · intro S13 eq H locs hw ls hl
    subst eq
    obtain rfl := Option.some.inj h
    exact M_vret hx hb hr hlocks hK hw.1 hw.2.1 hw.2.2 dX12_writeTour_114 rfl

def fX12_isFirst_lp2 (n : Nat × Nat) (S : MS) (f1 : Int32) : Nat → Int32 → Option (Nat × Int32)
  | 0, _ => none
  | k + 1, l2 =>
    bnd (mI S 54) (fun v4 => if v4 ≤ l2 then 
        some (1, l2)
        else grd (¬ (f1 < 0 ∨ 256 ≤ f1.toNatClampNeg)) (bnd (mA S 52 f1.toNatClampNeg) (fun v16 => if v16 ≤ l2 then 
          some (1, l2)
          else grd (¬ (l2 < 0 ∨ 16 ≤ l2.toNatClampNeg)) (bnd (mA S 53 l2.toNatClampNeg) (fun v25 => grd (¬ ((((16 : Int32) * f1) + l2) < 0 ∨ 4096 ≤ (((16 : Int32) * f1) + l2).toNatClampNeg)) (bnd (mA S 51 (((16 : Int32) * f1) + l2).toNatClampNeg) (fun v36 => if v25 = v36 then 
            bnd (l2 + 1) (fun x66 => fX12_isFirst_lp2 n S f1 k x66 )
            else some (0, l2))))))))
def fX12_isFirst (n : Nat × Nat) (S : MS) (a1 : Int32) : Option Int32 :=
  bnd (0 : Int32) (fun x1 => cal (fX12_isFirst_lp2 n S a1 n.1 x1 ) (un2 fun e2 t2_2 => if e2 = 0 then grd (¬ (t2_2 < 0 ∨ 16 ≤ t2_2.toNatClampNeg)) (bnd (mA S 53 t2_2.toNatClampNeg) (fun v45 => grd (¬ ((((16 : Int32) * a1) + t2_2) < 0 ∨ 4096 ≤ (((16 : Int32) * a1) + t2_2).toNatClampNeg)) (bnd (mA S 51 (((16 : Int32) * a1) + t2_2).toNatClampNeg) (fun v56 => if v56 ≤ v45 then 
      some (0 : Int32)
      else some (1 : Int32))))) else some (0 : Int32)))
set_option maxHeartbeats 8000000 in
set_option maxRecDepth 100000 in
theorem cX12_isFirst_ok (l : Launch) (D : va_G) (cI cJ : ClassId) (ad : Nat → Nat) (n : Nat × Nat) (S : MS) (a1 : Int32) {r : Int32} (h : fX12_isFirst n S a1 = some r) : Mi l yX12_isFirst wsX12_isFirst (cRm 0 0 0 0) D cI cJ ad [.int a1] S (fun r1 u => r1 = r ∧ u = S) := by
  refine Mi_of (cc := cX12_isFirst) (nL := 3) (ret := (some .boolean)) (by decide) rfl rfl (Nat.le_of_ble_eq_true rfl) ?_
  intro p e s m args below meth c A hx hb hr hlocks hml hts hown hA hK hP hD hS ls hl
  have hw : mWd D cI cJ ad A s.heap S s.heap [] := ⟨hP, hD, hS⟩
  unfold fX12_isFirst at h
  have hin : ∀ w ∈ wsX120, w ∈ wsX12_isFirst := fun w h => List.mem_cons_of_mem _ (List.mem_append_right _ h)
  have hl : lv_has ls 3 [(0, .ref (ad 0)), (1, .int a1)] := hl
  refine lv_iconst (v := 0) hx hb dX12_isFirst_0 (by decide) ?_
  refine lv_topi (fun x1 ex1 => ?_)
  have h := of_bnd h ex1
  refine lv_istore_n (lv' := [(2, .int x1), (0, .ref (ad 0)), (1, .int a1)]) hx hb dX12_isFirst_1 rfl hl (by decide) rfl (fun ls hl => ?_)
  have lp2 : ∀ (f1 : Int32) (S : MS) (k : Nat) (l2 : Int32) (q : Nat × Int32) , fX12_isFirst_lp2 n S f1 k l2  = some q → ∀ (H : Heap) (locs : List Loc), mWd D cI cJ ad A s.heap S H locs → ∀ ls : Array Slot, lv_has ls 3 [(0, .ref (ad 0)), (1, .int f1), (2, .int l2)] → (∀ (t2 : Int32), (0, t2) = q → ∀ (H : Heap) (locs : List Loc), mWd D cI cJ ad A s.heap S H locs → ∀ ls : Array Slot, lv_has ls 3 [(0, .ref (ad 0)), (1, .int f1), (2, .int t2)] → W p l e (cRm 0 0 0 0) s m args below meth c H locs (0) (0) (MQ below (va_Qi (fun x u => x = r ∧ u = S) (mAft D cI cJ ad A) A) args s 0 0 A) (F0 m 40 ls [])) → (∀ (t2 : Int32), (1, t2) = q → ∀ (H : Heap) (locs : List Loc), mWd D cI cJ ad A s.heap S H locs → ∀ ls : Array Slot, lv_has ls 3 [] → W p l e (cRm 0 0 0 0) s m args below meth c H locs (0) (0) (MQ below (va_Qi (fun x u => x = r ∧ u = S) (mAft D cI cJ ad A) A) args s 0 0 A) (F0 m 72 ls [])) → W p l e (cRm 0 0 0 0) s m args below meth c H locs (0) (0) (MQ below (va_Qi (fun x u => x = r ∧ u = S) (mAft D cI cJ ad A) A) args s 0 0 A) (F0 m 2 ls []) := by
    intro f1 S k
    induction k with
    | zero => intro l2 q h; rw [fX12_isFirst_lp2] at h; cases h
    | succ k ih2 =>
      intro l2 q h H locs hw ls hl kx2_0 kx2_1
      rw [fX12_isFirst_lp2] at h
      refine lv_iload_n hx hb dX12_isFirst_2 rfl (lv_at hl 2 rfl) ?_
      refine lv_aload_n hx hb dX12_isFirst_3 rfl (lv_at hl 0 rfl) ?_
      refine N_get hx hb hts hin hown hK hw 54 (by decide) rfl (index := 271) (by decide +kernel) rfl dX12_isFirst_4 ?_
      refine lv_topi (fun v4 ev4 => ?_)
      have h := of_bnd h ev4
      refine lv_icmp_ge (tgt := 72) hx hb dX12_isFirst_7 (by decide) (fun c7 => ?_) (fun c7 => ?_)
      · have h := of_it h c7
        exact kx2_1 l2 (Option.some.inj h) _ _ hw ls (lv_sub hl [] rfl)
      · have h := of_if h c7
        refine lv_iload_n hx hb dX12_isFirst_10 rfl (lv_at hl 2 rfl) ?_
        refine lv_aload_n hx hb dX12_isFirst_11 rfl (lv_at hl 0 rfl) ?_
        refine N_get hx hb hts hin hown hK hw 52 (by decide) rfl (index := 128) (by decide +kernel) rfl dX12_isFirst_12 ?_
        refine lv_iload_n hx hb dX12_isFirst_15 rfl (lv_at hl 1 rfl) ?_
        obtain ⟨hi16, h⟩ := of_grd h
        refine va_iald hx hb hK hw.1 40 0 rfl rfl hi16 dX12_isFirst_16 ?_
        refine lv_topi (fun v16 ev16 => ?_)
        have h := of_bnd h ev16
        refine lv_icmp_ge (tgt := 72) hx hb dX12_isFirst_17 (by decide) (fun c17 => ?_) (fun c17 => ?_)
        · have h := of_it h c17
          exact kx2_1 l2 (Option.some.inj h) _ _ hw ls (lv_sub hl [] rfl)
        · have h := of_if h c17
          refine lv_aload_n hx hb dX12_isFirst_20 rfl (lv_at hl 0 rfl) ?_
          refine N_get hx hb hts hin hown hK hw 53 (by decide) rfl (index := 131) (by decide +kernel) rfl dX12_isFirst_21 ?_
          refine lv_iload_n hx hb dX12_isFirst_24 rfl (lv_at hl 2 rfl) ?_
          obtain ⟨hi25, h⟩ := of_grd h
          refine va_iald hx hb hK hw.1 41 0 rfl rfl hi25 dX12_isFirst_25 ?_
          refine lv_topi (fun v25 ev25 => ?_)
          have h := of_bnd h ev25
          refine lv_aload_n hx hb dX12_isFirst_26 rfl (lv_at hl 0 rfl) ?_
          refine N_get hx hb hts hin hown hK hw 51 (by decide) rfl (index := 125) (by decide +kernel) rfl dX12_isFirst_27 ?_
          refine lv_bipush (v := 16) hx hb dX12_isFirst_30 (by decide) ?_
          refine lv_iload_n hx hb dX12_isFirst_32 rfl (lv_at hl 1 rfl) ?_
          refine lv_imul hx hb dX12_isFirst_33 ?_
          refine lv_iload_n hx hb dX12_isFirst_34 rfl (lv_at hl 2 rfl) ?_
          refine lv_iadd hx hb dX12_isFirst_35 ?_
          obtain ⟨hi36, h⟩ := of_grd h
          refine va_iald hx hb hK hw.1 39 0 rfl rfl hi36 dX12_isFirst_36 ?_
          refine lv_topi (fun v36 ev36 => ?_)
          have h := of_bnd h ev36
          refine lv_icmp_eq (tgt := 66) hx hb dX12_isFirst_37 (by decide) (fun c37 => ?_) (fun c37 => ?_)
          · have h := of_it h c37
            obtain ⟨x66, ex66⟩ : ∃ y : Int32, y = l2 + 1 := ⟨_, rfl⟩
            have h := of_bnd h ex66
            refine lv_iinc (v := x66) (lv' := [(2, .int x66), (0, .ref (ad 0)), (1, .int f1)]) hx hb dX12_isFirst_66 hl (k := 2) rfl (by rw [ex66]; rfl) (by decide) rfl (fun ls hl => ?_)
            refine lv_goto (tgt := 2) hx hb dX12_isFirst_69 (by decide) ?_
            exact ih2 x66 _ h _ _ hw ls (lv_sub hl [1, 2, 0] rfl) kx2_0 kx2_1
          · have h := of_if h c37
            exact kx2_0 l2 (Option.some.inj h) _ _ hw ls (lv_sub hl [0, 1, 2] rfl)
  obtain ⟨q2, hq2, h⟩ := of_cal h
  refine lp2 a1 S n.1 x1 q2  hq2 _ _ hw ls (lv_sub hl [1, 2, 0] rfl) ?_ ?_
  · intro t2_2 eq H locs hw ls hl
    subst eq
    have h := of_un2 h
    have h := of_it h rfl
    refine lv_aload_n hx hb dX12_isFirst_40 rfl (lv_at hl 0 rfl) ?_
    refine N_get hx hb hts hin hown hK hw 53 (by decide) rfl (index := 131) (by decide +kernel) rfl dX12_isFirst_41 ?_
    refine lv_iload_n hx hb dX12_isFirst_44 rfl (lv_at hl 2 rfl) ?_
    obtain ⟨hi45, h⟩ := of_grd h
    refine va_iald hx hb hK hw.1 41 0 rfl rfl hi45 dX12_isFirst_45 ?_
    refine lv_topi (fun v45 ev45 => ?_)
    have h := of_bnd h ev45
    refine lv_aload_n hx hb dX12_isFirst_46 rfl (lv_at hl 0 rfl) ?_
    refine N_get hx hb hts hin hown hK hw 51 (by decide) rfl (index := 125) (by decide +kernel) rfl dX12_isFirst_47 ?_
    refine lv_bipush (v := 16) hx hb dX12_isFirst_50 (by decide) ?_
    refine lv_iload_n hx hb dX12_isFirst_52 rfl (lv_at hl 1 rfl) ?_
    refine lv_imul hx hb dX12_isFirst_53 ?_
    refine lv_iload_n hx hb dX12_isFirst_54 rfl (lv_at hl 2 rfl) ?_
    refine lv_iadd hx hb dX12_isFirst_55 ?_
    obtain ⟨hi56, h⟩ := of_grd h
    refine va_iald hx hb hK hw.1 39 0 rfl rfl hi56 dX12_isFirst_56 ?_
    refine lv_topi (fun v56 ev56 => ?_)
    have h := of_bnd h ev56
    refine lv_icmp_ge (tgt := 64) hx hb dX12_isFirst_57 (by decide) (fun c57 => ?_) (fun c57 => ?_)
    · have h := of_it h c57
      refine lv_iconst (v := 0) hx hb dX12_isFirst_64 (by decide) ?_
      obtain rfl := Option.some.inj h
      exact M_zret hx hb hr hlocks hK hw.1 hw.2.1 hw.2.2 dX12_isFirst_65 (by first | rfl | decide) ⟨rfl, rfl⟩
    · have h := of_if h c57
      refine lv_iconst (v := 1) hx hb dX12_isFirst_60 (by decide) ?_
      refine lv_goto (tgt := 65) hx hb dX12_isFirst_61 (by decide) ?_
      obtain rfl := Option.some.inj h
      exact M_zret hx hb hr hlocks hK hw.1 hw.2.1 hw.2.2 dX12_isFirst_65 (by first | rfl | decide) ⟨rfl, rfl⟩
  · intro t2_2 eq H locs hw ls hl
    subst eq
    have h := of_un2 h
    have h := of_if h (by decide)
    refine lv_iconst (v := 0) hx hb dX12_isFirst_72 (by decide) ?_
    obtain rfl := Option.some.inj h
    exact M_zret hx hb hr hlocks hK hw.1 hw.2.1 hw.2.2 dX12_isFirst_73 (by first | rfl | decide) ⟨rfl, rfl⟩

def fX12_findRounds_lp170 (n : Nat × Nat) (f6 : Int32) : Nat → Int32 → MS → Option (MS)
  | 0, _, _ => none
  | k + 1, l9, S =>
    grd (¬ (f6 < 0 ∨ 256 ≤ f6.toNatClampNeg)) (bnd (mA S 52 f6.toNatClampNeg) (fun v178 => if v178 ≤ l9 then 
                          some S
                          else bnd (mI S 54) (fun v187 => grd (¬ ((((16 : Int32) * f6) + l9) < 0 ∨ 4096 ≤ (((16 : Int32) * f6) + l9).toNatClampNeg)) (bnd (mA S 51 (((16 : Int32) * f6) + l9).toNatClampNeg) (fun v207 => grd (¬ (((v187 + (1 : Int32)) + l9) < 0 ∨ 16 ≤ ((v187 + (1 : Int32)) + l9).toNatClampNeg)) (bnd (sA S 53 (upd (mA S 53) ((v187 + (1 : Int32)) + l9).toNatClampNeg v207)) (fun S208 => bnd (l9 + 1) (fun x209 => fX12_findRounds_lp170 n f6 k x209 S208))))))))
def fX12_findRounds_lp308 (n : Nat × Nat) (f3 : Int32) : Nat → Int32 → MS → Option (MS)
  | 0, _, _ => none
  | k + 1, l9, S =>
    bnd (mI S 54) (fun v311 => if v311 ≤ l9 then 
                          some S
                          else grd (¬ (l9 < 0 ∨ 16 ≤ l9.toNatClampNeg)) (bnd (mA S 53 l9.toNatClampNeg) (fun v334 => grd (¬ ((((16 : Int32) * f3) + l9) < 0 ∨ 4096 ≤ (((16 : Int32) * f3) + l9).toNatClampNeg)) (bnd (sA S 51 (upd (mA S 51) (((16 : Int32) * f3) + l9).toNatClampNeg v334)) (fun S335 => bnd (l9 + 1) (fun x336 => fX12_findRounds_lp308 n f3 k x336 S335))))))
def fX12_findRounds_lp56 (n : Nat × Nat) (f1 : Int32) (f2 : Int32) (f3 : Int32) (f4 : Int32) : Nat → Int32 → MS → Option (MS)
  | 0, _, _ => none
  | k + 1, l5, S =>
    if l5 ≤ 0 then 
              some S
              else if (l5 &&& f4) = 0 then 
                bnd ((l5 - (1 : Int32)) &&& f3) (fun x348 => fX12_findRounds_lp56 n f1 f2 f3 f4 k x348 S)
                else grd (¬ (l5 < 0 ∨ 256 ≤ l5.toNatClampNeg)) (bnd (mB S 48 l5.toNatClampNeg) (fun v75 => if (lg_cmp v75 f2.toInt64) ≤ 0 then 
                  bnd (f3 ^^^ l5) (fun x89 => grd (¬ (l5 < 0 ∨ 256 ≤ l5.toNatClampNeg)) (bnd (mA S 47 l5.toNatClampNeg) (fun v97 => grd (¬ (x89 < 0 ∨ 256 ≤ x89.toNatClampNeg)) (bnd (mA S 49 x89.toNatClampNeg) (fun v104 => bnd (v97 + v104) (fun x106 => grd (¬ (x89 < 0 ∨ 256 ≤ x89.toNatClampNeg)) (bnd (mA S 50 x89.toNatClampNeg) (fun v115 => bnd ((1 : Int32) + v115) (fun x117 => grd (¬ (f3 < 0 ∨ 256 ≤ f3.toNatClampNeg)) (bnd (mA S 49 f3.toNatClampNeg) (fun v126 => if v126 < x106 then 
                    bnd ((l5 - (1 : Int32)) &&& f3) (fun x348 => fX12_findRounds_lp56 n f1 f2 f3 f4 k x348 S)
                    else grd (¬ (f3 < 0 ∨ 256 ≤ f3.toNatClampNeg)) (bnd (mA S 49 f3.toNatClampNeg) (fun v137 => bnd (fun (S : MS) => bnd (sI S 54 (0 : Int32)) (fun S157 => cal (fX12_writeTour n S157 l5 f1) (fun S164 => bnd (0 : Int32) (fun x168 => cal (fX12_findRounds_lp170 n x89 n.1 x168 S164) (fun S170 => bnd (fun (S : MS) => grd (¬ (f3 < 0 ∨ 256 ≤ f3.toNatClampNeg)) (bnd (mA S 49 f3.toNatClampNeg) (fun v256 => bnd (fun (S : MS) => grd (¬ (f3 < 0 ∨ 256 ≤ f3.toNatClampNeg)) (bnd (sA S 49 (upd (mA S 49) f3.toNatClampNeg x106)) (fun S286 => grd (¬ (f3 < 0 ∨ 256 ≤ f3.toNatClampNeg)) (bnd (sA S286 50 (upd (mA S286 50) f3.toNatClampNeg x117)) (fun S294 => bnd (mI S294 54) (fun v301 => grd (¬ (f3 < 0 ∨ 256 ≤ f3.toNatClampNeg)) (bnd (sA S294 52 (upd (mA S294 52) f3.toNatClampNeg v301)) (fun S304 => bnd (0 : Int32) (fun x306 => cal (fX12_findRounds_lp308 n f3 n.1 x306 S304) (fun S308 => bnd ((l5 - (1 : Int32)) &&& f3) (fun x348 => fX12_findRounds_lp56 n f1 f2 f3 f4 k x348 S308))))))))))) (fun j279 => if x106 < v256 then 
                          j279  S
                          else grd (¬ (f3 < 0 ∨ 256 ≤ f3.toNatClampNeg)) (bnd (mA S 50 f3.toNatClampNeg) (fun v267 => if x117 < v267 then 
                          j279  S
                          else cal (fX12_isFirst n S f3) (fun q273 => if q273 = 0 then 
                          bnd ((l5 - (1 : Int32)) &&& f3) (fun x348 => fX12_findRounds_lp56 n f1 f2 f3 f4 k x348 S)
                          else j279  S))))))) (fun j249 => if x89 = 0 then 
                          j249  S170
                          else bnd (mI S170 54) (fun v225 => grd (¬ (v225 < 0 ∨ 16 ≤ v225.toNatClampNeg)) (bnd (sA S170 53 (upd (mA S170 53) v225.toNatClampNeg (12 : Int32))) (fun S230 => bnd (mI S230 54) (fun v233 => grd (¬ (x89 < 0 ∨ 256 ≤ x89.toNatClampNeg)) (bnd (mA S230 52 x89.toNatClampNeg) (fun v243 => bnd (sI S230 54 (v233 + ((1 : Int32) + v243))) (fun S246 => j249  S246))))))))))))) (fun j155 => if x106 = v137 then 
                      grd (¬ (f3 < 0 ∨ 256 ≤ f3.toNatClampNeg)) (bnd (mA S 50 f3.toNatClampNeg) (fun v148 => if x117 ≤ v148 then 
                        j155  S
                        else bnd ((l5 - (1 : Int32)) &&& f3) (fun x348 => fX12_findRounds_lp56 n f1 f2 f3 f4 k x348 S)))
                      else j155  S))))))))))))))
                  else bnd ((l5 - (1 : Int32)) &&& f3) (fun x348 => fX12_findRounds_lp56 n f1 f2 f3 f4 k x348 S)))
def fX12_findRounds_lp23 (n : Nat × Nat) (f1 : Int32) (f2 : Int32) : Nat → Int32 → MS → Option (MS)
  | 0, _, _ => none
  | k + 1, l3, S =>
    if ((1 : Int32) <<< (f1 &&& 31)) ≤ l3 then 
        some S
        else bnd (l3 &&& (-l3)) (fun x34 => grd (¬ (l3 < 0 ∨ 256 ≤ l3.toNatClampNeg)) (bnd (sA S 49 (upd (mA S 49) l3.toNatClampNeg (100000000 : Int32))) (fun S44 => grd (¬ (l3 < 0 ∨ 256 ≤ l3.toNatClampNeg)) (bnd (sA S44 50 (upd (mA S44 50) l3.toNatClampNeg (100 : Int32))) (fun S52 => cal (fX12_findRounds_lp56 n f1 f2 l3 x34 n.1 l3 S52) (fun S56 => bnd (l3 + 1) (fun x353 => fX12_findRounds_lp23 n f1 f2 k x353 S56)))))))
def fX12_findRounds (n : Nat × Nat) (S : MS) (a1 : Int32) (a2 : Int32) : Option (MS) :=
  grd (¬ ((0 : Int32) < 0 ∨ 256 ≤ (0 : Int32).toNatClampNeg)) (bnd (sA S 49 (upd (mA S 49) (0 : Int32).toNatClampNeg (0 : Int32))) (fun S6 => grd (¬ ((0 : Int32) < 0 ∨ 256 ≤ (0 : Int32).toNatClampNeg)) (bnd (sA S6 50 (upd (mA S6 50) (0 : Int32).toNatClampNeg (0 : Int32))) (fun S13 => grd (¬ ((0 : Int32) < 0 ∨ 256 ≤ (0 : Int32).toNatClampNeg)) (bnd (sA S13 52 (upd (mA S13 52) (0 : Int32).toNatClampNeg (0 : Int32))) (fun S20 => bnd (1 : Int32) (fun x22 => cal (fX12_findRounds_lp23 n a1 a2 n.1 x22 S20) (fun S23 => some S23))))))))
set_option maxHeartbeats 8000000 in
set_option maxRecDepth 100000 in
theorem cX12_findRounds_ok (l : Launch) (D : va_G) (cI cJ : ClassId) (ad : Nat → Nat) (n : Nat × Nat) (S : MS) (a1 : Int32) (a2 : Int32) {T : MS} (h : fX12_findRounds n S a1 a2 = some T) : Mv l yX12_findRounds wsX12_findRounds (cRm 2 48 0 0) D cI cJ ad [.int a1, .int a2] S (fun u => u = T) := by
  refine Mv_of (cc := cX12_findRounds) (nL := 10) (ret := none) (by decide) rfl rfl (Nat.le_of_ble_eq_true rfl) ?_
  intro p e s m args below meth c A hx hb hr hlocks hml hts hown hA hK hP hD hS ls hl
  have hw : mWd D cI cJ ad A s.heap S s.heap [] := ⟨hP, hD, hS⟩
  unfold fX12_findRounds at h
  have hin : ∀ w ∈ wsX120, w ∈ wsX12_findRounds := fun w h => List.mem_cons_of_mem _ (List.mem_append_right _ h)
  have hl : lv_has ls 10 [(0, .ref (ad 0)), (1, .int a1), (2, .int a2)] := hl
  refine lv_aload_n hx hb dX12_findRounds_0 rfl (lv_at hl 0 rfl) ?_
  refine N_get hx hb hts hin hown hK hw 49 (by decide) rfl (index := 119) (by decide +kernel) rfl dX12_findRounds_1 ?_
  refine lv_iconst (v := 0) hx hb dX12_findRounds_4 (by decide) ?_
  refine lv_iconst (v := 0) hx hb dX12_findRounds_5 (by decide) ?_
  obtain ⟨hi6, h⟩ := of_grd h
  refine N_iast hx hb hK hw 37 rfl hi6 (pA_49 cI cJ ad S _) dX12_findRounds_6 (fun S6 H locs eS6 hw => ?_)
  have h := of_bnd h eS6
  refine lv_aload_n hx hb dX12_findRounds_7 rfl (lv_at hl 0 rfl) ?_
  refine N_get hx hb hts hin hown hK hw 50 (by decide) rfl (index := 122) (by decide +kernel) rfl dX12_findRounds_8 ?_
  refine lv_iconst (v := 0) hx hb dX12_findRounds_11 (by decide) ?_
  refine lv_iconst (v := 0) hx hb dX12_findRounds_12 (by decide) ?_
  obtain ⟨hi13, h⟩ := of_grd h
  refine N_iast hx hb hK hw 38 rfl hi13 (pA_50 cI cJ ad S6 _) dX12_findRounds_13 (fun S13 H locs eS13 hw => ?_)
  have h := of_bnd h eS13
  refine lv_aload_n hx hb dX12_findRounds_14 rfl (lv_at hl 0 rfl) ?_
  refine N_get hx hb hts hin hown hK hw 52 (by decide) rfl (index := 128) (by decide +kernel) rfl dX12_findRounds_15 ?_
  refine lv_iconst (v := 0) hx hb dX12_findRounds_18 (by decide) ?_
  refine lv_iconst (v := 0) hx hb dX12_findRounds_19 (by decide) ?_
  obtain ⟨hi20, h⟩ := of_grd h
  refine N_iast hx hb hK hw 40 rfl hi20 (pA_52 cI cJ ad S13 _) dX12_findRounds_20 (fun S20 H locs eS20 hw => ?_)
  have h := of_bnd h eS20
  refine lv_iconst (v := 1) hx hb dX12_findRounds_21 (by decide) ?_
  refine lv_topi (fun x22 ex22 => ?_)
  have h := of_bnd h ex22
  refine lv_istore_n (lv' := [(3, .int x22), (0, .ref (ad 0)), (1, .int a1), (2, .int a2)]) hx hb dX12_findRounds_22 rfl hl (by decide) rfl (fun ls hl => ?_)
  have lp23 : ∀ (f1 : Int32) (f2 : Int32) (k : Nat) (l3 : Int32) (S : MS) (q : MS) , fX12_findRounds_lp23 n f1 f2 k l3 S = some q → ∀ (H : Heap) (locs : List Loc), mWd D cI cJ ad A s.heap S H locs → ∀ ls : Array Slot, lv_has ls 10 [(0, .ref (ad 0)), (1, .int f1), (2, .int f2), (3, .int l3)] → (∀  (S1 : MS), S1 = q → ∀ (H : Heap) (locs : List Loc), mWd D cI cJ ad A s.heap S1 H locs → ∀ ls : Array Slot, lv_has ls 10 [] → W p l e (cRm 2 48 0 0) s m args below meth c H locs (0) (0) (MQ below (va_Qv (fun u => u = T) (mAft D cI cJ ad A) A) args s 0 0 A) (F0 m 359 ls [])) → W p l e (cRm 2 48 0 0) s m args below meth c H locs (0) (0) (MQ below (va_Qv (fun u => u = T) (mAft D cI cJ ad A) A) args s 0 0 A) (F0 m 23 ls []) := by
    intro f1 f2 k
    induction k with
    | zero => intro l3 S q h; rw [fX12_findRounds_lp23] at h; cases h
    | succ k ih23 =>
      intro l3 S q h H locs hw ls hl kx23_0
      rw [fX12_findRounds_lp23] at h
      refine lv_iload_n hx hb dX12_findRounds_23 rfl (lv_at hl 3 rfl) ?_
      refine lv_iconst (v := 1) hx hb dX12_findRounds_24 (by decide) ?_
      refine lv_iload_n hx hb dX12_findRounds_25 rfl (lv_at hl 1 rfl) ?_
      refine lv_ishl hx hb dX12_findRounds_26 ?_
      refine lv_icmp_ge (tgt := 359) hx hb dX12_findRounds_27 (by decide) (fun c27 => ?_) (fun c27 => ?_)
      · have h := of_it h c27
        exact kx23_0 S (Option.some.inj h) _ _ hw ls (lv_sub hl [] rfl)
      · have h := of_if h c27
        refine lv_iload_n hx hb dX12_findRounds_30 rfl (lv_at hl 3 rfl) ?_
        refine lv_iload_n hx hb dX12_findRounds_31 rfl (lv_at hl 3 rfl) ?_
        refine lv_ineg hx hb dX12_findRounds_32 ?_
        refine lv_iand hx hb dX12_findRounds_33 ?_
        refine lv_topi (fun x34 ex34 => ?_)
        have h := of_bnd h ex34
        refine lv_istore (lv' := [(4, .int x34), (0, .ref (ad 0)), (1, .int f1), (2, .int f2), (3, .int l3)]) hx hb dX12_findRounds_34 hl (by decide) rfl (fun ls hl => ?_)
        refine lv_aload_n hx hb dX12_findRounds_36 rfl (lv_at hl 1 rfl) ?_
        refine N_get hx hb hts hin hown hK hw 49 (by decide) rfl (index := 119) (by decide +kernel) rfl dX12_findRounds_37 ?_
        refine lv_iload_n hx hb dX12_findRounds_40 rfl (lv_at hl 4 rfl) ?_
        refine lv_ldcw (v := 100000000) hx hb hown (hts (.constant RX12 274 (100000000)) (by decide +kernel)) dX12_findRounds_41 ?_
        obtain ⟨hi44, h⟩ := of_grd h
        refine N_iast hx hb hK hw 37 rfl hi44 (pA_49 cI cJ ad S _) dX12_findRounds_44 (fun S44 H locs eS44 hw => ?_)
        have h := of_bnd h eS44
        refine lv_aload_n hx hb dX12_findRounds_45 rfl (lv_at hl 1 rfl) ?_
        refine N_get hx hb hts hin hown hK hw 50 (by decide) rfl (index := 122) (by decide +kernel) rfl dX12_findRounds_46 ?_
        refine lv_iload_n hx hb dX12_findRounds_49 rfl (lv_at hl 4 rfl) ?_
        refine lv_bipush (v := 100) hx hb dX12_findRounds_50 (by decide) ?_
        obtain ⟨hi52, h⟩ := of_grd h
        refine N_iast hx hb hK hw 38 rfl hi52 (pA_50 cI cJ ad S44 _) dX12_findRounds_52 (fun S52 H locs eS52 hw => ?_)
        have h := of_bnd h eS52
        refine lv_iload_n hx hb dX12_findRounds_53 rfl (lv_at hl 4 rfl) ?_
        refine lv_istore (lv' := [(5, .int l3), (4, .int x34), (0, .ref (ad 0)), (1, .int f1), (2, .int f2), (3, .int l3)]) hx hb dX12_findRounds_54 hl (by decide) rfl (fun ls hl => ?_)
        have lp56 : ∀ (f1 : Int32) (f2 : Int32) (f3 : Int32) (f4 : Int32) (k : Nat) (l5 : Int32) (S : MS) (q : MS) , fX12_findRounds_lp56 n f1 f2 f3 f4 k l5 S = some q → ∀ (H : Heap) (locs : List Loc), mWd D cI cJ ad A s.heap S H locs → ∀ ls : Array Slot, lv_has ls 10 [(0, .ref (ad 0)), (1, .int f1), (2, .int f2), (3, .int f3), (4, .int f4), (5, .int l5)] → (∀  (S1 : MS), S1 = q → ∀ (H : Heap) (locs : List Loc), mWd D cI cJ ad A s.heap S1 H locs → ∀ ls : Array Slot, lv_has ls 10 [(0, .ref (ad 0)), (1, .int f1), (2, .int f2), (3, .int f3)] → W p l e (cRm 2 48 0 0) s m args below meth c H locs (0) (0) (MQ below (va_Qv (fun u => u = T) (mAft D cI cJ ad A) A) args s 0 0 A) (F0 m 353 ls [])) → W p l e (cRm 2 48 0 0) s m args below meth c H locs (0) (0) (MQ below (va_Qv (fun u => u = T) (mAft D cI cJ ad A) A) args s 0 0 A) (F0 m 56 ls []) := by
          intro f1 f2 f3 f4 k
          induction k with
          | zero => intro l5 S q h; rw [fX12_findRounds_lp56] at h; cases h
          | succ k ih56 =>
            intro l5 S q h H locs hw ls hl kx56_0
            rw [fX12_findRounds_lp56] at h
            refine lv_iload hx hb dX12_findRounds_56 (lv_at hl 5 rfl) ?_
            refine lv_if_le (tgt := 353) hx hb dX12_findRounds_58 (by decide) (fun c58 => ?_) (fun c58 => ?_)
            · have h := of_it h c58
              exact kx56_0 S (Option.some.inj h) _ _ hw ls (lv_sub hl [0, 1, 2, 3] rfl)
            · have h := of_if h c58
              refine lv_iload hx hb dX12_findRounds_61 (lv_at hl 5 rfl) ?_
              refine lv_iload hx hb dX12_findRounds_63 (lv_at hl 4 rfl) ?_
              refine lv_iand hx hb dX12_findRounds_65 ?_
              refine lv_if_eq (tgt := 342) hx hb dX12_findRounds_66 (by decide) (fun c66 => ?_) (fun c66 => ?_)
              · have h := of_it h c66
                refine lv_iload hx hb dX12_findRounds_342 (lv_at hl 5 rfl) ?_
                refine lv_iconst (v := 1) hx hb dX12_findRounds_344 (by decide) ?_
                refine lv_isub hx hb dX12_findRounds_345 ?_
                refine lv_iload_n hx hb dX12_findRounds_346 rfl (lv_at hl 3 rfl) ?_
                refine lv_iand hx hb dX12_findRounds_347 ?_
                refine lv_topi (fun x348 ex348 => ?_)
                have h := of_bnd h ex348
                refine lv_istore (lv' := [(5, .int x348), (0, .ref (ad 0)), (1, .int f1), (2, .int f2), (3, .int f3), (4, .int f4)]) hx hb dX12_findRounds_348 hl (by decide) rfl (fun ls hl => ?_)
                refine lv_goto (tgt := 56) hx hb dX12_findRounds_350 (by decide) ?_
                exact ih56 x348 S _ h _ _ hw ls (lv_sub hl [1, 2, 3, 4, 5, 0] rfl) kx56_0
              · have h := of_if h c66
                refine lv_aload_n hx hb dX12_findRounds_69 rfl (lv_at hl 0 rfl) ?_
                refine N_get hx hb hts hin hown hK hw 48 (by decide) rfl (index := 116) (by decide +kernel) rfl dX12_findRounds_70 ?_
                refine lv_iload hx hb dX12_findRounds_73 (lv_at hl 5 rfl) ?_
                obtain ⟨hi75, h⟩ := of_grd h
                refine va_lald hx hb hK hw.1 36 1 rfl rfl hi75 dX12_findRounds_75 ?_
                refine lv_topl (fun v75 ev75 => ?_)
                have h := of_bnd h ev75
                refine lv_iload_n hx hb dX12_findRounds_76 rfl (lv_at hl 2 rfl) ?_
                refine lv_i2l hx hb dX12_findRounds_77 rfl ?_
                refine W.lcmp hx hb dX12_findRounds_78 ?_
                refine lv_if_le (tgt := 85) hx hb dX12_findRounds_79 (by decide) (fun c79 => ?_) (fun c79 => ?_)
                · have h := of_it h c79
                  refine lv_iload_n hx hb dX12_findRounds_85 rfl (lv_at hl 3 rfl) ?_
                  refine lv_iload hx hb dX12_findRounds_86 (lv_at hl 5 rfl) ?_
                  refine lv_ixor hx hb dX12_findRounds_88 ?_
                  refine lv_topi (fun x89 ex89 => ?_)
                  have h := of_bnd h ex89
                  refine lv_istore (lv' := [(6, .int x89), (0, .ref (ad 0)), (1, .int f1), (2, .int f2), (3, .int f3), (4, .int f4), (5, .int l5)]) hx hb dX12_findRounds_89 hl (by decide) rfl (fun ls hl => ?_)
                  refine lv_aload_n hx hb dX12_findRounds_91 rfl (lv_at hl 1 rfl) ?_
                  refine N_get hx hb hts hin hown hK hw 47 (by decide) rfl (index := 113) (by decide +kernel) rfl dX12_findRounds_92 ?_
                  refine lv_iload hx hb dX12_findRounds_95 (lv_at hl 6 rfl) ?_
                  obtain ⟨hi97, h⟩ := of_grd h
                  refine va_iald hx hb hK hw.1 35 0 rfl rfl hi97 dX12_findRounds_97 ?_
                  refine lv_topi (fun v97 ev97 => ?_)
                  have h := of_bnd h ev97
                  refine lv_aload_n hx hb dX12_findRounds_98 rfl (lv_at hl 1 rfl) ?_
                  refine N_get hx hb hts hin hown hK hw 49 (by decide) rfl (index := 119) (by decide +kernel) rfl dX12_findRounds_99 ?_
                  refine lv_iload hx hb dX12_findRounds_102 (lv_at hl 0 rfl) ?_
                  obtain ⟨hi104, h⟩ := of_grd h
                  refine va_iald hx hb hK hw.1 37 0 rfl rfl hi104 dX12_findRounds_104 ?_
                  refine lv_topi (fun v104 ev104 => ?_)
                  have h := of_bnd h ev104
                  refine lv_iadd hx hb dX12_findRounds_105 ?_
                  refine lv_topi (fun x106 ex106 => ?_)
                  have h := of_bnd h ex106
                  refine lv_istore (lv' := [(7, .int x106), (6, .int x89), (0, .ref (ad 0)), (1, .int f1), (2, .int f2), (3, .int f3), (4, .int f4), (5, .int l5)]) hx hb dX12_findRounds_106 hl (by decide) rfl (fun ls hl => ?_)
                  refine lv_iconst (v := 1) hx hb dX12_findRounds_108 (by decide) ?_
                  refine lv_aload_n hx hb dX12_findRounds_109 rfl (lv_at hl 2 rfl) ?_
                  refine N_get hx hb hts hin hown hK hw 50 (by decide) rfl (index := 122) (by decide +kernel) rfl dX12_findRounds_110 ?_
                  refine lv_iload hx hb dX12_findRounds_113 (lv_at hl 1 rfl) ?_
                  obtain ⟨hi115, h⟩ := of_grd h
                  refine va_iald hx hb hK hw.1 38 0 rfl rfl hi115 dX12_findRounds_115 ?_
                  refine lv_topi (fun v115 ev115 => ?_)
                  have h := of_bnd h ev115
                  refine lv_iadd hx hb dX12_findRounds_116 ?_
                  refine lv_topi (fun x117 ex117 => ?_)
                  have h := of_bnd h ex117
                  refine lv_istore (lv' := [(8, .int x117), (7, .int x106), (6, .int x89), (0, .ref (ad 0)), (1, .int f1), (2, .int f2), (3, .int f3), (4, .int f4), (5, .int l5)]) hx hb dX12_findRounds_117 hl (by decide) rfl (fun ls hl => ?_)
                  refine lv_iload hx hb dX12_findRounds_119 (lv_at hl 1 rfl) ?_
                  refine lv_aload_n hx hb dX12_findRounds_121 rfl (lv_at hl 3 rfl) ?_
                  refine N_get hx hb hts hin hown hK hw 49 (by decide) rfl (index := 119) (by decide +kernel) rfl dX12_findRounds_122 ?_
                  refine lv_iload_n hx hb dX12_findRounds_125 rfl (lv_at hl 6 rfl) ?_
                  obtain ⟨hi126, h⟩ := of_grd h
                  refine va_iald hx hb hK hw.1 37 0 rfl rfl hi126 dX12_findRounds_126 ?_
                  refine lv_topi (fun v126 ev126 => ?_)
                  have h := of_bnd h ev126
                  refine lv_icmp_gt (tgt := 342) hx hb dX12_findRounds_127 (by decide) (fun c127 => ?_) (fun c127 => ?_)
                  · have h := of_it h c127
                    refine lv_iload hx hb dX12_findRounds_342 (lv_at hl 8 rfl) ?_
                    refine lv_iconst (v := 1) hx hb dX12_findRounds_344 (by decide) ?_
                    refine lv_isub hx hb dX12_findRounds_345 ?_
                    refine lv_iload_n hx hb dX12_findRounds_346 rfl (lv_at hl 6 rfl) ?_
                    refine lv_iand hx hb dX12_findRounds_347 ?_
                    refine lv_topi (fun x348 ex348 => ?_)
                    have h := of_bnd h ex348
                    refine lv_istore (lv' := [(5, .int x348), (8, .int x117), (7, .int x106), (6, .int x89), (0, .ref (ad 0)), (1, .int f1), (2, .int f2), (3, .int f3), (4, .int f4)]) hx hb dX12_findRounds_348 hl (by decide) rfl (fun ls hl => ?_)
                    refine lv_goto (tgt := 56) hx hb dX12_findRounds_350 (by decide) ?_
                    exact ih56 x348 S _ h _ _ hw ls (lv_sub hl [4, 5, 6, 7, 8, 0] rfl) kx56_0
                  · have h := of_if h c127
                    refine lv_iload hx hb dX12_findRounds_130 (lv_at hl 1 rfl) ?_
                    refine lv_aload_n hx hb dX12_findRounds_132 rfl (lv_at hl 3 rfl) ?_
                    refine N_get hx hb hts hin hown hK hw 49 (by decide) rfl (index := 119) (by decide +kernel) rfl dX12_findRounds_133 ?_
                    refine lv_iload_n hx hb dX12_findRounds_136 rfl (lv_at hl 6 rfl) ?_
                    obtain ⟨hi137, h⟩ := of_grd h
                    refine va_iald hx hb hK hw.1 37 0 rfl rfl hi137 dX12_findRounds_137 ?_
                    refine lv_topi (fun v137 ev137 => ?_)
                    have h := of_bnd h ev137
                    obtain ⟨j155, ej155, h⟩ := of_bndE h
                    have hj155 : ∀ (S : MS), j155 S = some q → ∀ (H : Heap) (locs : List Loc), mWd D cI cJ ad A s.heap S H locs → ∀ ls : Array Slot, lv_has ls 10 [(0, .ref (ad 0)), (1, .int f1), (2, .int f2), (3, .int f3), (4, .int f4), (5, .int l5), (6, .int x89), (7, .int x106), (8, .int x117)] → W p l e (cRm 2 48 0 0) s m args below meth c H locs (0) (0) (MQ below (va_Qv (fun u => u = T) (mAft D cI cJ ad A) A) args s 0 0 A) (F0 m 155 ls []) := by
                      intro S h H locs hw ls hl
                      rw [ej155] at h
                      dsimp only at h
                      refine lv_aload_n hx hb dX12_findRounds_155 rfl (lv_at hl 0 rfl) ?_
                      refine lv_iconst (v := 0) hx hb dX12_findRounds_156 (by decide) ?_
                      refine N_put hx hb hts hin hown hK hw 54 (by decide) rfl rfl (index := 271) (by decide +kernel) (ty := .int) (by decide +kernel) rfl rfl (pI_54 cI cJ ad S _) dX12_findRounds_157 (fun S157 H locs eS157 hw => ?_)
                      have h := of_bnd h eS157
                      refine lv_aload_n hx hb dX12_findRounds_160 rfl (lv_at hl 0 rfl) ?_
                      refine lv_iload hx hb dX12_findRounds_161 (lv_at hl 5 rfl) ?_
                      refine lv_iload_n hx hb dX12_findRounds_163 rfl (lv_at hl 1 rfl) ?_
                      obtain ⟨q164, hq164, h⟩ := of_cal h
                      obtain ⟨S164, eS164⟩ : ∃ x, x = q164 := ⟨_, rfl⟩
                      subst eS164
                      refine N_callv (av := [.int l5, .int f1]) (rest := []) ⟨hx, hb, hml, hown, hts⟩ hA hK hw (cX12_writeTour_ok l D cI cJ ad n S157 l5 f1 hq164) (cwV 2 hts gX12_findRounds_X12_writeTour rfl rfl rfl (by decide +kernel) ⟨Nat.le_of_ble_eq_true rfl, Nat.le_of_ble_eq_true rfl⟩) rfl hl.1 rfl (Nat.le_of_ble_eq_true rfl) dX12_findRounds_164 ⟨Nat.le_refl _, Nat.le_refl _⟩ (fun H locs hw => ?_)
                      refine lv_iconst (v := 0) hx hb dX12_findRounds_167 (by decide) ?_
                      refine lv_topi (fun x168 ex168 => ?_)
                      have h := of_bnd h ex168
                      refine lv_istore (lv' := [(9, .int x168), (0, .ref (ad 0)), (1, .int f1), (2, .int f2), (3, .int f3), (4, .int f4), (5, .int l5), (6, .int x89), (7, .int x106), (8, .int x117)]) hx hb dX12_findRounds_168 hl (by decide) rfl (fun ls hl => ?_)
                      have lp170 : ∀ (f1 : Int32) (f2 : Int32) (f3 : Int32) (f4 : Int32) (f5 : Int32) (f6 : Int32) (f7 : Int32) (f8 : Int32) (k : Nat) (l9 : Int32) (S : MS) (q : MS) , fX12_findRounds_lp170 n f6 k l9 S = some q → ∀ (H : Heap) (locs : List Loc), mWd D cI cJ ad A s.heap S H locs → ∀ ls : Array Slot, lv_has ls 10 [(0, .ref (ad 0)), (1, .int f1), (2, .int f2), (3, .int f3), (4, .int f4), (5, .int f5), (6, .int f6), (7, .int f7), (8, .int f8), (9, .int l9)] → (∀  (S1 : MS), S1 = q → ∀ (H : Heap) (locs : List Loc), mWd D cI cJ ad A s.heap S1 H locs → ∀ ls : Array Slot, lv_has ls 10 [(0, .ref (ad 0)), (1, .int f1), (2, .int f2), (3, .int f3), (4, .int f4), (5, .int f5), (6, .int f6), (7, .int f7), (8, .int f8)] → W p l e (cRm 2 48 0 0) s m args below meth c H locs (0) (0) (MQ below (va_Qv (fun u => u = T) (mAft D cI cJ ad A) A) args s 0 0 A) (F0 m 215 ls [])) → W p l e (cRm 2 48 0 0) s m args below meth c H locs (0) (0) (MQ below (va_Qv (fun u => u = T) (mAft D cI cJ ad A) A) args s 0 0 A) (F0 m 170 ls []) := by
                        intro f1 f2 f3 f4 f5 f6 f7 f8 k
                        induction k with
                        | zero => intro l9 S q h; rw [fX12_findRounds_lp170] at h; cases h
                        | succ k ih170 =>
                          intro l9 S q h H locs hw ls hl kx170_0
                          rw [fX12_findRounds_lp170] at h
                          refine lv_iload hx hb dX12_findRounds_170 (lv_at hl 9 rfl) ?_
                          refine lv_aload_n hx hb dX12_findRounds_172 rfl (lv_at hl 0 rfl) ?_
                          refine N_get hx hb hts hin hown hK hw 52 (by decide) rfl (index := 128) (by decide +kernel) rfl dX12_findRounds_173 ?_
                          refine lv_iload hx hb dX12_findRounds_176 (lv_at hl 6 rfl) ?_
                          obtain ⟨hi178, h⟩ := of_grd h
                          refine va_iald hx hb hK hw.1 40 0 rfl rfl hi178 dX12_findRounds_178 ?_
                          refine lv_topi (fun v178 ev178 => ?_)
                          have h := of_bnd h ev178
                          refine lv_icmp_ge (tgt := 215) hx hb dX12_findRounds_179 (by decide) (fun c179 => ?_) (fun c179 => ?_)
                          · have h := of_it h c179
                            exact kx170_0 S (Option.some.inj h) _ _ hw ls (lv_sub hl [0, 1, 2, 3, 4, 5, 6, 7, 8] rfl)
                          · have h := of_if h c179
                            refine lv_aload_n hx hb dX12_findRounds_182 rfl (lv_at hl 0 rfl) ?_
                            refine N_get hx hb hts hin hown hK hw 53 (by decide) rfl (index := 131) (by decide +kernel) rfl dX12_findRounds_183 ?_
                            refine lv_aload_n hx hb dX12_findRounds_186 rfl (lv_at hl 0 rfl) ?_
                            refine N_get hx hb hts hin hown hK hw 54 (by decide) rfl (index := 271) (by decide +kernel) rfl dX12_findRounds_187 ?_
                            refine lv_topi (fun v187 ev187 => ?_)
                            have h := of_bnd h ev187
                            refine lv_iconst (v := 1) hx hb dX12_findRounds_190 (by decide) ?_
                            refine lv_iadd hx hb dX12_findRounds_191 ?_
                            refine lv_iload hx hb dX12_findRounds_192 (lv_at hl 9 rfl) ?_
                            refine lv_iadd hx hb dX12_findRounds_194 ?_
                            refine lv_aload_n hx hb dX12_findRounds_195 rfl (lv_at hl 0 rfl) ?_
                            refine N_get hx hb hts hin hown hK hw 51 (by decide) rfl (index := 125) (by decide +kernel) rfl dX12_findRounds_196 ?_
                            refine lv_bipush (v := 16) hx hb dX12_findRounds_199 (by decide) ?_
                            refine lv_iload hx hb dX12_findRounds_201 (lv_at hl 6 rfl) ?_
                            refine lv_imul hx hb dX12_findRounds_203 ?_
                            refine lv_iload hx hb dX12_findRounds_204 (lv_at hl 9 rfl) ?_
                            refine lv_iadd hx hb dX12_findRounds_206 ?_
                            obtain ⟨hi207, h⟩ := of_grd h
                            refine va_iald hx hb hK hw.1 39 0 rfl rfl hi207 dX12_findRounds_207 ?_
                            refine lv_topi (fun v207 ev207 => ?_)
                            have h := of_bnd h ev207
                            obtain ⟨hi208, h⟩ := of_grd h
                            refine N_iast hx hb hK hw 41 rfl hi208 (pA_53 cI cJ ad S _) dX12_findRounds_208 (fun S208 H locs eS208 hw => ?_)
                            have h := of_bnd h eS208
                            obtain ⟨x209, ex209⟩ : ∃ y : Int32, y = l9 + 1 := ⟨_, rfl⟩
                            have h := of_bnd h ex209
                            refine lv_iinc (v := x209) (lv' := [(9, .int x209), (0, .ref (ad 0)), (1, .int f1), (2, .int f2), (3, .int f3), (4, .int f4), (5, .int f5), (6, .int f6), (7, .int f7), (8, .int f8)]) hx hb dX12_findRounds_209 hl (k := 9) rfl (by rw [ex209]; rfl) (by decide) rfl (fun ls hl => ?_)
                            refine lv_goto (tgt := 170) hx hb dX12_findRounds_212 (by decide) ?_
                            exact ih170 x209 S208 _ h _ _ hw ls (lv_sub hl [1, 2, 3, 4, 5, 6, 7, 8, 9, 0] rfl) kx170_0
                      obtain ⟨q170, hq170, h⟩ := of_cal h
                      refine lp170 f1 f2 f3 f4 l5 x89 x106 x117 n.1 x168 S164 q170  hq170 _ _ hw ls (lv_sub hl [1, 2, 3, 4, 5, 6, 7, 8, 9, 0] rfl) ?_
                      · intro S170 eq H locs hw ls hl
                        subst eq
                        refine lv_iload hx hb dX12_findRounds_215 (lv_at hl 6 rfl) ?_
                        obtain ⟨j249, ej249, h⟩ := of_bndE h
                        have hj249 : ∀ (S : MS), j249 S = some q → ∀ (H : Heap) (locs : List Loc), mWd D cI cJ ad A s.heap S H locs → ∀ ls : Array Slot, lv_has ls 10 [(0, .ref (ad 0)), (1, .int f1), (2, .int f2), (3, .int f3), (4, .int f4), (5, .int l5), (7, .int x106), (8, .int x117)] → W p l e (cRm 2 48 0 0) s m args below meth c H locs (0) (0) (MQ below (va_Qv (fun u => u = T) (mAft D cI cJ ad A) A) args s 0 0 A) (F0 m 249 ls []) := by
                          intro S h H locs hw ls hl
                          rw [ej249] at h
                          dsimp only at h
                          refine lv_iload hx hb dX12_findRounds_249 (lv_at hl 6 rfl) ?_
                          refine lv_aload_n hx hb dX12_findRounds_251 rfl (lv_at hl 0 rfl) ?_
                          refine N_get hx hb hts hin hown hK hw 49 (by decide) rfl (index := 119) (by decide +kernel) rfl dX12_findRounds_252 ?_
                          refine lv_iload_n hx hb dX12_findRounds_255 rfl (lv_at hl 3 rfl) ?_
                          obtain ⟨hi256, h⟩ := of_grd h
                          refine va_iald hx hb hK hw.1 37 0 rfl rfl hi256 dX12_findRounds_256 ?_
                          refine lv_topi (fun v256 ev256 => ?_)
                          have h := of_bnd h ev256
                          obtain ⟨j279, ej279, h⟩ := of_bndE h
                          have hj279 : ∀ (S : MS), j279 S = some q → ∀ (H : Heap) (locs : List Loc), mWd D cI cJ ad A s.heap S H locs → ∀ ls : Array Slot, lv_has ls 10 [(0, .ref (ad 0)), (1, .int f1), (2, .int f2), (3, .int f3), (4, .int f4), (5, .int l5), (7, .int x106), (8, .int x117)] → W p l e (cRm 2 48 0 0) s m args below meth c H locs (0) (0) (MQ below (va_Qv (fun u => u = T) (mAft D cI cJ ad A) A) args s 0 0 A) (F0 m 279 ls []) := by
                            intro S h H locs hw ls hl
                            rw [ej279] at h
                            dsimp only at h
                            refine lv_aload_n hx hb dX12_findRounds_279 rfl (lv_at hl 0 rfl) ?_
                            refine N_get hx hb hts hin hown hK hw 49 (by decide) rfl (index := 119) (by decide +kernel) rfl dX12_findRounds_280 ?_
                            refine lv_iload_n hx hb dX12_findRounds_283 rfl (lv_at hl 3 rfl) ?_
                            refine lv_iload hx hb dX12_findRounds_284 (lv_at hl 6 rfl) ?_
                            obtain ⟨hi286, h⟩ := of_grd h
                            refine N_iast hx hb hK hw 37 rfl hi286 (pA_49 cI cJ ad S _) dX12_findRounds_286 (fun S286 H locs eS286 hw => ?_)
                            have h := of_bnd h eS286
                            refine lv_aload_n hx hb dX12_findRounds_287 rfl (lv_at hl 0 rfl) ?_
                            refine N_get hx hb hts hin hown hK hw 50 (by decide) rfl (index := 122) (by decide +kernel) rfl dX12_findRounds_288 ?_
                            refine lv_iload_n hx hb dX12_findRounds_291 rfl (lv_at hl 3 rfl) ?_
                            refine lv_iload hx hb dX12_findRounds_292 (lv_at hl 7 rfl) ?_
                            obtain ⟨hi294, h⟩ := of_grd h
                            refine N_iast hx hb hK hw 38 rfl hi294 (pA_50 cI cJ ad S286 _) dX12_findRounds_294 (fun S294 H locs eS294 hw => ?_)
                            have h := of_bnd h eS294
                            refine lv_aload_n hx hb dX12_findRounds_295 rfl (lv_at hl 0 rfl) ?_
                            refine N_get hx hb hts hin hown hK hw 52 (by decide) rfl (index := 128) (by decide +kernel) rfl dX12_findRounds_296 ?_
                            refine lv_iload_n hx hb dX12_findRounds_299 rfl (lv_at hl 3 rfl) ?_
                            refine lv_aload_n hx hb dX12_findRounds_300 rfl (lv_at hl 0 rfl) ?_
                            refine N_get hx hb hts hin hown hK hw 54 (by decide) rfl (index := 271) (by decide +kernel) rfl dX12_findRounds_301 ?_
                            refine lv_topi (fun v301 ev301 => ?_)
                            have h := of_bnd h ev301
                            obtain ⟨hi304, h⟩ := of_grd h
                            refine N_iast hx hb hK hw 40 rfl hi304 (pA_52 cI cJ ad S294 _) dX12_findRounds_304 (fun S304 H locs eS304 hw => ?_)
                            have h := of_bnd h eS304
                            refine lv_iconst (v := 0) hx hb dX12_findRounds_305 (by decide) ?_
                            refine lv_topi (fun x306 ex306 => ?_)
                            have h := of_bnd h ex306
                            refine lv_istore (lv' := [(9, .int x306), (0, .ref (ad 0)), (1, .int f1), (2, .int f2), (3, .int f3), (4, .int f4), (5, .int l5), (7, .int x106), (8, .int x117)]) hx hb dX12_findRounds_306 hl (by decide) rfl (fun ls hl => ?_)
                            have lp308 : ∀ (f1 : Int32) (f2 : Int32) (f3 : Int32) (f4 : Int32) (f5 : Int32) (k : Nat) (l9 : Int32) (S : MS) (q : MS) , fX12_findRounds_lp308 n f3 k l9 S = some q → ∀ (H : Heap) (locs : List Loc), mWd D cI cJ ad A s.heap S H locs → ∀ ls : Array Slot, lv_has ls 10 [(0, .ref (ad 0)), (1, .int f1), (2, .int f2), (3, .int f3), (4, .int f4), (5, .int f5), (9, .int l9)] → (∀  (S1 : MS), S1 = q → ∀ (H : Heap) (locs : List Loc), mWd D cI cJ ad A s.heap S1 H locs → ∀ ls : Array Slot, lv_has ls 10 [(0, .ref (ad 0)), (1, .int f1), (2, .int f2), (3, .int f3), (4, .int f4), (5, .int f5)] → W p l e (cRm 2 48 0 0) s m args below meth c H locs (0) (0) (MQ below (va_Qv (fun u => u = T) (mAft D cI cJ ad A) A) args s 0 0 A) (F0 m 342 ls [])) → W p l e (cRm 2 48 0 0) s m args below meth c H locs (0) (0) (MQ below (va_Qv (fun u => u = T) (mAft D cI cJ ad A) A) args s 0 0 A) (F0 m 308 ls []) := by
                              intro f1 f2 f3 f4 f5 k
                              induction k with
                              | zero => intro l9 S q h; rw [fX12_findRounds_lp308] at h; cases h
                              | succ k ih308 =>
                                intro l9 S q h H locs hw ls hl kx308_0
                                rw [fX12_findRounds_lp308] at h
                                refine lv_iload hx hb dX12_findRounds_308 (lv_at hl 6 rfl) ?_
                                refine lv_aload_n hx hb dX12_findRounds_310 rfl (lv_at hl 0 rfl) ?_
                                refine N_get hx hb hts hin hown hK hw 54 (by decide) rfl (index := 271) (by decide +kernel) rfl dX12_findRounds_311 ?_
                                refine lv_topi (fun v311 ev311 => ?_)
                                have h := of_bnd h ev311
                                refine lv_icmp_ge (tgt := 342) hx hb dX12_findRounds_314 (by decide) (fun c314 => ?_) (fun c314 => ?_)
                                · have h := of_it h c314
                                  exact kx308_0 S (Option.some.inj h) _ _ hw ls (lv_sub hl [0, 1, 2, 3, 4, 5] rfl)
                                · have h := of_if h c314
                                  refine lv_aload_n hx hb dX12_findRounds_317 rfl (lv_at hl 0 rfl) ?_
                                  refine N_get hx hb hts hin hown hK hw 51 (by decide) rfl (index := 125) (by decide +kernel) rfl dX12_findRounds_318 ?_
                                  refine lv_bipush (v := 16) hx hb dX12_findRounds_321 (by decide) ?_
                                  refine lv_iload_n hx hb dX12_findRounds_323 rfl (lv_at hl 3 rfl) ?_
                                  refine lv_imul hx hb dX12_findRounds_324 ?_
                                  refine lv_iload hx hb dX12_findRounds_325 (lv_at hl 6 rfl) ?_
                                  refine lv_iadd hx hb dX12_findRounds_327 ?_
                                  refine lv_aload_n hx hb dX12_findRounds_328 rfl (lv_at hl 0 rfl) ?_
                                  refine N_get hx hb hts hin hown hK hw 53 (by decide) rfl (index := 131) (by decide +kernel) rfl dX12_findRounds_329 ?_
                                  refine lv_iload hx hb dX12_findRounds_332 (lv_at hl 6 rfl) ?_
                                  obtain ⟨hi334, h⟩ := of_grd h
                                  refine va_iald hx hb hK hw.1 41 0 rfl rfl hi334 dX12_findRounds_334 ?_
                                  refine lv_topi (fun v334 ev334 => ?_)
                                  have h := of_bnd h ev334
                                  obtain ⟨hi335, h⟩ := of_grd h
                                  refine N_iast hx hb hK hw 39 rfl hi335 (pA_51 cI cJ ad S _) dX12_findRounds_335 (fun S335 H locs eS335 hw => ?_)
                                  have h := of_bnd h eS335
                                  obtain ⟨x336, ex336⟩ : ∃ y : Int32, y = l9 + 1 := ⟨_, rfl⟩
                                  have h := of_bnd h ex336
                                  refine lv_iinc (v := x336) (lv' := [(9, .int x336), (0, .ref (ad 0)), (1, .int f1), (2, .int f2), (3, .int f3), (4, .int f4), (5, .int f5)]) hx hb dX12_findRounds_336 hl (k := 6) rfl (by rw [ex336]; rfl) (by decide) rfl (fun ls hl => ?_)
                                  refine lv_goto (tgt := 308) hx hb dX12_findRounds_339 (by decide) ?_
                                  exact ih308 x336 S335 _ h _ _ hw ls (lv_sub hl [1, 2, 3, 4, 5, 6, 0] rfl) kx308_0
                            obtain ⟨q308, hq308, h⟩ := of_cal h
                            refine lp308 f1 f2 f3 f4 l5 n.1 x306 S304 q308  hq308 _ _ hw ls (lv_sub hl [1, 2, 3, 4, 5, 6, 0] rfl) ?_
                            · intro S308 eq H locs hw ls hl
                              subst eq
                              refine lv_iload hx hb dX12_findRounds_342 (lv_at hl 5 rfl) ?_
                              refine lv_iconst (v := 1) hx hb dX12_findRounds_344 (by decide) ?_
                              refine lv_isub hx hb dX12_findRounds_345 ?_
                              refine lv_iload_n hx hb dX12_findRounds_346 rfl (lv_at hl 3 rfl) ?_
                              refine lv_iand hx hb dX12_findRounds_347 ?_
                              refine lv_topi (fun x348 ex348 => ?_)
                              have h := of_bnd h ex348
                              refine lv_istore (lv' := [(5, .int x348), (0, .ref (ad 0)), (1, .int f1), (2, .int f2), (3, .int f3), (4, .int f4)]) hx hb dX12_findRounds_348 hl (by decide) rfl (fun ls hl => ?_)
                              refine lv_goto (tgt := 56) hx hb dX12_findRounds_350 (by decide) ?_
                              exact ih56 x348 S308 _ h _ _ hw ls (lv_sub hl [1, 2, 3, 4, 5, 0] rfl) kx56_0
                          refine lv_icmp_lt (tgt := 279) hx hb dX12_findRounds_257 (by decide) (fun c257 => ?_) (fun c257 => ?_)
                          · have h := of_it h c257
                            exact hj279  S h _ _ hw ls (lv_sub hl [0, 1, 2, 3, 4, 5, 6, 7] rfl)
                          · have h := of_if h c257
                            refine lv_iload hx hb dX12_findRounds_260 (lv_at hl 7 rfl) ?_
                            refine lv_aload_n hx hb dX12_findRounds_262 rfl (lv_at hl 0 rfl) ?_
                            refine N_get hx hb hts hin hown hK hw 50 (by decide) rfl (index := 122) (by decide +kernel) rfl dX12_findRounds_263 ?_
                            refine lv_iload_n hx hb dX12_findRounds_266 rfl (lv_at hl 3 rfl) ?_
                            obtain ⟨hi267, h⟩ := of_grd h
                            refine va_iald hx hb hK hw.1 38 0 rfl rfl hi267 dX12_findRounds_267 ?_
                            refine lv_topi (fun v267 ev267 => ?_)
                            have h := of_bnd h ev267
                            refine lv_icmp_lt (tgt := 279) hx hb dX12_findRounds_268 (by decide) (fun c268 => ?_) (fun c268 => ?_)
                            · have h := of_it h c268
                              exact hj279  S h _ _ hw ls (lv_sub hl [0, 1, 2, 3, 4, 5, 6, 7] rfl)
                            · have h := of_if h c268
                              refine lv_aload_n hx hb dX12_findRounds_271 rfl (lv_at hl 0 rfl) ?_
                              refine lv_iload_n hx hb dX12_findRounds_272 rfl (lv_at hl 3 rfl) ?_
                              obtain ⟨q273, hq273, h⟩ := of_cal h
                              refine N_calli (av := [.int f3]) (rest := []) ⟨hx, hb, hml, hown, hts⟩ hA hK hw (cX12_isFirst_ok l D cI cJ ad n S f3 hq273) (cwV 1 hts gX12_findRounds_X12_isFirst rfl rfl rfl (by decide +kernel) ⟨Nat.le_of_ble_eq_true rfl, Nat.le_of_ble_eq_true rfl⟩) rfl hl.1 rfl (Nat.le_of_ble_eq_true rfl) dX12_findRounds_273 ⟨Nat.le_refl _, Nat.le_refl _⟩ (fun H locs hw => ?_)
                              refine lv_if_eq (tgt := 342) hx hb dX12_findRounds_276 (by decide) (fun c276 => ?_) (fun c276 => ?_)
                              · have h := of_it h c276
                                refine lv_iload hx hb dX12_findRounds_342 (lv_at hl 5 rfl) ?_
                                refine lv_iconst (v := 1) hx hb dX12_findRounds_344 (by decide) ?_
                                refine lv_isub hx hb dX12_findRounds_345 ?_
                                refine lv_iload_n hx hb dX12_findRounds_346 rfl (lv_at hl 3 rfl) ?_
                                refine lv_iand hx hb dX12_findRounds_347 ?_
                                refine lv_topi (fun x348 ex348 => ?_)
                                have h := of_bnd h ex348
                                refine lv_istore (lv' := [(5, .int x348), (0, .ref (ad 0)), (1, .int f1), (2, .int f2), (3, .int f3), (4, .int f4), (7, .int x106), (8, .int x117)]) hx hb dX12_findRounds_348 hl (by decide) rfl (fun ls hl => ?_)
                                refine lv_goto (tgt := 56) hx hb dX12_findRounds_350 (by decide) ?_
                                exact ih56 x348 S _ h _ _ hw ls (lv_sub hl [1, 2, 3, 4, 5, 0] rfl) kx56_0
                              · have h := of_if h c276
                                exact hj279  S h _ _ hw ls (lv_sub hl [0, 1, 2, 3, 4, 5, 6, 7] rfl)
                        refine lv_if_eq (tgt := 249) hx hb dX12_findRounds_217 (by decide) (fun c217 => ?_) (fun c217 => ?_)
                        · have h := of_it h c217
                          exact hj249  S170 h _ _ hw ls (lv_sub hl [0, 1, 2, 3, 4, 5, 7, 8] rfl)
                        · have h := of_if h c217
                          refine lv_aload_n hx hb dX12_findRounds_220 rfl (lv_at hl 0 rfl) ?_
                          refine N_get hx hb hts hin hown hK hw 53 (by decide) rfl (index := 131) (by decide +kernel) rfl dX12_findRounds_221 ?_
                          refine lv_aload_n hx hb dX12_findRounds_224 rfl (lv_at hl 0 rfl) ?_
                          refine N_get hx hb hts hin hown hK hw 54 (by decide) rfl (index := 271) (by decide +kernel) rfl dX12_findRounds_225 ?_
                          refine lv_topi (fun v225 ev225 => ?_)
                          have h := of_bnd h ev225
                          refine lv_bipush (v := 12) hx hb dX12_findRounds_228 (by decide) ?_
                          obtain ⟨hi230, h⟩ := of_grd h
                          refine N_iast hx hb hK hw 41 rfl hi230 (pA_53 cI cJ ad S170 _) dX12_findRounds_230 (fun S230 H locs eS230 hw => ?_)
                          have h := of_bnd h eS230
                          refine lv_aload_n hx hb dX12_findRounds_231 rfl (lv_at hl 0 rfl) ?_
                          refine lv_dup hx hb dX12_findRounds_232 rfl ?_
                          refine N_get hx hb hts hin hown hK hw 54 (by decide) rfl (index := 271) (by decide +kernel) rfl dX12_findRounds_233 ?_
                          refine lv_topi (fun v233 ev233 => ?_)
                          have h := of_bnd h ev233
                          refine lv_iconst (v := 1) hx hb dX12_findRounds_236 (by decide) ?_
                          refine lv_aload_n hx hb dX12_findRounds_237 rfl (lv_at hl 0 rfl) ?_
                          refine N_get hx hb hts hin hown hK hw 52 (by decide) rfl (index := 128) (by decide +kernel) rfl dX12_findRounds_238 ?_
                          refine lv_iload hx hb dX12_findRounds_241 (lv_at hl 6 rfl) ?_
                          obtain ⟨hi243, h⟩ := of_grd h
                          refine va_iald hx hb hK hw.1 40 0 rfl rfl hi243 dX12_findRounds_243 ?_
                          refine lv_topi (fun v243 ev243 => ?_)
                          have h := of_bnd h ev243
                          refine lv_iadd hx hb dX12_findRounds_244 ?_
                          refine lv_iadd hx hb dX12_findRounds_245 ?_
                          refine N_put hx hb hts hin hown hK hw 54 (by decide) rfl rfl (index := 271) (by decide +kernel) (ty := .int) (by decide +kernel) rfl rfl (pI_54 cI cJ ad S230 _) dX12_findRounds_246 (fun S246 H locs eS246 hw => ?_)
                          have h := of_bnd h eS246
                          exact hj249  S246 h _ _ hw ls (lv_sub hl [0, 1, 2, 3, 4, 5, 7, 8] rfl)
                    refine lv_icmp_ne (tgt := 155) hx hb dX12_findRounds_138 (by decide) (fun c138 => ?_) (fun c138 => ?_)
                    · have h := of_if h c138
                      exact hj155  S h _ _ hw ls (lv_sub hl [3, 4, 5, 6, 7, 8, 2, 1, 0] rfl)
                    · have h := of_it h c138
                      refine lv_iload hx hb dX12_findRounds_141 (lv_at hl 0 rfl) ?_
                      refine lv_aload_n hx hb dX12_findRounds_143 rfl (lv_at hl 3 rfl) ?_
                      refine N_get hx hb hts hin hown hK hw 50 (by decide) rfl (index := 122) (by decide +kernel) rfl dX12_findRounds_144 ?_
                      refine lv_iload_n hx hb dX12_findRounds_147 rfl (lv_at hl 6 rfl) ?_
                      obtain ⟨hi148, h⟩ := of_grd h
                      refine va_iald hx hb hK hw.1 38 0 rfl rfl hi148 dX12_findRounds_148 ?_
                      refine lv_topi (fun v148 ev148 => ?_)
                      have h := of_bnd h ev148
                      refine lv_icmp_le (tgt := 155) hx hb dX12_findRounds_149 (by decide) (fun c149 => ?_) (fun c149 => ?_)
                      · have h := of_it h c149
                        exact hj155  S h _ _ hw ls (lv_sub hl [3, 4, 5, 6, 7, 8, 2, 1, 0] rfl)
                      · have h := of_if h c149
                        refine lv_goto (tgt := 342) hx hb dX12_findRounds_152 (by decide) ?_
                        refine lv_iload hx hb dX12_findRounds_342 (lv_at hl 8 rfl) ?_
                        refine lv_iconst (v := 1) hx hb dX12_findRounds_344 (by decide) ?_
                        refine lv_isub hx hb dX12_findRounds_345 ?_
                        refine lv_iload_n hx hb dX12_findRounds_346 rfl (lv_at hl 6 rfl) ?_
                        refine lv_iand hx hb dX12_findRounds_347 ?_
                        refine lv_topi (fun x348 ex348 => ?_)
                        have h := of_bnd h ex348
                        refine lv_istore (lv' := [(5, .int x348), (8, .int x117), (7, .int x106), (6, .int x89), (0, .ref (ad 0)), (1, .int f1), (2, .int f2), (3, .int f3), (4, .int f4)]) hx hb dX12_findRounds_348 hl (by decide) rfl (fun ls hl => ?_)
                        refine lv_goto (tgt := 56) hx hb dX12_findRounds_350 (by decide) ?_
                        exact ih56 x348 S _ h _ _ hw ls (lv_sub hl [4, 5, 6, 7, 8, 0] rfl) kx56_0
                · have h := of_if h c79
                  refine lv_goto (tgt := 342) hx hb dX12_findRounds_82 (by decide) ?_
                  refine lv_iload hx hb dX12_findRounds_342 (lv_at hl 5 rfl) ?_
                  refine lv_iconst (v := 1) hx hb dX12_findRounds_344 (by decide) ?_
                  refine lv_isub hx hb dX12_findRounds_345 ?_
                  refine lv_iload_n hx hb dX12_findRounds_346 rfl (lv_at hl 3 rfl) ?_
                  refine lv_iand hx hb dX12_findRounds_347 ?_
                  refine lv_topi (fun x348 ex348 => ?_)
                  have h := of_bnd h ex348
                  refine lv_istore (lv' := [(5, .int x348), (0, .ref (ad 0)), (1, .int f1), (2, .int f2), (3, .int f3), (4, .int f4)]) hx hb dX12_findRounds_348 hl (by decide) rfl (fun ls hl => ?_)
                  refine lv_goto (tgt := 56) hx hb dX12_findRounds_350 (by decide) ?_
                  exact ih56 x348 S _ h _ _ hw ls (lv_sub hl [1, 2, 3, 4, 5, 0] rfl) kx56_0
        obtain ⟨q56, hq56, h⟩ := of_cal h
        refine lp56 f1 f2 l3 x34 n.1 l3 S52 q56  hq56 _ _ hw ls (lv_sub hl [2, 3, 4, 5, 1, 0] rfl) ?_
        · intro S56 eq H locs hw ls hl
          subst eq
          obtain ⟨x353, ex353⟩ : ∃ y : Int32, y = l3 + 1 := ⟨_, rfl⟩
          have h := of_bnd h ex353
          refine lv_iinc (v := x353) (lv' := [(3, .int x353), (0, .ref (ad 0)), (1, .int f1), (2, .int f2)]) hx hb dX12_findRounds_353 hl (k := 3) rfl (by rw [ex353]; rfl) (by decide) rfl (fun ls hl => ?_)
          refine lv_goto (tgt := 23) hx hb dX12_findRounds_356 (by decide) ?_
          exact ih23 x353 S56 _ h _ _ hw ls (lv_sub hl [1, 2, 3, 0] rfl) kx23_0
  obtain ⟨q23, hq23, h⟩ := of_cal h
  refine lp23 a1 a2 n.1 x22 S20 q23  hq23 _ _ hw ls (lv_sub hl [1, 2, 3, 0] rfl) ?_
  · intro S23 eq H locs hw ls hl
    subst eq
    obtain rfl := Option.some.inj h
    exact M_vret hx hb hr hlocks hK hw.1 hw.2.1 hw.2.2 dX12_findRounds_359 rfl

def fX12_rounds_lp44 (n : Nat × Nat) (f1 : Int32) : Nat → Int32 → Int32 → Int32 → MS → Option (Int32 × Int32 × MS)
  | 0, _, _, _, _ => none
  | k + 1, l2, l3, l4, S =>
    if (12 : Int32) ≤ l4 then 
            some (l2, l3, S)
            else grd (¬ (l4 < 0 ∨ 12 ≤ l4.toNatClampNeg)) (bnd (mA S 43 l4.toNatClampNeg) (fun v57 => if v57 ≤ 0 then 
              bnd (l4 + 1) (fun x93 => fX12_rounds_lp44 n f1 k l2 l3 x93 S)
              else if l3 = 0 then 
                grd (¬ (l4 < 0 ∨ 12 ≤ l4.toNatClampNeg)) (bnd (mA S 43 l4.toNatClampNeg) (fun v71 => if v71 ≤ f1 then 
                  bnd (0 : Int32) (fun x81 => grd (¬ (l2 < 0 ∨ 8 ≤ l2.toNatClampNeg)) (bnd (sA S 45 (upd (mA S 45) l2.toNatClampNeg l4)) (fun S89 => bnd (l2 + 1) (fun x90 => bnd (l4 + 1) (fun x93 => fX12_rounds_lp44 n f1 k x90 x81 x93 S89)))))
                  else bnd (1 : Int32) (fun x81 => grd (¬ (l2 < 0 ∨ 8 ≤ l2.toNatClampNeg)) (bnd (sA S 45 (upd (mA S 45) l2.toNatClampNeg l4)) (fun S89 => bnd (l2 + 1) (fun x90 => bnd (l4 + 1) (fun x93 => fX12_rounds_lp44 n f1 k x90 x81 x93 S89)))))))
                else bnd (1 : Int32) (fun x81 => grd (¬ (l2 < 0 ∨ 8 ≤ l2.toNatClampNeg)) (bnd (sA S 45 (upd (mA S 45) l2.toNatClampNeg l4)) (fun S89 => bnd (l2 + 1) (fun x90 => bnd (l4 + 1) (fun x93 => fX12_rounds_lp44 n f1 k x90 x81 x93 S89)))))))
def fX12_rounds_lp142 (n : Nat × Nat) (f4 : Int32) : Nat → Int32 → MS → Option (MS)
  | 0, _, _ => none
  | k + 1, l5, S =>
    bnd (mI S 56) (fun v145 => if v145 ≤ l5 then 
                some S
                else grd (¬ ((((16 : Int32) * f4) + l5) < 0 ∨ 4096 ≤ (((16 : Int32) * f4) + l5).toNatClampNeg)) (bnd (mA S 51 (((16 : Int32) * f4) + l5).toNatClampNeg) (fun v169 => grd (¬ (l5 < 0 ∨ 16 ≤ l5.toNatClampNeg)) (bnd (sA S 55 (upd (mA S 55) l5.toNatClampNeg v169)) (fun S170 => bnd (l5 + 1) (fun x171 => fX12_rounds_lp142 n f4 k x171 S170))))))
def fX12_rounds (n : Nat × Nat) (S : MS) (a1 : Int32) : Option (Int32 × MS) :=
  bnd (sI S 0 (0 : Int32)) (fun S2 => bnd (fX12_in a1.toInt64 (1 : Int64) (10000000 : Int64)) (fun r11 => if r11 = 0 then 
    cal (fX12_told n S2 (-1 : Int32)) (un2 fun r19 S19 => some (r19, S19))
    else bnd (mI S2 44) (fun v24 => if v24 = 0 then 
      cal (fX12_told n S2 (-4 : Int32)) (un2 fun r33 S33 => some (r33, S33))
      else bnd (0 : Int32) (fun x38 => bnd (0 : Int32) (fun x40 => bnd (0 : Int32) (fun x42 => cal (fX12_rounds_lp44 n a1 n.1 x38 x40 x42 S2) (un2 fun t2_44 u0 => (un2 fun t3_44 S44 => if t3_44 = 0 then 
          cal (fX12_findTours n S44 t2_44) (fun S112 => cal (fX12_findRounds n S112 t2_44 a1) (fun S118 => bnd (((1 : Int32) <<< (t2_44 &&& 31)) - (1 : Int32)) (fun x126 => grd (¬ (x126 < 0 ∨ 256 ≤ x126.toNatClampNeg)) (bnd (mA S118 52 x126.toNatClampNeg) (fun v135 => bnd (sI S118 56 v135) (fun S136 => bnd (0 : Int32) (fun x140 => cal (fX12_rounds_lp142 n x126 n.1 x140 S136) (fun S142 => grd (¬ (x126 < 0 ∨ 256 ≤ x126.toNatClampNeg)) (bnd (mA S142 49 x126.toNatClampNeg) (fun v184 => cal (fX12_told n S142 v184) (un2 fun r185 S185 => some (r185, S185))))))))))))
          else cal (fX12_told n S44 (-5 : Int32)) (un2 fun r106 S106 => some (r106, S106))) u0)))))))
set_option maxHeartbeats 8000000 in
set_option maxRecDepth 100000 in
theorem cX12_rounds_ok (l : Launch) (D : va_G) (cI cJ : ClassId) (ad : Nat → Nat) (n : Nat × Nat) (S : MS) (a1 : Int32) {r : Int32} {T : MS} (h : fX12_rounds n S a1 = some (r, T)) : Mi l yX12_rounds wsX12_rounds (cRm 3 77 0 0) D cI cJ ad [.int a1] S (fun r1 u => r1 = r ∧ u = T) := by
  refine Mi_of (cc := cX12_rounds) (nL := 6) (ret := (some .int)) (by decide) rfl rfl (Nat.le_of_ble_eq_true rfl) ?_
  intro p e s m args below meth c A hx hb hr hlocks hml hts hown hA hK hP hD hS ls hl
  have hw : mWd D cI cJ ad A s.heap S s.heap [] := ⟨hP, hD, hS⟩
  unfold fX12_rounds at h
  have hin : ∀ w ∈ wsX120, w ∈ wsX12_rounds := fun w h => List.mem_cons_of_mem _ (List.mem_append_right _ h)
  have hl : lv_has ls 6 [(0, .ref (ad 0)), (1, .int a1)] := hl
  refine lv_aload_n hx hb dX12_rounds_0 rfl (lv_at hl 0 rfl) ?_
  refine lv_iconst (v := 0) hx hb dX12_rounds_1 (by decide) ?_
  refine N_put hx hb hts hin hown hK hw 0 (by decide) rfl rfl (index := 156) (by decide +kernel) (ty := .int) (by decide +kernel) rfl rfl (pI_0 cI cJ ad S _) dX12_rounds_2 (fun S2 H locs eS2 hw => ?_)
  have h := of_bnd h eS2
  refine lv_iload_n hx hb dX12_rounds_5 rfl (lv_at hl 1 rfl) ?_
  refine lv_i2l hx hb dX12_rounds_6 rfl ?_
  refine lv_lconst (v := 1) hx hb dX12_rounds_7 (by decide) ?_
  refine lv_ldc2 (v := 10000000) hx hb hown (hts (.constantLong RX12 282 (10000000)) (by decide +kernel)) dX12_rounds_8 ?_
  refine C_s (va_runS (As := [.long a1.toInt64, .long (1 : Int64), .long (10000000 : Int64)]) (rest := []) ⟨hx, hb, hml, hown, hts⟩ (cX12_in_ok l a1.toInt64 (1 : Int64) (10000000 : Int64)) (va_cwS 3 hts gX12_rounds_X12_in rfl rfl rfl (by decide +kernel) ⟨Nat.le_of_ble_eq_true rfl, Nat.le_of_ble_eq_true rfl⟩) ⟨fun a U g mk q => ⟨q.1, trivial⟩, fun U hU hW => ⟨rfl, trivial⟩⟩ rfl rfl hl.1 rfl (lv_room (Nat.le_of_ble_eq_true rfl)) dX12_rounds_11 ⟨Nat.le_refl _, Nat.le_refl _⟩) (fun r11 er11 => ?_)
  have h := of_bnd h er11
  refine lv_if_ne (tgt := 23) hx hb dX12_rounds_14 (by decide) (fun c14 => ?_) (fun c14 => ?_)
  · have h := of_if h c14
    refine lv_aload_n hx hb dX12_rounds_23 rfl (lv_at hl 0 rfl) ?_
    refine N_get hx hb hts hin hown hK hw 44 (by decide) rfl (index := 264) (by decide +kernel) rfl dX12_rounds_24 ?_
    refine lv_topi (fun v24 ev24 => ?_)
    have h := of_bnd h ev24
    refine lv_if_ne (tgt := 37) hx hb dX12_rounds_27 (by decide) (fun c27 => ?_) (fun c27 => ?_)
    · have h := of_if h c27
      refine lv_iconst (v := 0) hx hb dX12_rounds_37 (by decide) ?_
      refine lv_topi (fun x38 ex38 => ?_)
      have h := of_bnd h ex38
      refine lv_istore_n (lv' := [(2, .int x38), (0, .ref (ad 0)), (1, .int a1)]) hx hb dX12_rounds_38 rfl hl (by decide) rfl (fun ls hl => ?_)
      refine lv_iconst (v := 0) hx hb dX12_rounds_39 (by decide) ?_
      refine lv_topi (fun x40 ex40 => ?_)
      have h := of_bnd h ex40
      refine lv_istore_n (lv' := [(3, .int x40), (2, .int x38), (0, .ref (ad 0)), (1, .int a1)]) hx hb dX12_rounds_40 rfl hl (by decide) rfl (fun ls hl => ?_)
      refine lv_iconst (v := 0) hx hb dX12_rounds_41 (by decide) ?_
      refine lv_topi (fun x42 ex42 => ?_)
      have h := of_bnd h ex42
      refine lv_istore (lv' := [(4, .int x42), (3, .int x40), (2, .int x38), (0, .ref (ad 0)), (1, .int a1)]) hx hb dX12_rounds_42 hl (by decide) rfl (fun ls hl => ?_)
      have lp44 : ∀ (f1 : Int32) (k : Nat) (l2 : Int32) (l3 : Int32) (l4 : Int32) (S : MS) (q : Int32 × Int32 × MS) , fX12_rounds_lp44 n f1 k l2 l3 l4 S = some q → ∀ (H : Heap) (locs : List Loc), mWd D cI cJ ad A s.heap S H locs → ∀ ls : Array Slot, lv_has ls 6 [(0, .ref (ad 0)), (1, .int f1), (2, .int l2), (3, .int l3), (4, .int l4)] → (∀ (t2 : Int32) (t3 : Int32) (S1 : MS), (t2, t3, S1) = q → ∀ (H : Heap) (locs : List Loc), mWd D cI cJ ad A s.heap S1 H locs → ∀ ls : Array Slot, lv_has ls 6 [(0, .ref (ad 0)), (1, .int f1), (2, .int t2), (3, .int t3)] → W p l e (cRm 3 77 0 0) s m args below meth c H locs (0) (0) (MQ below (va_Qi (fun x u => x = r ∧ u = T) (mAft D cI cJ ad A) A) args s 0 0 A) (F0 m 99 ls [])) → W p l e (cRm 3 77 0 0) s m args below meth c H locs (0) (0) (MQ below (va_Qi (fun x u => x = r ∧ u = T) (mAft D cI cJ ad A) A) args s 0 0 A) (F0 m 44 ls []) := by
        intro f1 k
        induction k with
        | zero => intro l2 l3 l4 S q h; rw [fX12_rounds_lp44] at h; cases h
        | succ k ih44 =>
          intro l2 l3 l4 S q h H locs hw ls hl kx44_0
          rw [fX12_rounds_lp44] at h
          refine lv_iload hx hb dX12_rounds_44 (lv_at hl 4 rfl) ?_
          refine lv_bipush (v := 12) hx hb dX12_rounds_46 (by decide) ?_
          refine lv_icmp_ge (tgt := 99) hx hb dX12_rounds_48 (by decide) (fun c48 => ?_) (fun c48 => ?_)
          · have h := of_it h c48
            exact kx44_0 l2 l3 S (Option.some.inj h) _ _ hw ls (lv_sub hl [0, 1, 2, 3] rfl)
          · have h := of_if h c48
            refine lv_aload_n hx hb dX12_rounds_51 rfl (lv_at hl 0 rfl) ?_
            refine N_get hx hb hts hin hown hK hw 43 (by decide) rfl (index := 104) (by decide +kernel) rfl dX12_rounds_52 ?_
            refine lv_iload hx hb dX12_rounds_55 (lv_at hl 4 rfl) ?_
            obtain ⟨hi57, h⟩ := of_grd h
            refine va_iald hx hb hK hw.1 32 0 rfl rfl hi57 dX12_rounds_57 ?_
            refine lv_topi (fun v57 ev57 => ?_)
            have h := of_bnd h ev57
            refine lv_if_le (tgt := 93) hx hb dX12_rounds_58 (by decide) (fun c58 => ?_) (fun c58 => ?_)
            · have h := of_it h c58
              obtain ⟨x93, ex93⟩ : ∃ y : Int32, y = l4 + 1 := ⟨_, rfl⟩
              have h := of_bnd h ex93
              refine lv_iinc (v := x93) (lv' := [(4, .int x93), (0, .ref (ad 0)), (1, .int f1), (2, .int l2), (3, .int l3)]) hx hb dX12_rounds_93 hl (k := 4) rfl (by rw [ex93]; rfl) (by decide) rfl (fun ls hl => ?_)
              refine lv_goto (tgt := 44) hx hb dX12_rounds_96 (by decide) ?_
              exact ih44 l2 l3 x93 S _ h _ _ hw ls (lv_sub hl [1, 2, 3, 4, 0] rfl) kx44_0
            · have h := of_if h c58
              refine lv_iload_n hx hb dX12_rounds_61 rfl (lv_at hl 3 rfl) ?_
              refine lv_if_ne (tgt := 76) hx hb dX12_rounds_62 (by decide) (fun c62 => ?_) (fun c62 => ?_)
              · have h := of_if h c62
                refine lv_iconst (v := 1) hx hb dX12_rounds_76 (by decide) ?_
                refine lv_goto (tgt := 81) hx hb dX12_rounds_77 (by decide) ?_
                refine lv_topi (fun x81 ex81 => ?_)
                have h := of_bnd h ex81
                refine lv_istore_n (lv' := [(3, .int x81), (0, .ref (ad 0)), (1, .int f1), (2, .int l2), (4, .int l4)]) hx hb dX12_rounds_81 rfl hl (by decide) rfl (fun ls hl => ?_)
                refine lv_aload_n hx hb dX12_rounds_82 rfl (lv_at hl 1 rfl) ?_
                refine N_get hx hb hts hin hown hK hw 45 (by decide) rfl (index := 107) (by decide +kernel) rfl dX12_rounds_83 ?_
                refine lv_iload_n hx hb dX12_rounds_86 rfl (lv_at hl 3 rfl) ?_
                refine lv_iload hx hb dX12_rounds_87 (lv_at hl 4 rfl) ?_
                obtain ⟨hi89, h⟩ := of_grd h
                refine N_iast hx hb hK hw 33 rfl hi89 (pA_45 cI cJ ad S _) dX12_rounds_89 (fun S89 H locs eS89 hw => ?_)
                have h := of_bnd h eS89
                obtain ⟨x90, ex90⟩ : ∃ y : Int32, y = l2 + 1 := ⟨_, rfl⟩
                have h := of_bnd h ex90
                refine lv_iinc (v := x90) (lv' := [(2, .int x90), (3, .int x81), (0, .ref (ad 0)), (1, .int f1), (4, .int l4)]) hx hb dX12_rounds_90 hl (k := 3) rfl (by rw [ex90]; rfl) (by decide) rfl (fun ls hl => ?_)
                obtain ⟨x93, ex93⟩ : ∃ y : Int32, y = l4 + 1 := ⟨_, rfl⟩
                have h := of_bnd h ex93
                refine lv_iinc (v := x93) (lv' := [(4, .int x93), (2, .int x90), (3, .int x81), (0, .ref (ad 0)), (1, .int f1)]) hx hb dX12_rounds_93 hl (k := 4) rfl (by rw [ex93]; rfl) (by decide) rfl (fun ls hl => ?_)
                refine lv_goto (tgt := 44) hx hb dX12_rounds_96 (by decide) ?_
                exact ih44 x90 x81 x93 S89 _ h _ _ hw ls (lv_sub hl [3, 4, 1, 2, 0] rfl) kx44_0
              · have h := of_it h c62
                refine lv_aload_n hx hb dX12_rounds_65 rfl (lv_at hl 0 rfl) ?_
                refine N_get hx hb hts hin hown hK hw 43 (by decide) rfl (index := 104) (by decide +kernel) rfl dX12_rounds_66 ?_
                refine lv_iload hx hb dX12_rounds_69 (lv_at hl 4 rfl) ?_
                obtain ⟨hi71, h⟩ := of_grd h
                refine va_iald hx hb hK hw.1 32 0 rfl rfl hi71 dX12_rounds_71 ?_
                refine lv_topi (fun v71 ev71 => ?_)
                have h := of_bnd h ev71
                refine lv_iload_n hx hb dX12_rounds_72 rfl (lv_at hl 1 rfl) ?_
                refine lv_icmp_le (tgt := 80) hx hb dX12_rounds_73 (by decide) (fun c73 => ?_) (fun c73 => ?_)
                · have h := of_it h c73
                  refine lv_iconst (v := 0) hx hb dX12_rounds_80 (by decide) ?_
                  refine lv_topi (fun x81 ex81 => ?_)
                  have h := of_bnd h ex81
                  refine lv_istore_n (lv' := [(3, .int x81), (0, .ref (ad 0)), (1, .int f1), (2, .int l2), (4, .int l4)]) hx hb dX12_rounds_81 rfl hl (by decide) rfl (fun ls hl => ?_)
                  refine lv_aload_n hx hb dX12_rounds_82 rfl (lv_at hl 1 rfl) ?_
                  refine N_get hx hb hts hin hown hK hw 45 (by decide) rfl (index := 107) (by decide +kernel) rfl dX12_rounds_83 ?_
                  refine lv_iload_n hx hb dX12_rounds_86 rfl (lv_at hl 3 rfl) ?_
                  refine lv_iload hx hb dX12_rounds_87 (lv_at hl 4 rfl) ?_
                  obtain ⟨hi89, h⟩ := of_grd h
                  refine N_iast hx hb hK hw 33 rfl hi89 (pA_45 cI cJ ad S _) dX12_rounds_89 (fun S89 H locs eS89 hw => ?_)
                  have h := of_bnd h eS89
                  obtain ⟨x90, ex90⟩ : ∃ y : Int32, y = l2 + 1 := ⟨_, rfl⟩
                  have h := of_bnd h ex90
                  refine lv_iinc (v := x90) (lv' := [(2, .int x90), (3, .int x81), (0, .ref (ad 0)), (1, .int f1), (4, .int l4)]) hx hb dX12_rounds_90 hl (k := 3) rfl (by rw [ex90]; rfl) (by decide) rfl (fun ls hl => ?_)
                  obtain ⟨x93, ex93⟩ : ∃ y : Int32, y = l4 + 1 := ⟨_, rfl⟩
                  have h := of_bnd h ex93
                  refine lv_iinc (v := x93) (lv' := [(4, .int x93), (2, .int x90), (3, .int x81), (0, .ref (ad 0)), (1, .int f1)]) hx hb dX12_rounds_93 hl (k := 4) rfl (by rw [ex93]; rfl) (by decide) rfl (fun ls hl => ?_)
                  refine lv_goto (tgt := 44) hx hb dX12_rounds_96 (by decide) ?_
                  exact ih44 x90 x81 x93 S89 _ h _ _ hw ls (lv_sub hl [3, 4, 1, 2, 0] rfl) kx44_0
                · have h := of_if h c73
                  refine lv_iconst (v := 1) hx hb dX12_rounds_76 (by decide) ?_
                  refine lv_goto (tgt := 81) hx hb dX12_rounds_77 (by decide) ?_
                  refine lv_topi (fun x81 ex81 => ?_)
                  have h := of_bnd h ex81
                  refine lv_istore_n (lv' := [(3, .int x81), (0, .ref (ad 0)), (1, .int f1), (2, .int l2), (4, .int l4)]) hx hb dX12_rounds_81 rfl hl (by decide) rfl (fun ls hl => ?_)
                  refine lv_aload_n hx hb dX12_rounds_82 rfl (lv_at hl 1 rfl) ?_
                  refine N_get hx hb hts hin hown hK hw 45 (by decide) rfl (index := 107) (by decide +kernel) rfl dX12_rounds_83 ?_
                  refine lv_iload_n hx hb dX12_rounds_86 rfl (lv_at hl 3 rfl) ?_
                  refine lv_iload hx hb dX12_rounds_87 (lv_at hl 4 rfl) ?_
                  obtain ⟨hi89, h⟩ := of_grd h
                  refine N_iast hx hb hK hw 33 rfl hi89 (pA_45 cI cJ ad S _) dX12_rounds_89 (fun S89 H locs eS89 hw => ?_)
                  have h := of_bnd h eS89
                  obtain ⟨x90, ex90⟩ : ∃ y : Int32, y = l2 + 1 := ⟨_, rfl⟩
                  have h := of_bnd h ex90
                  refine lv_iinc (v := x90) (lv' := [(2, .int x90), (3, .int x81), (0, .ref (ad 0)), (1, .int f1), (4, .int l4)]) hx hb dX12_rounds_90 hl (k := 3) rfl (by rw [ex90]; rfl) (by decide) rfl (fun ls hl => ?_)
                  obtain ⟨x93, ex93⟩ : ∃ y : Int32, y = l4 + 1 := ⟨_, rfl⟩
                  have h := of_bnd h ex93
                  refine lv_iinc (v := x93) (lv' := [(4, .int x93), (2, .int x90), (3, .int x81), (0, .ref (ad 0)), (1, .int f1)]) hx hb dX12_rounds_93 hl (k := 4) rfl (by rw [ex93]; rfl) (by decide) rfl (fun ls hl => ?_)
                  refine lv_goto (tgt := 44) hx hb dX12_rounds_96 (by decide) ?_
                  exact ih44 x90 x81 x93 S89 _ h _ _ hw ls (lv_sub hl [3, 4, 1, 2, 0] rfl) kx44_0
      obtain ⟨q44, hq44, h⟩ := of_cal h
      refine lp44 a1 n.1 x38 x40 x42 S2 q44  hq44 _ _ hw ls (lv_sub hl [3, 4, 2, 1, 0] rfl) ?_
      · intro t2_44 t3_44 S44 eq H locs hw ls hl
        subst eq
        have h := of_un2 h
        have h := of_un2 h
        refine lv_iload_n hx hb dX12_rounds_99 rfl (lv_at hl 3 rfl) ?_
        refine lv_if_eq (tgt := 110) hx hb dX12_rounds_100 (by decide) (fun c100 => ?_) (fun c100 => ?_)
        · have h := of_it h c100
          refine lv_aload_n hx hb dX12_rounds_110 rfl (lv_at hl 0 rfl) ?_
          refine lv_iload_n hx hb dX12_rounds_111 rfl (lv_at hl 2 rfl) ?_
          obtain ⟨q112, hq112, h⟩ := of_cal h
          obtain ⟨S112, eS112⟩ : ∃ x, x = q112 := ⟨_, rfl⟩
          subst eS112
          refine N_callv (av := [.int t2_44]) (rest := []) ⟨hx, hb, hml, hown, hts⟩ hA hK hw (cX12_findTours_ok l D cI cJ ad n S44 t2_44 hq112) (cwV 1 hts gX12_rounds_X12_findTours rfl rfl rfl (by decide +kernel) ⟨Nat.le_of_ble_eq_true rfl, Nat.le_of_ble_eq_true rfl⟩) rfl hl.1 rfl (Nat.le_of_ble_eq_true rfl) dX12_rounds_112 ⟨Nat.le_refl _, Nat.le_refl _⟩ (fun H locs hw => ?_)
          refine lv_aload_n hx hb dX12_rounds_115 rfl (lv_at hl 0 rfl) ?_
          refine lv_iload_n hx hb dX12_rounds_116 rfl (lv_at hl 2 rfl) ?_
          refine lv_iload_n hx hb dX12_rounds_117 rfl (lv_at hl 1 rfl) ?_
          obtain ⟨q118, hq118, h⟩ := of_cal h
          obtain ⟨S118, eS118⟩ : ∃ x, x = q118 := ⟨_, rfl⟩
          subst eS118
          refine N_callv (av := [.int t2_44, .int a1]) (rest := []) ⟨hx, hb, hml, hown, hts⟩ hA hK hw (cX12_findRounds_ok l D cI cJ ad n S112 t2_44 a1 hq118) (cwV 2 hts gX12_rounds_X12_findRounds rfl rfl rfl (by decide +kernel) ⟨Nat.le_of_ble_eq_true rfl, Nat.le_of_ble_eq_true rfl⟩) rfl hl.1 rfl (Nat.le_of_ble_eq_true rfl) dX12_rounds_118 ⟨Nat.le_refl _, Nat.le_refl _⟩ (fun H locs hw => ?_)
          refine lv_iconst (v := 1) hx hb dX12_rounds_121 (by decide) ?_
          refine lv_iload_n hx hb dX12_rounds_122 rfl (lv_at hl 2 rfl) ?_
          refine lv_ishl hx hb dX12_rounds_123 ?_
          refine lv_iconst (v := 1) hx hb dX12_rounds_124 (by decide) ?_
          refine lv_isub hx hb dX12_rounds_125 ?_
          refine lv_topi (fun x126 ex126 => ?_)
          have h := of_bnd h ex126
          refine lv_istore (lv' := [(4, .int x126), (0, .ref (ad 0)), (1, .int a1), (2, .int t2_44), (3, .int t3_44)]) hx hb dX12_rounds_126 hl (by decide) rfl (fun ls hl => ?_)
          refine lv_aload_n hx hb dX12_rounds_128 rfl (lv_at hl 1 rfl) ?_
          refine lv_aload_n hx hb dX12_rounds_129 rfl (lv_at hl 1 rfl) ?_
          refine N_get hx hb hts hin hown hK hw 52 (by decide) rfl (index := 128) (by decide +kernel) rfl dX12_rounds_130 ?_
          refine lv_iload hx hb dX12_rounds_133 (lv_at hl 0 rfl) ?_
          obtain ⟨hi135, h⟩ := of_grd h
          refine va_iald hx hb hK hw.1 40 0 rfl rfl hi135 dX12_rounds_135 ?_
          refine lv_topi (fun v135 ev135 => ?_)
          have h := of_bnd h ev135
          refine N_put hx hb hts hin hown hK hw 56 (by decide) rfl rfl (index := 137) (by decide +kernel) (ty := .int) (by decide +kernel) rfl rfl (pI_56 cI cJ ad S118 _) dX12_rounds_136 (fun S136 H locs eS136 hw => ?_)
          have h := of_bnd h eS136
          refine lv_iconst (v := 0) hx hb dX12_rounds_139 (by decide) ?_
          refine lv_topi (fun x140 ex140 => ?_)
          have h := of_bnd h ex140
          refine lv_istore (lv' := [(5, .int x140), (4, .int x126), (0, .ref (ad 0)), (1, .int a1), (2, .int t2_44), (3, .int t3_44)]) hx hb dX12_rounds_140 hl (by decide) rfl (fun ls hl => ?_)
          have lp142 : ∀ (f4 : Int32) (k : Nat) (l5 : Int32) (S : MS) (q : MS) , fX12_rounds_lp142 n f4 k l5 S = some q → ∀ (H : Heap) (locs : List Loc), mWd D cI cJ ad A s.heap S H locs → ∀ ls : Array Slot, lv_has ls 6 [(0, .ref (ad 0)), (4, .int f4), (5, .int l5)] → (∀  (S1 : MS), S1 = q → ∀ (H : Heap) (locs : List Loc), mWd D cI cJ ad A s.heap S1 H locs → ∀ ls : Array Slot, lv_has ls 6 [(0, .ref (ad 0)), (4, .int f4)] → W p l e (cRm 3 77 0 0) s m args below meth c H locs (0) (0) (MQ below (va_Qi (fun x u => x = r ∧ u = T) (mAft D cI cJ ad A) A) args s 0 0 A) (F0 m 177 ls [])) → W p l e (cRm 3 77 0 0) s m args below meth c H locs (0) (0) (MQ below (va_Qi (fun x u => x = r ∧ u = T) (mAft D cI cJ ad A) A) args s 0 0 A) (F0 m 142 ls []) := by
            intro f4 k
            induction k with
            | zero => intro l5 S q h; rw [fX12_rounds_lp142] at h; cases h
            | succ k ih142 =>
              intro l5 S q h H locs hw ls hl kx142_0
              rw [fX12_rounds_lp142] at h
              refine lv_iload hx hb dX12_rounds_142 (lv_at hl 2 rfl) ?_
              refine lv_aload_n hx hb dX12_rounds_144 rfl (lv_at hl 0 rfl) ?_
              refine N_get hx hb hts hin hown hK hw 56 (by decide) rfl (index := 137) (by decide +kernel) rfl dX12_rounds_145 ?_
              refine lv_topi (fun v145 ev145 => ?_)
              have h := of_bnd h ev145
              refine lv_icmp_ge (tgt := 177) hx hb dX12_rounds_148 (by decide) (fun c148 => ?_) (fun c148 => ?_)
              · have h := of_it h c148
                exact kx142_0 S (Option.some.inj h) _ _ hw ls (lv_sub hl [0, 1] rfl)
              · have h := of_if h c148
                refine lv_aload_n hx hb dX12_rounds_151 rfl (lv_at hl 0 rfl) ?_
                refine N_get hx hb hts hin hown hK hw 55 (by decide) rfl (index := 134) (by decide +kernel) rfl dX12_rounds_152 ?_
                refine lv_iload hx hb dX12_rounds_155 (lv_at hl 2 rfl) ?_
                refine lv_aload_n hx hb dX12_rounds_157 rfl (lv_at hl 0 rfl) ?_
                refine N_get hx hb hts hin hown hK hw 51 (by decide) rfl (index := 125) (by decide +kernel) rfl dX12_rounds_158 ?_
                refine lv_bipush (v := 16) hx hb dX12_rounds_161 (by decide) ?_
                refine lv_iload hx hb dX12_rounds_163 (lv_at hl 1 rfl) ?_
                refine lv_imul hx hb dX12_rounds_165 ?_
                refine lv_iload hx hb dX12_rounds_166 (lv_at hl 2 rfl) ?_
                refine lv_iadd hx hb dX12_rounds_168 ?_
                obtain ⟨hi169, h⟩ := of_grd h
                refine va_iald hx hb hK hw.1 39 0 rfl rfl hi169 dX12_rounds_169 ?_
                refine lv_topi (fun v169 ev169 => ?_)
                have h := of_bnd h ev169
                obtain ⟨hi170, h⟩ := of_grd h
                refine N_iast hx hb hK hw 42 rfl hi170 (pA_55 cI cJ ad S _) dX12_rounds_170 (fun S170 H locs eS170 hw => ?_)
                have h := of_bnd h eS170
                obtain ⟨x171, ex171⟩ : ∃ y : Int32, y = l5 + 1 := ⟨_, rfl⟩
                have h := of_bnd h ex171
                refine lv_iinc (v := x171) (lv' := [(5, .int x171), (0, .ref (ad 0)), (4, .int f4)]) hx hb dX12_rounds_171 hl (k := 2) rfl (by rw [ex171]; rfl) (by decide) rfl (fun ls hl => ?_)
                refine lv_goto (tgt := 142) hx hb dX12_rounds_174 (by decide) ?_
                exact ih142 x171 S170 _ h _ _ hw ls (lv_sub hl [1, 2, 0] rfl) kx142_0
          obtain ⟨q142, hq142, h⟩ := of_cal h
          refine lp142 x126 n.1 x140 S136 q142  hq142 _ _ hw ls (lv_sub hl [2, 1, 0] rfl) ?_
          · intro S142 eq H locs hw ls hl
            subst eq
            refine lv_aload_n hx hb dX12_rounds_177 rfl (lv_at hl 0 rfl) ?_
            refine lv_aload_n hx hb dX12_rounds_178 rfl (lv_at hl 0 rfl) ?_
            refine N_get hx hb hts hin hown hK hw 49 (by decide) rfl (index := 119) (by decide +kernel) rfl dX12_rounds_179 ?_
            refine lv_iload hx hb dX12_rounds_182 (lv_at hl 1 rfl) ?_
            obtain ⟨hi184, h⟩ := of_grd h
            refine va_iald hx hb hK hw.1 37 0 rfl rfl hi184 dX12_rounds_184 ?_
            refine lv_topi (fun v184 ev184 => ?_)
            have h := of_bnd h ev184
            obtain ⟨q185, hq185, h⟩ := of_cal h
            obtain ⟨r185, S185⟩ := q185
            have h := of_un2 h
            refine N_calli (av := [.int v184]) (rest := []) ⟨hx, hb, hml, hown, hts⟩ hA hK hw (cX12_told_ok l D cI cJ ad n S142 v184 hq185) (cwV 1 hts gX12_rounds_X12_told rfl rfl rfl (by decide +kernel) ⟨Nat.le_of_ble_eq_true rfl, Nat.le_of_ble_eq_true rfl⟩) rfl hl.1 rfl (Nat.le_of_ble_eq_true rfl) dX12_rounds_185 ⟨Nat.le_refl _, Nat.le_refl _⟩ (fun H locs hw => ?_)
            obtain ⟨rfl, rfl⟩ := of_ret2 h
            exact M_iret hx hb hr hlocks hK hw.1 hw.2.1 hw.2.2 dX12_rounds_188 ⟨rfl, rfl⟩
        · have h := of_if h c100
          refine lv_aload_n hx hb dX12_rounds_103 rfl (lv_at hl 0 rfl) ?_
          refine lv_bipush (v := -5) hx hb dX12_rounds_104 (by decide) ?_
          obtain ⟨q106, hq106, h⟩ := of_cal h
          obtain ⟨r106, S106⟩ := q106
          have h := of_un2 h
          refine N_calli (av := [.int (-5 : Int32)]) (rest := []) ⟨hx, hb, hml, hown, hts⟩ hA hK hw (cX12_told_ok l D cI cJ ad n S44 (-5 : Int32) hq106) (cwV 1 hts gX12_rounds_X12_told rfl rfl rfl (by decide +kernel) ⟨Nat.le_of_ble_eq_true rfl, Nat.le_of_ble_eq_true rfl⟩) rfl hl.1 rfl (Nat.le_of_ble_eq_true rfl) dX12_rounds_106 ⟨Nat.le_refl _, Nat.le_refl _⟩ (fun H locs hw => ?_)
          obtain ⟨rfl, rfl⟩ := of_ret2 h
          exact M_iret hx hb hr hlocks hK hw.1 hw.2.1 hw.2.2 dX12_rounds_109 ⟨rfl, rfl⟩
    · have h := of_it h c27
      refine lv_aload_n hx hb dX12_rounds_30 rfl (lv_at hl 0 rfl) ?_
      refine lv_bipush (v := -4) hx hb dX12_rounds_31 (by decide) ?_
      obtain ⟨q33, hq33, h⟩ := of_cal h
      obtain ⟨r33, S33⟩ := q33
      have h := of_un2 h
      refine N_calli (av := [.int (-4 : Int32)]) (rest := []) ⟨hx, hb, hml, hown, hts⟩ hA hK hw (cX12_told_ok l D cI cJ ad n S2 (-4 : Int32) hq33) (cwV 1 hts gX12_rounds_X12_told rfl rfl rfl (by decide +kernel) ⟨Nat.le_of_ble_eq_true rfl, Nat.le_of_ble_eq_true rfl⟩) rfl hl.1 rfl (Nat.le_of_ble_eq_true rfl) dX12_rounds_33 ⟨Nat.le_refl _, Nat.le_refl _⟩ (fun H locs hw => ?_)
      obtain ⟨rfl, rfl⟩ := of_ret2 h
      exact M_iret hx hb hr hlocks hK hw.1 hw.2.1 hw.2.2 dX12_rounds_36 ⟨rfl, rfl⟩
  · have h := of_it h c14
    refine lv_aload_n hx hb dX12_rounds_17 rfl (lv_at hl 0 rfl) ?_
    refine lv_iconst (v := -1) hx hb dX12_rounds_18 (by decide) ?_
    obtain ⟨q19, hq19, h⟩ := of_cal h
    obtain ⟨r19, S19⟩ := q19
    have h := of_un2 h
    refine N_calli (av := [.int (-1 : Int32)]) (rest := []) ⟨hx, hb, hml, hown, hts⟩ hA hK hw (cX12_told_ok l D cI cJ ad n S2 (-1 : Int32) hq19) (cwV 1 hts gX12_rounds_X12_told rfl rfl rfl (by decide +kernel) ⟨Nat.le_of_ble_eq_true rfl, Nat.le_of_ble_eq_true rfl⟩) rfl hl.1 rfl (Nat.le_of_ble_eq_true rfl) dX12_rounds_19 ⟨Nat.le_refl _, Nat.le_refl _⟩ (fun H locs hw => ?_)
    obtain ⟨rfl, rfl⟩ := of_ret2 h
    exact M_iret hx hb hr hlocks hK hw.1 hw.2.1 hw.2.2 dX12_rounds_22 ⟨rfl, rfl⟩
